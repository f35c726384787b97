theorem dX12_growsAll_40 : decode cX12_growsAll 40 = .ok (.if_icmp .ge 21, 3) := by decide +kernel
theorem dX12_growsAll_43 : decode cX12_growsAll 43 = .ok (.aload_n 0, 1) := by decide +kernel
theorem dX12_growsAll_44 : decode cX12_growsAll 44 = .ok (.getfield 45, 3) := by decide +kernel
theorem dX12_growsAll_47 : decode cX12_growsAll 47 = .ok (.iload_n 2, 1) := by decide +kernel
theorem dX12_growsAll_48 : decode cX12_growsAll 48 = .ok (.aload_n 0, 1) := by decide +kernel
theorem dX12_growsAll_49 : decode cX12_growsAll 49 = .ok (.getfield 42, 3) := by decide +kernel
theorem dX12_growsAll_52 : decode cX12_growsAll 52 = .ok (.iload_n 2, 1) := by decide +kernel
theorem dX12_growsAll_53 : decode cX12_growsAll 53 = .ok (.iaload, 1) := by decide +kernel
theorem dX12_growsAll_54 : decode cX12_growsAll 54 = .ok (.iastore, 1) := by decide +kernel
theorem dX12_growsAll_55 : decode cX12_growsAll 55 = .ok (.iinc 2 1, 3) := by decide +kernel
theorem dX12_growsAll_58 : decode cX12_growsAll 58 = .ok (.goto (-23), 3) := by decide +kernel
theorem dX12_growsAll_61 : decode cX12_growsAll 61 = .ok (.return_, 1) := by decide +kernel
theorem dX12_isMet_0 : decode cX12_isMet 0 = .ok (.iload_n 2, 1) := by decide +kernel
theorem dX12_isMet_1 : decode cX12_isMet 1 = .ok (.ifCond .ne 29, 3) := by decide +kernel
theorem dX12_isMet_4 : decode cX12_isMet 4 = .ok (.aload_n 0, 1) := by decide +kernel
theorem dX12_isMet_5 : decode cX12_isMet 5 = .ok (.invokevirtual 321, 3) := by decide +kernel
theorem dX12_isMet_8 : decode cX12_isMet 8 = .ok (.aload_n 0, 1) := by decide +kernel
theorem dX12_isMet_9 : decode cX12_isMet 9 = .ok (.getfield 45, 3) := by decide +kernel
theorem dX12_isMet_12 : decode cX12_isMet 12 = .ok (.aload_n 0, 1) := by decide +kernel
theorem dX12_isMet_13 : decode cX12_isMet 13 = .ok (.getfield 48, 3) := by decide +kernel
theorem dX12_isMet_16 : decode cX12_isMet 16 = .ok (.iload_n 1, 1) := by decide +kernel
theorem dX12_isMet_17 : decode cX12_isMet 17 = .ok (.iaload, 1) := by decide +kernel
theorem dX12_isMet_18 : decode cX12_isMet 18 = .ok (.iconst 1, 1) := by decide +kernel
theorem dX12_isMet_19 : decode cX12_isMet 19 = .ok (.isub, 1) := by decide +kernel
theorem dX12_isMet_20 : decode cX12_isMet 20 = .ok (.iaload, 1) := by decide +kernel
theorem dX12_isMet_21 : decode cX12_isMet 21 = .ok (.if_icmp .ne 7, 3) := by decide +kernel
theorem dX12_isMet_24 : decode cX12_isMet 24 = .ok (.iconst 1, 1) := by decide +kernel
theorem dX12_isMet_25 : decode cX12_isMet 25 = .ok (.goto 4, 3) := by decide +kernel
theorem dX12_isMet_28 : decode cX12_isMet 28 = .ok (.iconst 0, 1) := by decide +kernel
theorem dX12_isMet_29 : decode cX12_isMet 29 = .ok (.ireturn, 1) := by decide +kernel
theorem dX12_isMet_30 : decode cX12_isMet 30 = .ok (.aload_n 0, 1) := by decide +kernel
theorem dX12_isMet_31 : decode cX12_isMet 31 = .ok (.getfield 257, 3) := by decide +kernel
theorem dX12_isMet_34 : decode cX12_isMet 34 = .ok (.aload_n 0, 1) := by decide +kernel
theorem dX12_isMet_35 : decode cX12_isMet 35 = .ok (.getfield 48, 3) := by decide +kernel
theorem dX12_isMet_38 : decode cX12_isMet 38 = .ok (.iload_n 1, 1) := by decide +kernel
theorem dX12_isMet_39 : decode cX12_isMet 39 = .ok (.iaload, 1) := by decide +kernel
theorem dX12_isMet_40 : decode cX12_isMet 40 = .ok (.if_icmp .ne 7, 3) := by decide +kernel
theorem dX12_isMet_43 : decode cX12_isMet 43 = .ok (.iconst 1, 1) := by decide +kernel
theorem dX12_isMet_44 : decode cX12_isMet 44 = .ok (.goto 4, 3) := by decide +kernel
theorem dX12_isMet_47 : decode cX12_isMet 47 = .ok (.iconst 0, 1) := by decide +kernel
theorem dX12_isMet_48 : decode cX12_isMet 48 = .ok (.istore_n 3, 1) := by decide +kernel
theorem dX12_isMet_49 : decode cX12_isMet 49 = .ok (.iconst 0, 1) := by decide +kernel
theorem dX12_isMet_50 : decode cX12_isMet 50 = .ok (.istore 4, 2) := by decide +kernel
theorem dX12_isMet_52 : decode cX12_isMet 52 = .ok (.iload 4, 2) := by decide +kernel
theorem dX12_isMet_54 : decode cX12_isMet 54 = .ok (.aload_n 0, 1) := by decide +kernel
theorem dX12_isMet_55 : decode cX12_isMet 55 = .ok (.getfield 257, 3) := by decide +kernel
theorem dX12_isMet_58 : decode cX12_isMet 58 = .ok (.if_icmp .ge 36, 3) := by decide +kernel
theorem dX12_isMet_61 : decode cX12_isMet 61 = .ok (.iload_n 3, 1) := by decide +kernel
theorem dX12_isMet_62 : decode cX12_isMet 62 = .ok (.ifCond .eq 32, 3) := by decide +kernel
theorem dX12_isMet_65 : decode cX12_isMet 65 = .ok (.aload_n 0, 1) := by decide +kernel
theorem dX12_isMet_66 : decode cX12_isMet 66 = .ok (.getfield 42, 3) := by decide +kernel
theorem dX12_isMet_69 : decode cX12_isMet 69 = .ok (.iload 4, 2) := by decide +kernel
theorem dX12_isMet_71 : decode cX12_isMet 71 = .ok (.iaload, 1) := by decide +kernel
theorem dX12_isMet_72 : decode cX12_isMet 72 = .ok (.aload_n 0, 1) := by decide +kernel
theorem dX12_isMet_73 : decode cX12_isMet 73 = .ok (.getfield 45, 3) := by decide +kernel
theorem dX12_isMet_76 : decode cX12_isMet 76 = .ok (.iload 4, 2) := by decide +kernel
theorem dX12_isMet_78 : decode cX12_isMet 78 = .ok (.iaload, 1) := by decide +kernel
theorem dX12_isMet_79 : decode cX12_isMet 79 = .ok (.if_icmp .ne 7, 3) := by decide +kernel
theorem dX12_isMet_82 : decode cX12_isMet 82 = .ok (.iconst 1, 1) := by decide +kernel
theorem dX12_isMet_83 : decode cX12_isMet 83 = .ok (.goto 4, 3) := by decide +kernel
theorem dX12_isMet_86 : decode cX12_isMet 86 = .ok (.iconst 0, 1) := by decide +kernel
theorem dX12_isMet_87 : decode cX12_isMet 87 = .ok (.istore_n 3, 1) := by decide +kernel
theorem dX12_isMet_88 : decode cX12_isMet 88 = .ok (.iinc 4 1, 3) := by decide +kernel
theorem dX12_isMet_91 : decode cX12_isMet 91 = .ok (.goto (-39), 3) := by decide +kernel
theorem dX12_isMet_94 : decode cX12_isMet 94 = .ok (.iload_n 3, 1) := by decide +kernel
theorem dX12_isMet_95 : decode cX12_isMet 95 = .ok (.ireturn, 1) := by decide +kernel
theorem dX12_meetOf_0 : decode cX12_meetOf 0 = .ok (.aload_n 0, 1) := by decide +kernel
theorem dX12_meetOf_1 : decode cX12_meetOf 1 = .ok (.iload_n 2, 1) := by decide +kernel
theorem dX12_meetOf_2 : decode cX12_meetOf 2 = .ok (.invokevirtual 387, 3) := by decide +kernel
theorem dX12_meetOf_5 : decode cX12_meetOf 5 = .ok (.aload_n 0, 1) := by decide +kernel
theorem dX12_meetOf_6 : decode cX12_meetOf 6 = .ok (.iload_n 1, 1) := by decide +kernel
theorem dX12_meetOf_7 : decode cX12_meetOf 7 = .ok (.invokevirtual 311, 3) := by decide +kernel
theorem dX12_meetOf_10 : decode cX12_meetOf 10 = .ok (.iconst 0, 1) := by decide +kernel
theorem dX12_meetOf_11 : decode cX12_meetOf 11 = .ok (.istore 4, 2) := by decide +kernel
theorem dX12_meetOf_13 : decode cX12_meetOf 13 = .ok (.iload 4, 2) := by decide +kernel
theorem dX12_meetOf_15 : decode cX12_meetOf 15 = .ok (.bipush 40, 2) := by decide +kernel
theorem dX12_meetOf_17 : decode cX12_meetOf 17 = .ok (.if_icmp .gt 26, 3) := by decide +kernel
theorem dX12_meetOf_20 : decode cX12_meetOf 20 = .ok (.aload_n 0, 1) := by decide +kernel
theorem dX12_meetOf_21 : decode cX12_meetOf 21 = .ok (.iload 4, 2) := by decide +kernel
theorem dX12_meetOf_23 : decode cX12_meetOf 23 = .ok (.iload_n 3, 1) := by decide +kernel
theorem dX12_meetOf_24 : decode cX12_meetOf 24 = .ok (.invokevirtual 390, 3) := by decide +kernel
theorem dX12_meetOf_27 : decode cX12_meetOf 27 = .ok (.ifCond .eq 6, 3) := by decide +kernel
theorem dX12_meetOf_30 : decode cX12_meetOf 30 = .ok (.iload 4, 2) := by decide +kernel
theorem dX12_meetOf_32 : decode cX12_meetOf 32 = .ok (.ireturn, 1) := by decide +kernel
theorem dX12_meetOf_33 : decode cX12_meetOf 33 = .ok (.aload_n 0, 1) := by decide +kernel
theorem dX12_meetOf_34 : decode cX12_meetOf 34 = .ok (.invokevirtual 308, 3) := by decide +kernel
theorem dX12_meetOf_37 : decode cX12_meetOf 37 = .ok (.iinc 4 1, 3) := by decide +kernel
theorem dX12_meetOf_40 : decode cX12_meetOf 40 = .ok (.goto (-27), 3) := by decide +kernel
theorem dX12_meetOf_43 : decode cX12_meetOf 43 = .ok (.iconst (-1), 1) := by decide +kernel
theorem dX12_meetOf_44 : decode cX12_meetOf 44 = .ok (.ireturn, 1) := by decide +kernel
theorem dX12_meet_0 : decode cX12_meet 0 = .ok (.aload_n 0, 1) := by decide +kernel
theorem dX12_meet_1 : decode cX12_meet 1 = .ok (.iconst 0, 1) := by decide +kernel
theorem dX12_meet_2 : decode cX12_meet 2 = .ok (.putfield 3, 3) := by decide +kernel
theorem dX12_meet_5 : decode cX12_meet 5 = .ok (.aload_n 0, 1) := by decide +kernel
theorem dX12_meet_6 : decode cX12_meet 6 = .ok (.aload_n 0, 1) := by decide +kernel
theorem dX12_meet_7 : decode cX12_meet 7 = .ok (.iload_n 1, 1) := by decide +kernel
theorem dX12_meet_8 : decode cX12_meet 8 = .ok (.invokevirtual 82, 3) := by decide +kernel
theorem dX12_meet_11 : decode cX12_meet 11 = .ok (.ifCond .ne 11, 3) := by decide +kernel
theorem dX12_meet_14 : decode cX12_meet 14 = .ok (.aload_n 0, 1) := by decide +kernel
theorem dX12_meet_15 : decode cX12_meet 15 = .ok (.iload_n 2, 1) := by decide +kernel
theorem dX12_meet_16 : decode cX12_meet 16 = .ok (.invokevirtual 82, 3) := by decide +kernel
theorem dX12_meet_19 : decode cX12_meet 19 = .ok (.ifCond .eq 7, 3) := by decide +kernel
theorem dX12_meet_22 : decode cX12_meet 22 = .ok (.iconst 1, 1) := by decide +kernel
theorem dX12_meet_23 : decode cX12_meet 23 = .ok (.goto 4, 3) := by decide +kernel
theorem dX12_meet_26 : decode cX12_meet 26 = .ok (.iconst 0, 1) := by decide +kernel
theorem dX12_meet_27 : decode cX12_meet 27 = .ok (.iconst 1, 1) := by decide +kernel
theorem dX12_meet_28 : decode cX12_meet 28 = .ok (.invokevirtual 254, 3) := by decide +kernel
theorem dX12_meet_31 : decode cX12_meet 31 = .ok (.ifCond .ne 21, 3) := by decide +kernel
theorem dX12_meet_34 : decode cX12_meet 34 = .ok (.aload_n 0, 1) := by decide +kernel
theorem dX12_meet_35 : decode cX12_meet 35 = .ok (.iload_n 1, 1) := by decide +kernel
theorem dX12_meet_36 : decode cX12_meet 36 = .ok (.iload_n 2, 1) := by decide +kernel
theorem dX12_meet_37 : decode cX12_meet 37 = .ok (.if_icmp .ne 7, 3) := by decide +kernel
theorem dX12_meet_40 : decode cX12_meet 40 = .ok (.iconst 1, 1) := by decide +kernel
theorem dX12_meet_41 : decode cX12_meet 41 = .ok (.goto 4, 3) := by decide +kernel
theorem dX12_meet_44 : decode cX12_meet 44 = .ok (.iconst 0, 1) := by decide +kernel
theorem dX12_meet_45 : decode cX12_meet 45 = .ok (.iconst 2, 1) := by decide +kernel
theorem dX12_meet_46 : decode cX12_meet 46 = .ok (.invokevirtual 254, 3) := by decide +kernel
theorem dX12_meet_49 : decode cX12_meet 49 = .ok (.ifCond .eq 7, 3) := by decide +kernel
theorem dX12_meet_52 : decode cX12_meet 52 = .ok (.iconst 0, 1) := by decide +kernel
theorem dX12_meet_53 : decode cX12_meet 53 = .ok (.goto 10, 3) := by decide +kernel
theorem dX12_meet_56 : decode cX12_meet 56 = .ok (.aload_n 0, 1) := by decide +kernel
theorem dX12_meet_57 : decode cX12_meet 57 = .ok (.iload_n 1, 1) := by decide +kernel
theorem dX12_meet_58 : decode cX12_meet 58 = .ok (.iload_n 2, 1) := by decide +kernel
theorem dX12_meet_59 : decode cX12_meet 59 = .ok (.iload_n 3, 1) := by decide +kernel
theorem dX12_meet_60 : decode cX12_meet 60 = .ok (.invokevirtual 394, 3) := by decide +kernel
theorem dX12_meet_63 : decode cX12_meet 63 = .ok (.ireturn, 1) := by decide +kernel
theorem dX12_part_0 : decode cX12_part 0 = .ok (.aload_n 0, 1) := by decide +kernel
theorem dX12_part_1 : decode cX12_part 1 = .ok (.iconst 0, 1) := by decide +kernel
theorem dX12_part_2 : decode cX12_part 2 = .ok (.putfield 3, 3) := by decide +kernel
theorem dX12_part_5 : decode cX12_part 5 = .ok (.aload_n 0, 1) := by decide +kernel
theorem dX12_part_6 : decode cX12_part 6 = .ok (.aload_n 0, 1) := by decide +kernel
theorem dX12_part_7 : decode cX12_part 7 = .ok (.iload_n 1, 1) := by decide +kernel
theorem dX12_part_8 : decode cX12_part 8 = .ok (.invokevirtual 82, 3) := by decide +kernel
theorem dX12_part_11 : decode cX12_part 11 = .ok (.ifCond .ne 11, 3) := by decide +kernel
theorem dX12_part_14 : decode cX12_part 14 = .ok (.aload_n 0, 1) := by decide +kernel
theorem dX12_part_15 : decode cX12_part 15 = .ok (.iload_n 2, 1) := by decide +kernel
theorem dX12_part_16 : decode cX12_part 16 = .ok (.invokevirtual 82, 3) := by decide +kernel
theorem dX12_part_19 : decode cX12_part 19 = .ok (.ifCond .eq 7, 3) := by decide +kernel
theorem dX12_part_22 : decode cX12_part 22 = .ok (.iconst 1, 1) := by decide +kernel
theorem dX12_part_23 : decode cX12_part 23 = .ok (.goto 4, 3) := by decide +kernel
theorem dX12_part_26 : decode cX12_part 26 = .ok (.iconst 0, 1) := by decide +kernel
theorem dX12_part_27 : decode cX12_part 27 = .ok (.iconst 1, 1) := by decide +kernel
theorem dX12_part_28 : decode cX12_part 28 = .ok (.invokevirtual 254, 3) := by decide +kernel
theorem dX12_part_31 : decode cX12_part 31 = .ok (.ifCond .ne 21, 3) := by decide +kernel
theorem dX12_part_34 : decode cX12_part 34 = .ok (.aload_n 0, 1) := by decide +kernel
theorem dX12_part_35 : decode cX12_part 35 = .ok (.iload_n 1, 1) := by decide +kernel
theorem dX12_part_36 : decode cX12_part 36 = .ok (.iload_n 2, 1) := by decide +kernel
theorem dX12_part_37 : decode cX12_part 37 = .ok (.if_icmp .ne 7, 3) := by decide +kernel
theorem dX12_part_40 : decode cX12_part 40 = .ok (.iconst 1, 1) := by decide +kernel
theorem dX12_part_41 : decode cX12_part 41 = .ok (.goto 4, 3) := by decide +kernel
theorem dX12_part_44 : decode cX12_part 44 = .ok (.iconst 0, 1) := by decide +kernel
theorem dX12_part_45 : decode cX12_part 45 = .ok (.iconst 2, 1) := by decide +kernel
theorem dX12_part_46 : decode cX12_part 46 = .ok (.invokevirtual 254, 3) := by decide +kernel
theorem dX12_part_49 : decode cX12_part 49 = .ok (.ifCond .eq 5, 3) := by decide +kernel
theorem dX12_part_52 : decode cX12_part 52 = .ok (.iconst 0, 1) := by decide +kernel
theorem dX12_part_53 : decode cX12_part 53 = .ok (.ireturn, 1) := by decide +kernel
theorem dX12_part_54 : decode cX12_part 54 = .ok (.aload_n 0, 1) := by decide +kernel
theorem dX12_part_55 : decode cX12_part 55 = .ok (.iload_n 1, 1) := by decide +kernel
theorem dX12_part_56 : decode cX12_part 56 = .ok (.invokevirtual 86, 3) := by decide +kernel
theorem dX12_part_59 : decode cX12_part 59 = .ok (.aload_n 0, 1) := by decide +kernel
theorem dX12_part_60 : decode cX12_part 60 = .ok (.iload_n 2, 1) := by decide +kernel
theorem dX12_part_61 : decode cX12_part 61 = .ok (.invokevirtual 86, 3) := by decide +kernel
theorem dX12_part_64 : decode cX12_part 64 = .ok (.invokestatic 303, 3) := by decide +kernel
theorem dX12_part_67 : decode cX12_part 67 = .ok (.istore_n 3, 1) := by decide +kernel
theorem dX12_part_68 : decode cX12_part 68 = .ok (.iconst 0, 1) := by decide +kernel
theorem dX12_part_69 : decode cX12_part 69 = .ok (.istore 4, 2) := by decide +kernel
theorem dX12_part_71 : decode cX12_part 71 = .ok (.iload 4, 2) := by decide +kernel
theorem dX12_part_73 : decode cX12_part 73 = .ok (.iload_n 3, 1) := by decide +kernel
theorem dX12_part_74 : decode cX12_part 74 = .ok (.if_icmp .ge 29, 3) := by decide +kernel
theorem dX12_part_77 : decode cX12_part 77 = .ok (.aload_n 0, 1) := by decide +kernel
theorem dX12_part_78 : decode cX12_part 78 = .ok (.iload_n 1, 1) := by decide +kernel
theorem dX12_part_79 : decode cX12_part 79 = .ok (.iload 4, 2) := by decide +kernel
theorem dX12_part_81 : decode cX12_part 81 = .ok (.invokevirtual 286, 3) := by decide +kernel
theorem dX12_part_84 : decode cX12_part 84 = .ok (.aload_n 0, 1) := by decide +kernel
theorem dX12_part_85 : decode cX12_part 85 = .ok (.iload_n 2, 1) := by decide +kernel
theorem dX12_part_86 : decode cX12_part 86 = .ok (.iload 4, 2) := by decide +kernel
theorem dX12_part_88 : decode cX12_part 88 = .ok (.invokevirtual 286, 3) := by decide +kernel
theorem dX12_part_91 : decode cX12_part 91 = .ok (.if_icmp .eq 6, 3) := by decide +kernel
theorem dX12_part_94 : decode cX12_part 94 = .ok (.iload 4, 2) := by decide +kernel
theorem dX12_part_96 : decode cX12_part 96 = .ok (.ireturn, 1) := by decide +kernel
theorem dX12_part_97 : decode cX12_part 97 = .ok (.iinc 4 1, 3) := by decide +kernel
theorem dX12_part_100 : decode cX12_part 100 = .ok (.goto (-29), 3) := by decide +kernel
theorem dX12_part_103 : decode cX12_part 103 = .ok (.aload_n 0, 1) := by decide +kernel
theorem dX12_part_104 : decode cX12_part 104 = .ok (.iload_n 1, 1) := by decide +kernel
theorem dX12_part_105 : decode cX12_part 105 = .ok (.invokevirtual 86, 3) := by decide +kernel
theorem dX12_part_108 : decode cX12_part 108 = .ok (.aload_n 0, 1) := by decide +kernel
theorem dX12_part_109 : decode cX12_part 109 = .ok (.iload_n 2, 1) := by decide +kernel
theorem dX12_part_110 : decode cX12_part 110 = .ok (.invokevirtual 86, 3) := by decide +kernel
theorem dX12_part_113 : decode cX12_part 113 = .ok (.if_icmp .ne 7, 3) := by decide +kernel
theorem dX12_part_116 : decode cX12_part 116 = .ok (.iconst (-1), 1) := by decide +kernel
theorem dX12_part_117 : decode cX12_part 117 = .ok (.goto 4, 3) := by decide +kernel
theorem dX12_part_120 : decode cX12_part 120 = .ok (.iload_n 3, 1) := by decide +kernel
theorem dX12_part_121 : decode cX12_part 121 = .ok (.ireturn, 1) := by decide +kernel
theorem dX12_drawer_0 : decode cX12_drawer 0 = .ok (.aload_n 0, 1) := by decide +kernel
theorem dX12_drawer_1 : decode cX12_drawer 1 = .ok (.iconst 0, 1) := by decide +kernel
theorem dX12_drawer_2 : decode cX12_drawer 2 = .ok (.putfield 3, 3) := by decide +kernel
theorem dX12_drawer_5 : decode cX12_drawer 5 = .ok (.iconst (-1), 1) := by decide +kernel
theorem dX12_drawer_6 : decode cX12_drawer 6 = .ok (.istore_n 1, 1) := by decide +kernel
theorem dX12_drawer_7 : decode cX12_drawer 7 = .ok (.bipush 41, 2) := by decide +kernel
theorem dX12_drawer_9 : decode cX12_drawer 9 = .ok (.istore_n 2, 1) := by decide +kernel
theorem dX12_drawer_10 : decode cX12_drawer 10 = .ok (.iconst 0, 1) := by decide +kernel
theorem dX12_drawer_11 : decode cX12_drawer 11 = .ok (.istore_n 3, 1) := by decide +kernel
theorem dX12_drawer_12 : decode cX12_drawer 12 = .ok (.iload_n 3, 1) := by decide +kernel
theorem dX12_drawer_13 : decode cX12_drawer 13 = .ok (.aload_n 0, 1) := by decide +kernel
theorem dX12_drawer_14 : decode cX12_drawer 14 = .ok (.invokevirtual 74, 3) := by decide +kernel
theorem dX12_drawer_17 : decode cX12_drawer 17 = .ok (.if_icmp .ge 85, 3) := by decide +kernel
theorem dX12_drawer_20 : decode cX12_drawer 20 = .ok (.iload_n 3, 1) := by decide +kernel
theorem dX12_drawer_21 : decode cX12_drawer 21 = .ok (.iconst 1, 1) := by decide +kernel
theorem dX12_drawer_22 : decode cX12_drawer 22 = .ok (.iadd, 1) := by decide +kernel
theorem dX12_drawer_23 : decode cX12_drawer 23 = .ok (.istore 4, 2) := by decide +kernel
theorem dX12_drawer_25 : decode cX12_drawer 25 = .ok (.iload 4, 2) := by decide +kernel
theorem dX12_drawer_27 : decode cX12_drawer 27 = .ok (.aload_n 0, 1) := by decide +kernel
theorem dX12_drawer_28 : decode cX12_drawer 28 = .ok (.invokevirtual 74, 3) := by decide +kernel
theorem dX12_drawer_31 : decode cX12_drawer 31 = .ok (.if_icmp .ge 65, 3) := by decide +kernel
theorem dX12_drawer_34 : decode cX12_drawer 34 = .ok (.aload_n 0, 1) := by decide +kernel
theorem dX12_drawer_35 : decode cX12_drawer 35 = .ok (.iload_n 3, 1) := by decide +kernel
theorem dX12_drawer_36 : decode cX12_drawer 36 = .ok (.invokevirtual 289, 3) := by decide +kernel
theorem dX12_drawer_39 : decode cX12_drawer 39 = .ok (.ifCond .ne 12, 3) := by decide +kernel
theorem dX12_drawer_42 : decode cX12_drawer 42 = .ok (.aload_n 0, 1) := by decide +kernel
theorem dX12_drawer_43 : decode cX12_drawer 43 = .ok (.iload 4, 2) := by decide +kernel
theorem dX12_drawer_45 : decode cX12_drawer 45 = .ok (.invokevirtual 289, 3) := by decide +kernel
theorem dX12_drawer_48 : decode cX12_drawer 48 = .ok (.ifCond .eq 7, 3) := by decide +kernel
theorem dX12_drawer_51 : decode cX12_drawer 51 = .ok (.iconst (-1), 1) := by decide +kernel
theorem dX12_drawer_52 : decode cX12_drawer 52 = .ok (.goto 11, 3) := by decide +kernel
theorem dX12_drawer_55 : decode cX12_drawer 55 = .ok (.aload_n 0, 1) := by decide +kernel
theorem dX12_drawer_56 : decode cX12_drawer 56 = .ok (.iload_n 3, 1) := by decide +kernel
theorem dX12_drawer_57 : decode cX12_drawer 57 = .ok (.iload 4, 2) := by decide +kernel
theorem dX12_drawer_59 : decode cX12_drawer 59 = .ok (.iconst 0, 1) := by decide +kernel
theorem dX12_drawer_60 : decode cX12_drawer 60 = .ok (.invokevirtual 394, 3) := by decide +kernel
theorem dX12_drawer_63 : decode cX12_drawer 63 = .ok (.istore 5, 2) := by decide +kernel
theorem dX12_drawer_65 : decode cX12_drawer 65 = .ok (.iload 5, 2) := by decide +kernel
theorem dX12_drawer_67 : decode cX12_drawer 67 = .ok (.ifCond .lt 23, 3) := by decide +kernel
theorem dX12_drawer_70 : decode cX12_drawer 70 = .ok (.iload 5, 2) := by decide +kernel
theorem dX12_drawer_72 : decode cX12_drawer 72 = .ok (.iload_n 2, 1) := by decide +kernel
theorem dX12_drawer_73 : decode cX12_drawer 73 = .ok (.if_icmp .lt 6, 3) := by decide +kernel
theorem dX12_drawer_76 : decode cX12_drawer 76 = .ok (.goto 14, 3) := by decide +kernel
theorem dX12_drawer_79 : decode cX12_drawer 79 = .ok (.bipush 10, 2) := by decide +kernel
theorem dX12_drawer_81 : decode cX12_drawer 81 = .ok (.iload_n 3, 1) := by decide +kernel
theorem dX12_drawer_82 : decode cX12_drawer 82 = .ok (.imul, 1) := by decide +kernel
theorem dX12_drawer_83 : decode cX12_drawer 83 = .ok (.iload 4, 2) := by decide +kernel
theorem dX12_drawer_85 : decode cX12_drawer 85 = .ok (.iadd, 1) := by decide +kernel
theorem dX12_drawer_86 : decode cX12_drawer 86 = .ok (.istore_n 1, 1) := by decide +kernel
theorem dX12_drawer_87 : decode cX12_drawer 87 = .ok (.iload 5, 2) := by decide +kernel
theorem dX12_drawer_89 : decode cX12_drawer 89 = .ok (.istore_n 2, 1) := by decide +kernel
theorem dX12_drawer_90 : decode cX12_drawer 90 = .ok (.iinc 4 1, 3) := by decide +kernel
theorem dX12_drawer_93 : decode cX12_drawer 93 = .ok (.goto (-68), 3) := by decide +kernel
theorem dX12_drawer_96 : decode cX12_drawer 96 = .ok (.iinc 3 1, 3) := by decide +kernel
theorem dX12_drawer_99 : decode cX12_drawer 99 = .ok (.goto (-87), 3) := by decide +kernel
theorem dX12_drawer_102 : decode cX12_drawer 102 = .ok (.iload_n 1, 1) := by decide +kernel
theorem dX12_drawer_103 : decode cX12_drawer 103 = .ok (.ireturn, 1) := by decide +kernel
theorem dX12_alikeFrom_0 : decode cX12_alikeFrom 0 = .ok (.iconst 0, 1) := by decide +kernel
theorem dX12_alikeFrom_1 : decode cX12_alikeFrom 1 = .ok (.istore 5, 2) := by decide +kernel
theorem dX12_alikeFrom_3 : decode cX12_alikeFrom 3 = .ok (.iload_n 2, 1) := by decide +kernel
theorem dX12_alikeFrom_4 : decode cX12_alikeFrom 4 = .ok (.iload 5, 2) := by decide +kernel
theorem dX12_alikeFrom_6 : decode cX12_alikeFrom 6 = .ok (.iadd, 1) := by decide +kernel
theorem dX12_alikeFrom_7 : decode cX12_alikeFrom 7 = .ok (.aload_n 0, 1) := by decide +kernel
theorem dX12_alikeFrom_8 : decode cX12_alikeFrom 8 = .ok (.iload_n 1, 1) := by decide +kernel
theorem dX12_alikeFrom_9 : decode cX12_alikeFrom 9 = .ok (.invokevirtual 86, 3) := by decide +kernel
theorem dX12_alikeFrom_12 : decode cX12_alikeFrom 12 = .ok (.if_icmp .ge 44, 3) := by decide +kernel
theorem dX12_alikeFrom_15 : decode cX12_alikeFrom 15 = .ok (.iload 4, 2) := by decide +kernel
theorem dX12_alikeFrom_17 : decode cX12_alikeFrom 17 = .ok (.iload 5, 2) := by decide +kernel
theorem dX12_alikeFrom_19 : decode cX12_alikeFrom 19 = .ok (.iadd, 1) := by decide +kernel
theorem dX12_alikeFrom_20 : decode cX12_alikeFrom 20 = .ok (.aload_n 0, 1) := by decide +kernel
theorem dX12_alikeFrom_21 : decode cX12_alikeFrom 21 = .ok (.iload_n 3, 1) := by decide +kernel
theorem dX12_alikeFrom_22 : decode cX12_alikeFrom 22 = .ok (.invokevirtual 86, 3) := by decide +kernel
theorem dX12_alikeFrom_25 : decode cX12_alikeFrom 25 = .ok (.if_icmp .ge 31, 3) := by decide +kernel
theorem dX12_alikeFrom_28 : decode cX12_alikeFrom 28 = .ok (.aload_n 0, 1) := by decide +kernel
theorem dX12_alikeFrom_29 : decode cX12_alikeFrom 29 = .ok (.iload_n 1, 1) := by decide +kernel
theorem dX12_alikeFrom_30 : decode cX12_alikeFrom 30 = .ok (.iload_n 2, 1) := by decide +kernel
theorem dX12_alikeFrom_31 : decode cX12_alikeFrom 31 = .ok (.iload 5, 2) := by decide +kernel
theorem dX12_alikeFrom_33 : decode cX12_alikeFrom 33 = .ok (.iadd, 1) := by decide +kernel
theorem dX12_alikeFrom_34 : decode cX12_alikeFrom 34 = .ok (.invokevirtual 286, 3) := by decide +kernel
theorem dX12_alikeFrom_37 : decode cX12_alikeFrom 37 = .ok (.aload_n 0, 1) := by decide +kernel
theorem dX12_alikeFrom_38 : decode cX12_alikeFrom 38 = .ok (.iload_n 3, 1) := by decide +kernel
theorem dX12_alikeFrom_39 : decode cX12_alikeFrom 39 = .ok (.iload 4, 2) := by decide +kernel
theorem dX12_alikeFrom_41 : decode cX12_alikeFrom 41 = .ok (.iload 5, 2) := by decide +kernel
theorem dX12_alikeFrom_43 : decode cX12_alikeFrom 43 = .ok (.iadd, 1) := by decide +kernel
theorem dX12_alikeFrom_44 : decode cX12_alikeFrom 44 = .ok (.invokevirtual 286, 3) := by decide +kernel
theorem dX12_alikeFrom_47 : decode cX12_alikeFrom 47 = .ok (.if_icmp .ne 9, 3) := by decide +kernel
theorem dX12_alikeFrom_50 : decode cX12_alikeFrom 50 = .ok (.iinc 5 1, 3) := by decide +kernel
theorem dX12_alikeFrom_53 : decode cX12_alikeFrom 53 = .ok (.goto (-50), 3) := by decide +kernel
theorem dX12_alikeFrom_56 : decode cX12_alikeFrom 56 = .ok (.iload 5, 2) := by decide +kernel
theorem dX12_alikeFrom_58 : decode cX12_alikeFrom 58 = .ok (.ireturn, 1) := by decide +kernel
theorem dX12_common_0 : decode cX12_common 0 = .ok (.aload_n 0, 1) := by decide +kernel
theorem dX12_common_1 : decode cX12_common 1 = .ok (.iconst 0, 1) := by decide +kernel
theorem dX12_common_2 : decode cX12_common 2 = .ok (.putfield 3, 3) := by decide +kernel
theorem dX12_common_5 : decode cX12_common 5 = .ok (.aload_n 0, 1) := by decide +kernel
theorem dX12_common_6 : decode cX12_common 6 = .ok (.aload_n 0, 1) := by decide +kernel
theorem dX12_common_7 : decode cX12_common 7 = .ok (.iload_n 1, 1) := by decide +kernel
theorem dX12_common_8 : decode cX12_common 8 = .ok (.invokevirtual 82, 3) := by decide +kernel
theorem dX12_common_11 : decode cX12_common 11 = .ok (.ifCond .ne 11, 3) := by decide +kernel
theorem dX12_common_14 : decode cX12_common 14 = .ok (.aload_n 0, 1) := by decide +kernel
theorem dX12_common_15 : decode cX12_common 15 = .ok (.iload_n 2, 1) := by decide +kernel
theorem dX12_common_16 : decode cX12_common 16 = .ok (.invokevirtual 82, 3) := by decide +kernel
theorem dX12_common_19 : decode cX12_common 19 = .ok (.ifCond .eq 7, 3) := by decide +kernel
theorem dX12_common_22 : decode cX12_common 22 = .ok (.iconst 1, 1) := by decide +kernel
theorem dX12_common_23 : decode cX12_common 23 = .ok (.goto 4, 3) := by decide +kernel
theorem dX12_common_26 : decode cX12_common 26 = .ok (.iconst 0, 1) := by decide +kernel
theorem dX12_common_27 : decode cX12_common 27 = .ok (.iconst 1, 1) := by decide +kernel
theorem dX12_common_28 : decode cX12_common 28 = .ok (.invokevirtual 254, 3) := by decide +kernel
theorem dX12_common_31 : decode cX12_common 31 = .ok (.ifCond .ne 21, 3) := by decide +kernel
theorem dX12_common_34 : decode cX12_common 34 = .ok (.aload_n 0, 1) := by decide +kernel
theorem dX12_common_35 : decode cX12_common 35 = .ok (.iload_n 1, 1) := by decide +kernel
theorem dX12_common_36 : decode cX12_common 36 = .ok (.iload_n 2, 1) := by decide +kernel
theorem dX12_common_37 : decode cX12_common 37 = .ok (.if_icmp .ne 7, 3) := by decide +kernel
theorem dX12_common_40 : decode cX12_common 40 = .ok (.iconst 1, 1) := by decide +kernel
theorem dX12_common_41 : decode cX12_common 41 = .ok (.goto 4, 3) := by decide +kernel
theorem dX12_common_44 : decode cX12_common 44 = .ok (.iconst 0, 1) := by decide +kernel
theorem dX12_common_45 : decode cX12_common 45 = .ok (.iconst 2, 1) := by decide +kernel
theorem dX12_common_46 : decode cX12_common 46 = .ok (.invokevirtual 254, 3) := by decide +kernel
theorem dX12_common_49 : decode cX12_common 49 = .ok (.ifCond .eq 5, 3) := by decide +kernel
theorem dX12_common_52 : decode cX12_common 52 = .ok (.iconst 0, 1) := by decide +kernel
theorem dX12_common_53 : decode cX12_common 53 = .ok (.ireturn, 1) := by decide +kernel
theorem dX12_common_54 : decode cX12_common 54 = .ok (.iconst 0, 1) := by decide +kernel
theorem dX12_common_55 : decode cX12_common 55 = .ok (.istore_n 3, 1) := by decide +kernel
theorem dX12_common_56 : decode cX12_common 56 = .ok (.iconst 0, 1) := by decide +kernel
theorem dX12_common_57 : decode cX12_common 57 = .ok (.istore 4, 2) := by decide +kernel
theorem dX12_common_59 : decode cX12_common 59 = .ok (.iload 4, 2) := by decide +kernel
theorem dX12_common_61 : decode cX12_common 61 = .ok (.aload_n 0, 1) := by decide +kernel
theorem dX12_common_62 : decode cX12_common 62 = .ok (.iload_n 1, 1) := by decide +kernel
theorem dX12_common_63 : decode cX12_common 63 = .ok (.invokevirtual 86, 3) := by decide +kernel
theorem dX12_common_66 : decode cX12_common 66 = .ok (.if_icmp .ge 43, 3) := by decide +kernel
theorem dX12_common_69 : decode cX12_common 69 = .ok (.iconst 0, 1) := by decide +kernel
theorem dX12_common_70 : decode cX12_common 70 = .ok (.istore 5, 2) := by decide +kernel
theorem dX12_common_72 : decode cX12_common 72 = .ok (.iload 5, 2) := by decide +kernel
theorem dX12_common_74 : decode cX12_common 74 = .ok (.aload_n 0, 1) := by decide +kernel
theorem dX12_common_75 : decode cX12_common 75 = .ok (.iload_n 2, 1) := by decide +kernel
theorem dX12_common_76 : decode cX12_common 76 = .ok (.invokevirtual 86, 3) := by decide +kernel
theorem dX12_common_79 : decode cX12_common 79 = .ok (.if_icmp .ge 24, 3) := by decide +kernel
theorem dX12_common_82 : decode cX12_common 82 = .ok (.iload_n 3, 1) := by decide +kernel
theorem dX12_common_83 : decode cX12_common 83 = .ok (.aload_n 0, 1) := by decide +kernel
theorem dX12_common_84 : decode cX12_common 84 = .ok (.iload_n 1, 1) := by decide +kernel
theorem dX12_common_85 : decode cX12_common 85 = .ok (.iload 4, 2) := by decide +kernel
theorem dX12_common_87 : decode cX12_common 87 = .ok (.iload_n 2, 1) := by decide +kernel
theorem dX12_common_88 : decode cX12_common 88 = .ok (.iload 5, 2) := by decide +kernel
theorem dX12_common_90 : decode cX12_common 90 = .ok (.invokevirtual 397, 3) := by decide +kernel
theorem dX12_common_93 : decode cX12_common 93 = .ok (.invokestatic 401, 3) := by decide +kernel
theorem dX12_common_96 : decode cX12_common 96 = .ok (.istore_n 3, 1) := by decide +kernel
theorem dX12_common_97 : decode cX12_common 97 = .ok (.iinc 5 1, 3) := by decide +kernel
theorem dX12_common_100 : decode cX12_common 100 = .ok (.goto (-28), 3) := by decide +kernel
theorem dX12_common_103 : decode cX12_common 103 = .ok (.iinc 4 1, 3) := by decide +kernel
theorem dX12_common_106 : decode cX12_common 106 = .ok (.goto (-47), 3) := by decide +kernel
theorem dX12_common_109 : decode cX12_common 109 = .ok (.iload_n 3, 1) := by decide +kernel
theorem dX12_common_110 : decode cX12_common 110 = .ok (.ireturn, 1) := by decide +kernel
theorem dX12_echo_0 : decode cX12_echo 0 = .ok (.aload_n 0, 1) := by decide +kernel
theorem dX12_echo_1 : decode cX12_echo 1 = .ok (.iconst 0, 1) := by decide +kernel
theorem dX12_echo_2 : decode cX12_echo 2 = .ok (.putfield 3, 3) := by decide +kernel
theorem dX12_echo_5 : decode cX12_echo 5 = .ok (.aload_n 0, 1) := by decide +kernel
theorem dX12_echo_6 : decode cX12_echo 6 = .ok (.aload_n 0, 1) := by decide +kernel
theorem dX12_echo_7 : decode cX12_echo 7 = .ok (.iload_n 1, 1) := by decide +kernel
theorem dX12_echo_8 : decode cX12_echo 8 = .ok (.invokevirtual 82, 3) := by decide +kernel
theorem dX12_echo_11 : decode cX12_echo 11 = .ok (.iconst 1, 1) := by decide +kernel
theorem dX12_echo_12 : decode cX12_echo 12 = .ok (.invokevirtual 254, 3) := by decide +kernel
theorem dX12_echo_15 : decode cX12_echo 15 = .ok (.ifCond .eq 5, 3) := by decide +kernel
theorem dX12_echo_18 : decode cX12_echo 18 = .ok (.iconst 0, 1) := by decide +kernel
theorem dX12_echo_19 : decode cX12_echo 19 = .ok (.ireturn, 1) := by decide +kernel
theorem dX12_echo_20 : decode cX12_echo 20 = .ok (.iconst 0, 1) := by decide +kernel
theorem dX12_echo_21 : decode cX12_echo 21 = .ok (.istore_n 2, 1) := by decide +kernel
theorem dX12_echo_22 : decode cX12_echo 22 = .ok (.iconst 0, 1) := by decide +kernel
theorem dX12_echo_23 : decode cX12_echo 23 = .ok (.istore_n 3, 1) := by decide +kernel
theorem dX12_echo_24 : decode cX12_echo 24 = .ok (.iload_n 3, 1) := by decide +kernel
theorem dX12_echo_25 : decode cX12_echo 25 = .ok (.aload_n 0, 1) := by decide +kernel
theorem dX12_echo_26 : decode cX12_echo 26 = .ok (.iload_n 1, 1) := by decide +kernel
theorem dX12_echo_27 : decode cX12_echo 27 = .ok (.invokevirtual 86, 3) := by decide +kernel
theorem dX12_echo_30 : decode cX12_echo 30 = .ok (.if_icmp .ge 44, 3) := by decide +kernel
theorem dX12_echo_33 : decode cX12_echo 33 = .ok (.iload_n 3, 1) := by decide +kernel
theorem dX12_echo_34 : decode cX12_echo 34 = .ok (.iconst 1, 1) := by decide +kernel
theorem dX12_echo_35 : decode cX12_echo 35 = .ok (.iadd, 1) := by decide +kernel
theorem dX12_echo_36 : decode cX12_echo 36 = .ok (.istore 4, 2) := by decide +kernel
theorem dX12_echo_38 : decode cX12_echo 38 = .ok (.iload 4, 2) := by decide +kernel
theorem dX12_echo_40 : decode cX12_echo 40 = .ok (.aload_n 0, 1) := by decide +kernel
theorem dX12_echo_41 : decode cX12_echo 41 = .ok (.iload_n 1, 1) := by decide +kernel
theorem dX12_echo_42 : decode cX12_echo 42 = .ok (.invokevirtual 86, 3) := by decide +kernel
theorem dX12_echo_45 : decode cX12_echo 45 = .ok (.if_icmp .ge 23, 3) := by decide +kernel
theorem dX12_echo_48 : decode cX12_echo 48 = .ok (.iload_n 2, 1) := by decide +kernel
theorem dX12_echo_49 : decode cX12_echo 49 = .ok (.aload_n 0, 1) := by decide +kernel
theorem dX12_echo_50 : decode cX12_echo 50 = .ok (.iload_n 1, 1) := by decide +kernel
theorem dX12_echo_51 : decode cX12_echo 51 = .ok (.iload_n 3, 1) := by decide +kernel
theorem dX12_echo_52 : decode cX12_echo 52 = .ok (.iload_n 1, 1) := by decide +kernel
theorem dX12_echo_53 : decode cX12_echo 53 = .ok (.iload 4, 2) := by decide +kernel
theorem dX12_echo_55 : decode cX12_echo 55 = .ok (.invokevirtual 397, 3) := by decide +kernel
theorem dX12_echo_58 : decode cX12_echo 58 = .ok (.invokestatic 401, 3) := by decide +kernel
theorem dX12_echo_61 : decode cX12_echo 61 = .ok (.istore_n 2, 1) := by decide +kernel
theorem dX12_echo_62 : decode cX12_echo 62 = .ok (.iinc 4 1, 3) := by decide +kernel
theorem dX12_echo_65 : decode cX12_echo 65 = .ok (.goto (-27), 3) := by decide +kernel
theorem dX12_echo_68 : decode cX12_echo 68 = .ok (.iinc 3 1, 3) := by decide +kernel
theorem dX12_echo_71 : decode cX12_echo 71 = .ok (.goto (-47), 3) := by decide +kernel
theorem dX12_echo_74 : decode cX12_echo 74 = .ok (.iload_n 2, 1) := by decide +kernel
theorem dX12_echo_75 : decode cX12_echo 75 = .ok (.ireturn, 1) := by decide +kernel
theorem dX12_has_0 : decode cX12_has 0 = .ok (.aload_n 0, 1) := by decide +kernel
theorem dX12_has_1 : decode cX12_has 1 = .ok (.iconst 0, 1) := by decide +kernel
theorem dX12_has_2 : decode cX12_has 2 = .ok (.putfield 3, 3) := by decide +kernel
theorem dX12_has_5 : decode cX12_has 5 = .ok (.aload_n 0, 1) := by decide +kernel
theorem dX12_has_6 : decode cX12_has 6 = .ok (.aload_n 0, 1) := by decide +kernel
theorem dX12_has_7 : decode cX12_has 7 = .ok (.iload_n 1, 1) := by decide +kernel
theorem dX12_has_8 : decode cX12_has 8 = .ok (.invokevirtual 82, 3) := by decide +kernel
theorem dX12_has_11 : decode cX12_has 11 = .ok (.iconst 1, 1) := by decide +kernel
theorem dX12_has_12 : decode cX12_has 12 = .ok (.invokevirtual 254, 3) := by decide +kernel
theorem dX12_has_15 : decode cX12_has 15 = .ok (.ifCond .eq 5, 3) := by decide +kernel
theorem dX12_has_18 : decode cX12_has 18 = .ok (.iconst 0, 1) := by decide +kernel
theorem dX12_has_19 : decode cX12_has 19 = .ok (.ireturn, 1) := by decide +kernel
theorem dX12_has_20 : decode cX12_has 20 = .ok (.iconst 0, 1) := by decide +kernel
theorem dX12_has_21 : decode cX12_has 21 = .ok (.istore_n 2, 1) := by decide +kernel
theorem dX12_has_22 : decode cX12_has 22 = .ok (.iconst 0, 1) := by decide +kernel
theorem dX12_has_23 : decode cX12_has 23 = .ok (.istore_n 3, 1) := by decide +kernel
theorem dX12_has_24 : decode cX12_has 24 = .ok (.iload_n 3, 1) := by decide +kernel
theorem dX12_has_25 : decode cX12_has 25 = .ok (.aload_n 0, 1) := by decide +kernel
theorem dX12_has_26 : decode cX12_has 26 = .ok (.iload_n 1, 1) := by decide +kernel
theorem dX12_has_27 : decode cX12_has 27 = .ok (.invokevirtual 86, 3) := by decide +kernel
theorem dX12_has_30 : decode cX12_has 30 = .ok (.if_icmp .ge 20, 3) := by decide +kernel
theorem dX12_has_33 : decode cX12_has 33 = .ok (.iload_n 2, 1) := by decide +kernel
theorem dX12_has_34 : decode cX12_has 34 = .ok (.iconst 1, 1) := by decide +kernel
theorem dX12_has_35 : decode cX12_has 35 = .ok (.aload_n 0, 1) := by decide +kernel
theorem dX12_has_36 : decode cX12_has 36 = .ok (.iload_n 1, 1) := by decide +kernel
theorem dX12_has_37 : decode cX12_has 37 = .ok (.iload_n 3, 1) := by decide +kernel
theorem dX12_has_38 : decode cX12_has 38 = .ok (.invokevirtual 286, 3) := by decide +kernel
theorem dX12_has_41 : decode cX12_has 41 = .ok (.ishl, 1) := by decide +kernel
theorem dX12_has_42 : decode cX12_has 42 = .ok (.ior, 1) := by decide +kernel
theorem dX12_has_43 : decode cX12_has 43 = .ok (.istore_n 2, 1) := by decide +kernel
theorem dX12_has_44 : decode cX12_has 44 = .ok (.iinc 3 1, 3) := by decide +kernel
theorem dX12_has_47 : decode cX12_has 47 = .ok (.goto (-23), 3) := by decide +kernel
theorem dX12_has_50 : decode cX12_has 50 = .ok (.iload_n 2, 1) := by decide +kernel
theorem dX12_has_51 : decode cX12_has 51 = .ok (.ireturn, 1) := by decide +kernel
theorem dX12_isBound_0 : decode cX12_isBound 0 = .ok (.iconst 0, 1) := by decide +kernel
theorem dX12_isBound_1 : decode cX12_isBound 1 = .ok (.istore_n 2, 1) := by decide +kernel
theorem dX12_isBound_2 : decode cX12_isBound 2 = .ok (.iconst 0, 1) := by decide +kernel
theorem dX12_isBound_3 : decode cX12_isBound 3 = .ok (.istore_n 3, 1) := by decide +kernel
theorem dX12_isBound_4 : decode cX12_isBound 4 = .ok (.iconst 0, 1) := by decide +kernel
theorem dX12_isBound_5 : decode cX12_isBound 5 = .ok (.istore 4, 2) := by decide +kernel
theorem dX12_isBound_7 : decode cX12_isBound 7 = .ok (.iload 4, 2) := by decide +kernel
theorem dX12_isBound_9 : decode cX12_isBound 9 = .ok (.aload_n 0, 1) := by decide +kernel
theorem dX12_isBound_10 : decode cX12_isBound 10 = .ok (.getfield 257, 3) := by decide +kernel
theorem dX12_isBound_13 : decode cX12_isBound 13 = .ok (.if_icmp .ge 65, 3) := by decide +kernel
theorem dX12_isBound_16 : decode cX12_isBound 16 = .ok (.iload_n 3, 1) := by decide +kernel
theorem dX12_isBound_17 : decode cX12_isBound 17 = .ok (.ifCond .ne 61, 3) := by decide +kernel
theorem dX12_isBound_20 : decode cX12_isBound 20 = .ok (.iload_n 2, 1) := by decide +kernel
theorem dX12_isBound_21 : decode cX12_isBound 21 = .ok (.ifCond .eq 23, 3) := by decide +kernel
theorem dX12_isBound_24 : decode cX12_isBound 24 = .ok (.aload_n 0, 1) := by decide +kernel
theorem dX12_isBound_25 : decode cX12_isBound 25 = .ok (.getfield 42, 3) := by decide +kernel
theorem dX12_isBound_28 : decode cX12_isBound 28 = .ok (.iload 4, 2) := by decide +kernel
theorem dX12_isBound_30 : decode cX12_isBound 30 = .ok (.iaload, 1) := by decide +kernel
theorem dX12_isBound_31 : decode cX12_isBound 31 = .ok (.aload_n 0, 1) := by decide +kernel
theorem dX12_isBound_32 : decode cX12_isBound 32 = .ok (.iload_n 1, 1) := by decide +kernel
theorem dX12_isBound_33 : decode cX12_isBound 33 = .ok (.iconst 1, 1) := by decide +kernel
theorem dX12_isBound_34 : decode cX12_isBound 34 = .ok (.invokevirtual 333, 3) := by decide +kernel
theorem dX12_isBound_37 : decode cX12_isBound 37 = .ok (.if_icmp .ne 7, 3) := by decide +kernel
theorem dX12_isBound_40 : decode cX12_isBound 40 = .ok (.iconst 1, 1) := by decide +kernel
theorem dX12_isBound_41 : decode cX12_isBound 41 = .ok (.goto 4, 3) := by decide +kernel
theorem dX12_isBound_44 : decode cX12_isBound 44 = .ok (.iconst 0, 1) := by decide +kernel
theorem dX12_isBound_45 : decode cX12_isBound 45 = .ok (.istore_n 3, 1) := by decide +kernel
theorem dX12_isBound_46 : decode cX12_isBound 46 = .ok (.iload_n 2, 1) := by decide +kernel
theorem dX12_isBound_47 : decode cX12_isBound 47 = .ok (.ifCond .ne 19, 3) := by decide +kernel
theorem dX12_isBound_50 : decode cX12_isBound 50 = .ok (.aload_n 0, 1) := by decide +kernel
theorem dX12_isBound_51 : decode cX12_isBound 51 = .ok (.getfield 42, 3) := by decide +kernel
theorem dX12_isBound_54 : decode cX12_isBound 54 = .ok (.iload 4, 2) := by decide +kernel
theorem dX12_isBound_56 : decode cX12_isBound 56 = .ok (.iaload, 1) := by decide +kernel
theorem dX12_isBound_57 : decode cX12_isBound 57 = .ok (.aload_n 0, 1) := by decide +kernel
theorem dX12_isBound_58 : decode cX12_isBound 58 = .ok (.iload_n 1, 1) := by decide +kernel
theorem dX12_isBound_59 : decode cX12_isBound 59 = .ok (.iconst 0, 1) := by decide +kernel
theorem dX12_isBound_60 : decode cX12_isBound 60 = .ok (.invokevirtual 333, 3) := by decide +kernel
theorem dX12_isBound_63 : decode cX12_isBound 63 = .ok (.if_icmp .ne 7, 3) := by decide +kernel
theorem dX12_isBound_66 : decode cX12_isBound 66 = .ok (.iconst 1, 1) := by decide +kernel
theorem dX12_isBound_67 : decode cX12_isBound 67 = .ok (.goto 4, 3) := by decide +kernel
theorem dX12_isBound_70 : decode cX12_isBound 70 = .ok (.iconst 0, 1) := by decide +kernel
theorem dX12_isBound_71 : decode cX12_isBound 71 = .ok (.istore_n 2, 1) := by decide +kernel
theorem dX12_isBound_72 : decode cX12_isBound 72 = .ok (.iinc 4 1, 3) := by decide +kernel
theorem dX12_isBound_75 : decode cX12_isBound 75 = .ok (.goto (-68), 3) := by decide +kernel
theorem dX12_isBound_78 : decode cX12_isBound 78 = .ok (.iload_n 3, 1) := by decide +kernel
theorem dX12_isBound_79 : decode cX12_isBound 79 = .ok (.ireturn, 1) := by decide +kernel
theorem dX12_boundNow_0 : decode cX12_boundNow 0 = .ok (.iconst 0, 1) := by decide +kernel
theorem dX12_boundNow_1 : decode cX12_boundNow 1 = .ok (.istore_n 1, 1) := by decide +kernel
theorem dX12_boundNow_2 : decode cX12_boundNow 2 = .ok (.iconst 0, 1) := by decide +kernel
theorem dX12_boundNow_3 : decode cX12_boundNow 3 = .ok (.istore_n 2, 1) := by decide +kernel
theorem dX12_boundNow_4 : decode cX12_boundNow 4 = .ok (.iload_n 2, 1) := by decide +kernel
theorem dX12_boundNow_5 : decode cX12_boundNow 5 = .ok (.aload_n 0, 1) := by decide +kernel
theorem dX12_boundNow_6 : decode cX12_boundNow 6 = .ok (.invokevirtual 90, 3) := by decide +kernel
theorem dX12_boundNow_9 : decode cX12_boundNow 9 = .ok (.if_icmp .ge 27, 3) := by decide +kernel
theorem dX12_boundNow_12 : decode cX12_boundNow 12 = .ok (.iload_n 1, 1) := by decide +kernel
theorem dX12_boundNow_13 : decode cX12_boundNow 13 = .ok (.aload_n 0, 1) := by decide +kernel
theorem dX12_boundNow_14 : decode cX12_boundNow 14 = .ok (.iload_n 2, 1) := by decide +kernel
theorem dX12_boundNow_15 : decode cX12_boundNow 15 = .ok (.invokevirtual 404, 3) := by decide +kernel
theorem dX12_boundNow_18 : decode cX12_boundNow 18 = .ok (.ifCond .eq 9, 3) := by decide +kernel
theorem dX12_boundNow_21 : decode cX12_boundNow 21 = .ok (.iconst 1, 1) := by decide +kernel
theorem dX12_boundNow_22 : decode cX12_boundNow 22 = .ok (.iload_n 2, 1) := by decide +kernel
theorem dX12_boundNow_23 : decode cX12_boundNow 23 = .ok (.ishl, 1) := by decide +kernel
theorem dX12_boundNow_24 : decode cX12_boundNow 24 = .ok (.goto 4, 3) := by decide +kernel
theorem dX12_boundNow_27 : decode cX12_boundNow 27 = .ok (.iconst 0, 1) := by decide +kernel
theorem dX12_boundNow_28 : decode cX12_boundNow 28 = .ok (.ior, 1) := by decide +kernel
theorem dX12_boundNow_29 : decode cX12_boundNow 29 = .ok (.istore_n 1, 1) := by decide +kernel
theorem dX12_boundNow_30 : decode cX12_boundNow 30 = .ok (.iinc 2 1, 3) := by decide +kernel
theorem dX12_boundNow_33 : decode cX12_boundNow 33 = .ok (.goto (-29), 3) := by decide +kernel
theorem dX12_boundNow_36 : decode cX12_boundNow 36 = .ok (.iload_n 1, 1) := by decide +kernel
theorem dX12_boundNow_37 : decode cX12_boundNow 37 = .ok (.ireturn, 1) := by decide +kernel
theorem dX12_bound_0 : decode cX12_bound 0 = .ok (.aload_n 0, 1) := by decide +kernel
theorem dX12_bound_1 : decode cX12_bound 1 = .ok (.iconst 0, 1) := by decide +kernel
theorem dX12_bound_2 : decode cX12_bound 2 = .ok (.putfield 3, 3) := by decide +kernel
theorem dX12_bound_5 : decode cX12_bound 5 = .ok (.aload_n 0, 1) := by decide +kernel
theorem dX12_bound_6 : decode cX12_bound 6 = .ok (.aload_n 0, 1) := by decide +kernel
theorem dX12_bound_7 : decode cX12_bound 7 = .ok (.iload_n 1, 1) := by decide +kernel
theorem dX12_bound_8 : decode cX12_bound 8 = .ok (.invokevirtual 82, 3) := by decide +kernel
theorem dX12_bound_11 : decode cX12_bound 11 = .ok (.iconst 1, 1) := by decide +kernel
theorem dX12_bound_12 : decode cX12_bound 12 = .ok (.invokevirtual 254, 3) := by decide +kernel
theorem dX12_bound_15 : decode cX12_bound 15 = .ok (.ifCond .ne 15, 3) := by decide +kernel
theorem dX12_bound_18 : decode cX12_bound 18 = .ok (.aload_n 0, 1) := by decide +kernel
theorem dX12_bound_19 : decode cX12_bound 19 = .ok (.iload_n 2, 1) := by decide +kernel
theorem dX12_bound_20 : decode cX12_bound 20 = .ok (.invokestatic 356, 3) := by decide +kernel
theorem dX12_bound_23 : decode cX12_bound 23 = .ok (.iconst 2, 1) := by decide +kernel
theorem dX12_bound_24 : decode cX12_bound 24 = .ok (.invokevirtual 254, 3) := by decide +kernel
theorem dX12_bound_27 : decode cX12_bound 27 = .ok (.ifCond .eq 5, 3) := by decide +kernel
theorem dX12_bound_30 : decode cX12_bound 30 = .ok (.iconst 0, 1) := by decide +kernel
theorem dX12_bound_31 : decode cX12_bound 31 = .ok (.ireturn, 1) := by decide +kernel
theorem dX12_bound_32 : decode cX12_bound 32 = .ok (.aload_n 0, 1) := by decide +kernel
theorem dX12_bound_33 : decode cX12_bound 33 = .ok (.iload_n 1, 1) := by decide +kernel
theorem dX12_bound_34 : decode cX12_bound 34 = .ok (.iload_n 2, 1) := by decide +kernel
theorem dX12_bound_35 : decode cX12_bound 35 = .ok (.invokevirtual 359, 3) := by decide +kernel
theorem dX12_bound_38 : decode cX12_bound 38 = .ok (.aload_n 0, 1) := by decide +kernel
theorem dX12_bound_39 : decode cX12_bound 39 = .ok (.invokevirtual 407, 3) := by decide +kernel
theorem dX12_bound_42 : decode cX12_bound 42 = .ok (.ireturn, 1) := by decide +kernel
theorem dX12_whenOf_0 : decode cX12_whenOf 0 = .ok (.aload_n 0, 1) := by decide +kernel
theorem dX12_whenOf_1 : decode cX12_whenOf 1 = .ok (.iload_n 1, 1) := by decide +kernel
theorem dX12_whenOf_2 : decode cX12_whenOf 2 = .ok (.invokevirtual 311, 3) := by decide +kernel
theorem dX12_whenOf_5 : decode cX12_whenOf 5 = .ok (.iconst 0, 1) := by decide +kernel
theorem dX12_whenOf_6 : decode cX12_whenOf 6 = .ok (.istore_n 3, 1) := by decide +kernel
theorem dX12_whenOf_7 : decode cX12_whenOf 7 = .ok (.iload_n 3, 1) := by decide +kernel
theorem dX12_whenOf_8 : decode cX12_whenOf 8 = .ok (.bipush 40, 2) := by decide +kernel
theorem dX12_whenOf_10 : decode cX12_whenOf 10 = .ok (.if_icmp .gt 23, 3) := by decide +kernel
theorem dX12_whenOf_13 : decode cX12_whenOf 13 = .ok (.aload_n 0, 1) := by decide +kernel
theorem dX12_whenOf_14 : decode cX12_whenOf 14 = .ok (.iload_n 2, 1) := by decide +kernel
theorem dX12_whenOf_15 : decode cX12_whenOf 15 = .ok (.invokevirtual 404, 3) := by decide +kernel
theorem dX12_whenOf_18 : decode cX12_whenOf 18 = .ok (.ifCond .eq 5, 3) := by decide +kernel
theorem dX12_whenOf_21 : decode cX12_whenOf 21 = .ok (.iload_n 3, 1) := by decide +kernel
theorem dX12_whenOf_22 : decode cX12_whenOf 22 = .ok (.ireturn, 1) := by decide +kernel
theorem dX12_whenOf_23 : decode cX12_whenOf 23 = .ok (.aload_n 0, 1) := by decide +kernel
theorem dX12_whenOf_24 : decode cX12_whenOf 24 = .ok (.invokevirtual 308, 3) := by decide +kernel
theorem dX12_whenOf_27 : decode cX12_whenOf 27 = .ok (.iinc 3 1, 3) := by decide +kernel
theorem dX12_whenOf_30 : decode cX12_whenOf 30 = .ok (.goto (-23), 3) := by decide +kernel
theorem dX12_whenOf_33 : decode cX12_whenOf 33 = .ok (.iconst (-1), 1) := by decide +kernel
theorem dX12_whenOf_34 : decode cX12_whenOf 34 = .ok (.ireturn, 1) := by decide +kernel
theorem dX12_when_0 : decode cX12_when 0 = .ok (.aload_n 0, 1) := by decide +kernel
theorem dX12_when_1 : decode cX12_when 1 = .ok (.iconst 0, 1) := by decide +kernel
theorem dX12_when_2 : decode cX12_when 2 = .ok (.putfield 3, 3) := by decide +kernel
theorem dX12_when_5 : decode cX12_when 5 = .ok (.aload_n 0, 1) := by decide +kernel
theorem dX12_when_6 : decode cX12_when 6 = .ok (.aload_n 0, 1) := by decide +kernel
theorem dX12_when_7 : decode cX12_when 7 = .ok (.iload_n 1, 1) := by decide +kernel
theorem dX12_when_8 : decode cX12_when 8 = .ok (.invokevirtual 82, 3) := by decide +kernel
theorem dX12_when_11 : decode cX12_when 11 = .ok (.ifCond .ne 11, 3) := by decide +kernel
theorem dX12_when_14 : decode cX12_when 14 = .ok (.aload_n 0, 1) := by decide +kernel
theorem dX12_when_15 : decode cX12_when 15 = .ok (.iload_n 2, 1) := by decide +kernel
theorem dX12_when_16 : decode cX12_when 16 = .ok (.invokevirtual 330, 3) := by decide +kernel
theorem dX12_when_19 : decode cX12_when 19 = .ok (.ifCond .eq 7, 3) := by decide +kernel
theorem dX12_when_22 : decode cX12_when 22 = .ok (.iconst 1, 1) := by decide +kernel
theorem dX12_when_23 : decode cX12_when 23 = .ok (.goto 4, 3) := by decide +kernel
theorem dX12_when_26 : decode cX12_when 26 = .ok (.iconst 0, 1) := by decide +kernel
theorem dX12_when_27 : decode cX12_when 27 = .ok (.iconst 1, 1) := by decide +kernel
theorem dX12_when_28 : decode cX12_when 28 = .ok (.invokevirtual 254, 3) := by decide +kernel
theorem dX12_when_31 : decode cX12_when 31 = .ok (.ifCond .eq 7, 3) := by decide +kernel
theorem dX12_when_34 : decode cX12_when 34 = .ok (.iconst 0, 1) := by decide +kernel
theorem dX12_when_35 : decode cX12_when 35 = .ok (.goto 9, 3) := by decide +kernel
theorem dX12_when_38 : decode cX12_when 38 = .ok (.aload_n 0, 1) := by decide +kernel
theorem dX12_when_39 : decode cX12_when 39 = .ok (.iload_n 1, 1) := by decide +kernel
theorem dX12_when_40 : decode cX12_when 40 = .ok (.iload_n 2, 1) := by decide +kernel
theorem dX12_when_41 : decode cX12_when 41 = .ok (.invokevirtual 410, 3) := by decide +kernel
theorem dX12_when_44 : decode cX12_when 44 = .ok (.ireturn, 1) := by decide +kernel
theorem dX12_soonest_0 : decode cX12_soonest 0 = .ok (.aload_n 0, 1) := by decide +kernel
theorem dX12_soonest_1 : decode cX12_soonest 1 = .ok (.iconst 0, 1) := by decide +kernel
theorem dX12_soonest_2 : decode cX12_soonest 2 = .ok (.putfield 3, 3) := by decide +kernel
theorem dX12_soonest_5 : decode cX12_soonest 5 = .ok (.aload_n 0, 1) := by decide +kernel
theorem dX12_soonest_6 : decode cX12_soonest 6 = .ok (.aload_n 0, 1) := by decide +kernel
theorem dX12_soonest_7 : decode cX12_soonest 7 = .ok (.iload_n 1, 1) := by decide +kernel
theorem dX12_soonest_8 : decode cX12_soonest 8 = .ok (.invokevirtual 330, 3) := by decide +kernel
theorem dX12_soonest_11 : decode cX12_soonest 11 = .ok (.iconst 1, 1) := by decide +kernel
theorem dX12_soonest_12 : decode cX12_soonest 12 = .ok (.invokevirtual 254, 3) := by decide +kernel
theorem dX12_soonest_15 : decode cX12_soonest 15 = .ok (.ifCond .eq 5, 3) := by decide +kernel
theorem dX12_soonest_18 : decode cX12_soonest 18 = .ok (.iconst 0, 1) := by decide +kernel
theorem dX12_soonest_19 : decode cX12_soonest 19 = .ok (.ireturn, 1) := by decide +kernel
theorem dX12_soonest_20 : decode cX12_soonest 20 = .ok (.iconst (-1), 1) := by decide +kernel
theorem dX12_soonest_21 : decode cX12_soonest 21 = .ok (.istore_n 2, 1) := by decide +kernel
theorem dX12_soonest_22 : decode cX12_soonest 22 = .ok (.bipush 41, 2) := by decide +kernel
theorem dX12_soonest_24 : decode cX12_soonest 24 = .ok (.istore_n 3, 1) := by decide +kernel
theorem dX12_soonest_25 : decode cX12_soonest 25 = .ok (.iconst 0, 1) := by decide +kernel
theorem dX12_soonest_26 : decode cX12_soonest 26 = .ok (.istore 4, 2) := by decide +kernel
theorem dX12_soonest_28 : decode cX12_soonest 28 = .ok (.iload 4, 2) := by decide +kernel
theorem dX12_soonest_30 : decode cX12_soonest 30 = .ok (.aload_n 0, 1) := by decide +kernel
theorem dX12_soonest_31 : decode cX12_soonest 31 = .ok (.invokevirtual 74, 3) := by decide +kernel
theorem dX12_soonest_34 : decode cX12_soonest 34 = .ok (.if_icmp .ge 38, 3) := by decide +kernel
theorem dX12_soonest_37 : decode cX12_soonest 37 = .ok (.aload_n 0, 1) := by decide +kernel
theorem dX12_soonest_38 : decode cX12_soonest 38 = .ok (.iload 4, 2) := by decide +kernel
theorem dX12_soonest_40 : decode cX12_soonest 40 = .ok (.iload_n 1, 1) := by decide +kernel
theorem dX12_soonest_41 : decode cX12_soonest 41 = .ok (.invokevirtual 410, 3) := by decide +kernel
theorem dX12_soonest_44 : decode cX12_soonest 44 = .ok (.istore 5, 2) := by decide +kernel
theorem dX12_soonest_46 : decode cX12_soonest 46 = .ok (.iload 5, 2) := by decide +kernel
theorem dX12_soonest_48 : decode cX12_soonest 48 = .ok (.ifCond .lt 18, 3) := by decide +kernel
theorem dX12_soonest_51 : decode cX12_soonest 51 = .ok (.iload 5, 2) := by decide +kernel
theorem dX12_soonest_53 : decode cX12_soonest 53 = .ok (.iload_n 3, 1) := by decide +kernel
theorem dX12_soonest_54 : decode cX12_soonest 54 = .ok (.if_icmp .lt 6, 3) := by decide +kernel
theorem dX12_soonest_57 : decode cX12_soonest 57 = .ok (.goto 9, 3) := by decide +kernel
theorem dX12_soonest_60 : decode cX12_soonest 60 = .ok (.iload 4, 2) := by decide +kernel
theorem dX12_soonest_62 : decode cX12_soonest 62 = .ok (.istore_n 2, 1) := by decide +kernel
theorem dX12_soonest_63 : decode cX12_soonest 63 = .ok (.iload 5, 2) := by decide +kernel
theorem dX12_soonest_65 : decode cX12_soonest 65 = .ok (.istore_n 3, 1) := by decide +kernel
theorem dX12_soonest_66 : decode cX12_soonest 66 = .ok (.iinc 4 1, 3) := by decide +kernel
theorem dX12_soonest_69 : decode cX12_soonest 69 = .ok (.goto (-41), 3) := by decide +kernel
theorem dX12_soonest_72 : decode cX12_soonest 72 = .ok (.iload_n 2, 1) := by decide +kernel
theorem dX12_soonest_73 : decode cX12_soonest 73 = .ok (.ireturn, 1) := by decide +kernel
theorem dX12_ripe_0 : decode cX12_ripe 0 = .ok (.aload_n 0, 1) := by decide +kernel
theorem dX12_ripe_1 : decode cX12_ripe 1 = .ok (.iconst 0, 1) := by decide +kernel
theorem dX12_ripe_2 : decode cX12_ripe 2 = .ok (.putfield 3, 3) := by decide +kernel
theorem dX12_ripe_5 : decode cX12_ripe 5 = .ok (.aload_n 0, 1) := by decide +kernel
theorem dX12_ripe_6 : decode cX12_ripe 6 = .ok (.aload_n 0, 1) := by decide +kernel
theorem dX12_ripe_7 : decode cX12_ripe 7 = .ok (.iload_n 1, 1) := by decide +kernel
theorem dX12_ripe_8 : decode cX12_ripe 8 = .ok (.invokevirtual 82, 3) := by decide +kernel
theorem dX12_ripe_11 : decode cX12_ripe 11 = .ok (.iconst 1, 1) := by decide +kernel
theorem dX12_ripe_12 : decode cX12_ripe 12 = .ok (.invokevirtual 254, 3) := by decide +kernel
theorem dX12_ripe_15 : decode cX12_ripe 15 = .ok (.ifCond .eq 5, 3) := by decide +kernel
theorem dX12_ripe_18 : decode cX12_ripe 18 = .ok (.iconst 0, 1) := by decide +kernel
theorem dX12_ripe_19 : decode cX12_ripe 19 = .ok (.ireturn, 1) := by decide +kernel
theorem dX12_ripe_20 : decode cX12_ripe 20 = .ok (.aload_n 0, 1) := by decide +kernel
theorem dX12_ripe_21 : decode cX12_ripe 21 = .ok (.iload_n 1, 1) := by decide +kernel
theorem dX12_ripe_22 : decode cX12_ripe 22 = .ok (.invokevirtual 311, 3) := by decide +kernel
theorem dX12_ripe_25 : decode cX12_ripe 25 = .ok (.iconst 0, 1) := by decide +kernel
theorem dX12_ripe_26 : decode cX12_ripe 26 = .ok (.istore_n 3, 1) := by decide +kernel
theorem dX12_ripe_27 : decode cX12_ripe 27 = .ok (.iconst (-1), 1) := by decide +kernel
theorem dX12_ripe_28 : decode cX12_ripe 28 = .ok (.istore 4, 2) := by decide +kernel
theorem dX12_ripe_30 : decode cX12_ripe 30 = .ok (.iconst 0, 1) := by decide +kernel
theorem dX12_ripe_31 : decode cX12_ripe 31 = .ok (.istore 5, 2) := by decide +kernel
theorem dX12_ripe_33 : decode cX12_ripe 33 = .ok (.iload 5, 2) := by decide +kernel
theorem dX12_ripe_35 : decode cX12_ripe 35 = .ok (.bipush 40, 2) := by decide +kernel
theorem dX12_ripe_37 : decode cX12_ripe 37 = .ok (.if_icmp .gt 45, 3) := by decide +kernel
theorem dX12_ripe_40 : decode cX12_ripe 40 = .ok (.aload_n 0, 1) := by decide +kernel
theorem dX12_ripe_41 : decode cX12_ripe 41 = .ok (.invokevirtual 407, 3) := by decide +kernel
theorem dX12_ripe_44 : decode cX12_ripe 44 = .ok (.invokestatic 384, 3) := by decide +kernel
theorem dX12_ripe_47 : decode cX12_ripe 47 = .ok (.istore 6, 2) := by decide +kernel
theorem dX12_ripe_49 : decode cX12_ripe 49 = .ok (.iload 6, 2) := by decide +kernel
theorem dX12_ripe_51 : decode cX12_ripe 51 = .ok (.iload 4, 2) := by decide +kernel
theorem dX12_ripe_53 : decode cX12_ripe 53 = .ok (.if_icmp .le 8, 3) := by decide +kernel
theorem dX12_ripe_56 : decode cX12_ripe 56 = .ok (.iload 5, 2) := by decide +kernel
theorem dX12_ripe_58 : decode cX12_ripe 58 = .ok (.goto 4, 3) := by decide +kernel
theorem dX12_ripe_61 : decode cX12_ripe 61 = .ok (.iload_n 3, 1) := by decide +kernel
theorem dX12_ripe_62 : decode cX12_ripe 62 = .ok (.istore_n 3, 1) := by decide +kernel
theorem dX12_ripe_63 : decode cX12_ripe 63 = .ok (.iload 4, 2) := by decide +kernel
theorem dX12_ripe_65 : decode cX12_ripe 65 = .ok (.iload 6, 2) := by decide +kernel
theorem dX12_ripe_67 : decode cX12_ripe 67 = .ok (.invokestatic 401, 3) := by decide +kernel
theorem dX12_ripe_70 : decode cX12_ripe 70 = .ok (.istore 4, 2) := by decide +kernel
theorem dX12_ripe_72 : decode cX12_ripe 72 = .ok (.aload_n 0, 1) := by decide +kernel
theorem dX12_ripe_73 : decode cX12_ripe 73 = .ok (.invokevirtual 308, 3) := by decide +kernel
theorem dX12_ripe_76 : decode cX12_ripe 76 = .ok (.iinc 5 1, 3) := by decide +kernel
theorem dX12_ripe_79 : decode cX12_ripe 79 = .ok (.goto (-46), 3) := by decide +kernel
theorem dX12_ripe_82 : decode cX12_ripe 82 = .ok (.iload_n 2, 1) := by decide +kernel
theorem dX12_ripe_83 : decode cX12_ripe 83 = .ok (.ifCond .eq 8, 3) := by decide +kernel
theorem dX12_ripe_86 : decode cX12_ripe 86 = .ok (.iload 4, 2) := by decide +kernel
theorem dX12_ripe_88 : decode cX12_ripe 88 = .ok (.goto 4, 3) := by decide +kernel
theorem dX12_ripe_91 : decode cX12_ripe 91 = .ok (.iload_n 3, 1) := by decide +kernel
theorem dX12_ripe_92 : decode cX12_ripe 92 = .ok (.ireturn, 1) := by decide +kernel
theorem dX12_spies_0 : decode cX12_spies 0 = .ok (.aload_n 0, 1) := by decide +kernel
theorem dX12_spies_1 : decode cX12_spies 1 = .ok (.iconst 0, 1) := by decide +kernel
theorem dX12_spies_2 : decode cX12_spies 2 = .ok (.putfield 3, 3) := by decide +kernel
theorem dX12_spies_5 : decode cX12_spies 5 = .ok (.iconst 0, 1) := by decide +kernel
theorem dX12_spies_6 : decode cX12_spies 6 = .ok (.istore_n 2, 1) := by decide +kernel
theorem dX12_spies_7 : decode cX12_spies 7 = .ok (.iconst 0, 1) := by decide +kernel
theorem dX12_spies_8 : decode cX12_spies 8 = .ok (.istore_n 3, 1) := by decide +kernel
theorem dX12_spies_9 : decode cX12_spies 9 = .ok (.iload_n 3, 1) := by decide +kernel
theorem dX12_spies_10 : decode cX12_spies 10 = .ok (.aload_n 0, 1) := by decide +kernel
theorem dX12_spies_11 : decode cX12_spies 11 = .ok (.invokevirtual 74, 3) := by decide +kernel
theorem dX12_spies_14 : decode cX12_spies 14 = .ok (.if_icmp .ge 32, 3) := by decide +kernel
theorem dX12_spies_17 : decode cX12_spies 17 = .ok (.aload_n 0, 1) := by decide +kernel
theorem dX12_spies_18 : decode cX12_spies 18 = .ok (.iload_n 3, 1) := by decide +kernel
theorem dX12_spies_19 : decode cX12_spies 19 = .ok (.invokevirtual 311, 3) := by decide +kernel
theorem dX12_spies_22 : decode cX12_spies 22 = .ok (.iload_n 2, 1) := by decide +kernel
theorem dX12_spies_23 : decode cX12_spies 23 = .ok (.aload_n 0, 1) := by decide +kernel
theorem dX12_spies_24 : decode cX12_spies 24 = .ok (.invokevirtual 318, 3) := by decide +kernel
theorem dX12_spies_27 : decode cX12_spies 27 = .ok (.iload_n 1, 1) := by decide +kernel
theorem dX12_spies_28 : decode cX12_spies 28 = .ok (.if_icmp .ne 9, 3) := by decide +kernel
theorem dX12_spies_31 : decode cX12_spies 31 = .ok (.iconst 1, 1) := by decide +kernel
theorem dX12_spies_32 : decode cX12_spies 32 = .ok (.iload_n 3, 1) := by decide +kernel
theorem dX12_spies_33 : decode cX12_spies 33 = .ok (.ishl, 1) := by decide +kernel
theorem dX12_spies_34 : decode cX12_spies 34 = .ok (.goto 4, 3) := by decide +kernel
theorem dX12_spies_37 : decode cX12_spies 37 = .ok (.iconst 0, 1) := by decide +kernel
theorem dX12_spies_38 : decode cX12_spies 38 = .ok (.ior, 1) := by decide +kernel
theorem dX12_spies_39 : decode cX12_spies 39 = .ok (.istore_n 2, 1) := by decide +kernel
theorem dX12_spies_40 : decode cX12_spies 40 = .ok (.iinc 3 1, 3) := by decide +kernel
theorem dX12_spies_43 : decode cX12_spies 43 = .ok (.goto (-34), 3) := by decide +kernel
theorem dX12_spies_46 : decode cX12_spies 46 = .ok (.iload_n 2, 1) := by decide +kernel
theorem dX12_spies_47 : decode cX12_spies 47 = .ok (.ireturn, 1) := by decide +kernel
theorem dX12_guess_0 : decode cX12_guess 0 = .ok (.aload_n 0, 1) := by decide +kernel
theorem dX12_guess_1 : decode cX12_guess 1 = .ok (.iconst 0, 1) := by decide +kernel
theorem dX12_guess_2 : decode cX12_guess 2 = .ok (.putfield 3, 3) := by decide +kernel
theorem dX12_guess_5 : decode cX12_guess 5 = .ok (.aload_n 0, 1) := by decide +kernel
theorem dX12_guess_6 : decode cX12_guess 6 = .ok (.aload_n 0, 1) := by decide +kernel
theorem dX12_guess_7 : decode cX12_guess 7 = .ok (.iload_n 1, 1) := by decide +kernel
theorem dX12_guess_8 : decode cX12_guess 8 = .ok (.invokevirtual 82, 3) := by decide +kernel
theorem dX12_guess_11 : decode cX12_guess 11 = .ok (.iconst 1, 1) := by decide +kernel
theorem dX12_guess_12 : decode cX12_guess 12 = .ok (.invokevirtual 254, 3) := by decide +kernel
theorem dX12_guess_15 : decode cX12_guess 15 = .ok (.ifCond .eq 5, 3) := by decide +kernel
theorem dX12_guess_18 : decode cX12_guess 18 = .ok (.iconst 0, 1) := by decide +kernel
theorem dX12_guess_19 : decode cX12_guess 19 = .ok (.ireturn, 1) := by decide +kernel
theorem dX12_guess_20 : decode cX12_guess 20 = .ok (.aload_n 0, 1) := by decide +kernel
theorem dX12_guess_21 : decode cX12_guess 21 = .ok (.iload_n 1, 1) := by decide +kernel
theorem dX12_guess_22 : decode cX12_guess 22 = .ok (.invokevirtual 311, 3) := by decide +kernel
theorem dX12_guess_25 : decode cX12_guess 25 = .ok (.iconst 0, 1) := by decide +kernel
theorem dX12_guess_26 : decode cX12_guess 26 = .ok (.istore_n 2, 1) := by decide +kernel
theorem dX12_guess_27 : decode cX12_guess 27 = .ok (.iconst 0, 1) := by decide +kernel
theorem dX12_guess_28 : decode cX12_guess 28 = .ok (.istore_n 3, 1) := by decide +kernel
theorem dX12_guess_29 : decode cX12_guess 29 = .ok (.iload_n 3, 1) := by decide +kernel
theorem dX12_guess_30 : decode cX12_guess 30 = .ok (.bipush 12, 2) := by decide +kernel
theorem dX12_guess_32 : decode cX12_guess 32 = .ok (.if_icmp .ge 43, 3) := by decide +kernel
theorem dX12_guess_35 : decode cX12_guess 35 = .ok (.iload_n 2, 1) := by decide +kernel
theorem dX12_guess_36 : decode cX12_guess 36 = .ok (.aload_n 0, 1) := by decide +kernel
theorem dX12_guess_37 : decode cX12_guess 37 = .ok (.getfield 13, 3) := by decide +kernel
theorem dX12_guess_40 : decode cX12_guess 40 = .ok (.bipush 8, 2) := by decide +kernel
theorem dX12_guess_42 : decode cX12_guess 42 = .ok (.iload_n 3, 1) := by decide +kernel
theorem dX12_guess_43 : decode cX12_guess 43 = .ok (.iadd, 1) := by decide +kernel
theorem dX12_guess_44 : decode cX12_guess 44 = .ok (.iaload, 1) := by decide +kernel
theorem dX12_guess_45 : decode cX12_guess 45 = .ok (.aload_n 0, 1) := by decide +kernel
theorem dX12_guess_46 : decode cX12_guess 46 = .ok (.getfield 13, 3) := by decide +kernel
theorem dX12_guess_49 : decode cX12_guess 49 = .ok (.bipush 8, 2) := by decide +kernel
theorem dX12_guess_51 : decode cX12_guess 51 = .ok (.aload_n 0, 1) := by decide +kernel
theorem dX12_guess_52 : decode cX12_guess 52 = .ok (.invokevirtual 321, 3) := by decide +kernel
theorem dX12_guess_55 : decode cX12_guess 55 = .ok (.iadd, 1) := by decide +kernel
theorem dX12_guess_56 : decode cX12_guess 56 = .ok (.iaload, 1) := by decide +kernel
theorem dX12_guess_57 : decode cX12_guess 57 = .ok (.if_icmp .ne 9, 3) := by decide +kernel
theorem dX12_guess_60 : decode cX12_guess 60 = .ok (.iconst 1, 1) := by decide +kernel
theorem dX12_guess_61 : decode cX12_guess 61 = .ok (.iload_n 3, 1) := by decide +kernel
theorem dX12_guess_62 : decode cX12_guess 62 = .ok (.ishl, 1) := by decide +kernel
theorem dX12_guess_63 : decode cX12_guess 63 = .ok (.goto 4, 3) := by decide +kernel
theorem dX12_guess_66 : decode cX12_guess 66 = .ok (.iconst 0, 1) := by decide +kernel
theorem dX12_guess_67 : decode cX12_guess 67 = .ok (.ior, 1) := by decide +kernel
theorem dX12_guess_68 : decode cX12_guess 68 = .ok (.istore_n 2, 1) := by decide +kernel
theorem dX12_guess_69 : decode cX12_guess 69 = .ok (.iinc 3 1, 3) := by decide +kernel
theorem dX12_guess_72 : decode cX12_guess 72 = .ok (.goto (-43), 3) := by decide +kernel
theorem dX12_guess_75 : decode cX12_guess 75 = .ok (.iload_n 2, 1) := by decide +kernel
theorem dX12_guess_76 : decode cX12_guess 76 = .ok (.ireturn, 1) := by decide +kernel
theorem dX12_postageOf_0 : decode cX12_postageOf 0 = .ok (.aload_n 0, 1) := by decide +kernel
theorem dX12_postageOf_1 : decode cX12_postageOf 1 = .ok (.iload_n 1, 1) := by decide +kernel
theorem dX12_postageOf_2 : decode cX12_postageOf 2 = .ok (.iload_n 2, 1) := by decide +kernel
theorem dX12_postageOf_3 : decode cX12_postageOf 3 = .ok (.invokevirtual 359, 3) := by decide +kernel
theorem dX12_postageOf_6 : decode cX12_postageOf 6 = .ok (.aload_n 0, 1) := by decide +kernel
theorem dX12_postageOf_7 : decode cX12_postageOf 7 = .ok (.invokevirtual 318, 3) := by decide +kernel
theorem dX12_postageOf_10 : decode cX12_postageOf 10 = .ok (.bipush 9, 2) := by decide +kernel
theorem dX12_postageOf_12 : decode cX12_postageOf 12 = .ok (.iadd, 1) := by decide +kernel
theorem dX12_postageOf_13 : decode cX12_postageOf 13 = .ok (.bipush 10, 2) := by decide +kernel
theorem dX12_postageOf_15 : decode cX12_postageOf 15 = .ok (.idiv, 1) := by decide +kernel
theorem dX12_postageOf_16 : decode cX12_postageOf 16 = .ok (.iconst 2, 1) := by decide +kernel
theorem dX12_postageOf_17 : decode cX12_postageOf 17 = .ok (.aload_n 0, 1) := by decide +kernel
theorem dX12_postageOf_18 : decode cX12_postageOf 18 = .ok (.invokevirtual 407, 3) := by decide +kernel
theorem dX12_postageOf_21 : decode cX12_postageOf 21 = .ok (.invokestatic 384, 3) := by decide +kernel
theorem dX12_postageOf_24 : decode cX12_postageOf 24 = .ok (.imul, 1) := by decide +kernel
theorem dX12_postageOf_25 : decode cX12_postageOf 25 = .ok (.iadd, 1) := by decide +kernel
theorem dX12_postageOf_26 : decode cX12_postageOf 26 = .ok (.ireturn, 1) := by decide +kernel
theorem dX12_postage_0 : decode cX12_postage 0 = .ok (.aload_n 0, 1) := by decide +kernel
theorem dX12_postage_1 : decode cX12_postage 1 = .ok (.iconst 0, 1) := by decide +kernel
theorem dX12_postage_2 : decode cX12_postage 2 = .ok (.putfield 3, 3) := by decide +kernel
theorem dX12_postage_5 : decode cX12_postage 5 = .ok (.aload_n 0, 1) := by decide +kernel
theorem dX12_postage_6 : decode cX12_postage 6 = .ok (.aload_n 0, 1) := by decide +kernel
theorem dX12_postage_7 : decode cX12_postage 7 = .ok (.iload_n 1, 1) := by decide +kernel
theorem dX12_postage_8 : decode cX12_postage 8 = .ok (.invokevirtual 82, 3) := by decide +kernel
theorem dX12_postage_11 : decode cX12_postage 11 = .ok (.iconst 1, 1) := by decide +kernel
theorem dX12_postage_12 : decode cX12_postage 12 = .ok (.invokevirtual 254, 3) := by decide +kernel
theorem dX12_postage_15 : decode cX12_postage 15 = .ok (.ifCond .ne 34, 3) := by decide +kernel
theorem dX12_postage_18 : decode cX12_postage 18 = .ok (.aload_n 0, 1) := by decide +kernel
theorem dX12_postage_19 : decode cX12_postage 19 = .ok (.iload_n 2, 1) := by decide +kernel
theorem dX12_postage_20 : decode cX12_postage 20 = .ok (.iload_n 3, 1) := by decide +kernel
theorem dX12_postage_21 : decode cX12_postage 21 = .ok (.ifCond .eq 7, 3) := by decide +kernel
theorem dX12_postage_24 : decode cX12_postage 24 = .ok (.iconst 1, 1) := by decide +kernel
theorem dX12_postage_25 : decode cX12_postage 25 = .ok (.goto 4, 3) := by decide +kernel
theorem dX12_postage_28 : decode cX12_postage 28 = .ok (.iconst 0, 1) := by decide +kernel
theorem dX12_postage_29 : decode cX12_postage 29 = .ok (.bipush 40, 2) := by decide +kernel
theorem dX12_postage_31 : decode cX12_postage 31 = .ok (.invokestatic 78, 3) := by decide +kernel
theorem dX12_postage_34 : decode cX12_postage 34 = .ok (.ifCond .ne 7, 3) := by decide +kernel
theorem dX12_postage_37 : decode cX12_postage 37 = .ok (.iconst 1, 1) := by decide +kernel
theorem dX12_postage_38 : decode cX12_postage 38 = .ok (.goto 4, 3) := by decide +kernel
theorem dX12_postage_41 : decode cX12_postage 41 = .ok (.iconst 0, 1) := by decide +kernel
theorem dX12_postage_42 : decode cX12_postage 42 = .ok (.iconst 2, 1) := by decide +kernel
theorem dX12_postage_43 : decode cX12_postage 43 = .ok (.invokevirtual 254, 3) := by decide +kernel
theorem dX12_postage_46 : decode cX12_postage 46 = .ok (.ifCond .eq 5, 3) := by decide +kernel
theorem dX12_postage_49 : decode cX12_postage 49 = .ok (.iconst 0, 1) := by decide +kernel
theorem dX12_postage_50 : decode cX12_postage 50 = .ok (.ireturn, 1) := by decide +kernel
theorem dX12_postage_51 : decode cX12_postage 51 = .ok (.aload_n 0, 1) := by decide +kernel
theorem dX12_postage_52 : decode cX12_postage 52 = .ok (.iload_n 1, 1) := by decide +kernel
theorem dX12_postage_53 : decode cX12_postage 53 = .ok (.iload_n 2, 1) := by decide +kernel
theorem dX12_postage_54 : decode cX12_postage 54 = .ok (.invokevirtual 413, 3) := by decide +kernel
theorem dX12_postage_57 : decode cX12_postage 57 = .ok (.iload_n 3, 1) := by decide +kernel
theorem dX12_postage_58 : decode cX12_postage 58 = .ok (.ifCond .eq 14, 3) := by decide +kernel
theorem dX12_postage_61 : decode cX12_postage 61 = .ok (.aload_n 0, 1) := by decide +kernel
theorem dX12_postage_62 : decode cX12_postage 62 = .ok (.iload_n 1, 1) := by decide +kernel
theorem dX12_postage_63 : decode cX12_postage 63 = .ok (.iload_n 2, 1) := by decide +kernel
theorem dX12_postage_64 : decode cX12_postage 64 = .ok (.iconst 1, 1) := by decide +kernel
theorem dX12_postage_65 : decode cX12_postage 65 = .ok (.isub, 1) := by decide +kernel
theorem dX12_postage_66 : decode cX12_postage 66 = .ok (.invokevirtual 413, 3) := by decide +kernel
theorem dX12_postage_69 : decode cX12_postage 69 = .ok (.goto 4, 3) := by decide +kernel
theorem dX12_postage_72 : decode cX12_postage 72 = .ok (.iconst 0, 1) := by decide +kernel
theorem dX12_postage_73 : decode cX12_postage 73 = .ok (.isub, 1) := by decide +kernel
theorem dX12_postage_74 : decode cX12_postage 74 = .ok (.ireturn, 1) := by decide +kernel
theorem dX12_forkOf_0 : decode cX12_forkOf 0 = .ok (.aload_n 0, 1) := by decide +kernel
theorem dX12_forkOf_1 : decode cX12_forkOf 1 = .ok (.iload_n 1, 1) := by decide +kernel
theorem dX12_forkOf_2 : decode cX12_forkOf 2 = .ok (.invokevirtual 311, 3) := by decide +kernel
theorem dX12_forkOf_5 : decode cX12_forkOf 5 = .ok (.iconst 0, 1) := by decide +kernel
theorem dX12_forkOf_6 : decode cX12_forkOf 6 = .ok (.istore 4, 2) := by decide +kernel
theorem dX12_forkOf_8 : decode cX12_forkOf 8 = .ok (.iconst 0, 1) := by decide +kernel
theorem dX12_forkOf_9 : decode cX12_forkOf 9 = .ok (.istore 5, 2) := by decide +kernel
theorem dX12_forkOf_11 : decode cX12_forkOf 11 = .ok (.iload 5, 2) := by decide +kernel
theorem dX12_forkOf_13 : decode cX12_forkOf 13 = .ok (.iload_n 2, 1) := by decide +kernel
theorem dX12_forkOf_14 : decode cX12_forkOf 14 = .ok (.if_icmp .ge 71, 3) := by decide +kernel
theorem dX12_forkOf_17 : decode cX12_forkOf 17 = .ok (.aload_n 0, 1) := by decide +kernel
theorem dX12_forkOf_18 : decode cX12_forkOf 18 = .ok (.getfield 257, 3) := by decide +kernel
theorem dX12_forkOf_21 : decode cX12_forkOf 21 = .ok (.istore 6, 2) := by decide +kernel
theorem dX12_forkOf_23 : decode cX12_forkOf 23 = .ok (.aload_n 0, 1) := by decide +kernel
theorem dX12_forkOf_24 : decode cX12_forkOf 24 = .ok (.invokevirtual 300, 3) := by decide +kernel
theorem dX12_forkOf_27 : decode cX12_forkOf 27 = .ok (.iload 4, 2) := by decide +kernel
theorem dX12_forkOf_29 : decode cX12_forkOf 29 = .ok (.ifCond .ne 23, 3) := by decide +kernel
theorem dX12_forkOf_32 : decode cX12_forkOf 32 = .ok (.aload_n 0, 1) := by decide +kernel
theorem dX12_forkOf_33 : decode cX12_forkOf 33 = .ok (.getfield 257, 3) := by decide +kernel
theorem dX12_forkOf_36 : decode cX12_forkOf 36 = .ok (.iload 6, 2) := by decide +kernel
theorem dX12_forkOf_38 : decode cX12_forkOf 38 = .ok (.if_icmp .le 14, 3) := by decide +kernel
theorem dX12_forkOf_41 : decode cX12_forkOf 41 = .ok (.aload_n 0, 1) := by decide +kernel
theorem dX12_forkOf_42 : decode cX12_forkOf 42 = .ok (.getfield 42, 3) := by decide +kernel
theorem dX12_forkOf_45 : decode cX12_forkOf 45 = .ok (.iload 6, 2) := by decide +kernel
theorem dX12_forkOf_47 : decode cX12_forkOf 47 = .ok (.iload_n 3, 1) := by decide +kernel
theorem dX12_forkOf_48 : decode cX12_forkOf 48 = .ok (.iastore, 1) := by decide +kernel
theorem dX12_forkOf_49 : decode cX12_forkOf 49 = .ok (.iconst 1, 1) := by decide +kernel
theorem dX12_forkOf_50 : decode cX12_forkOf 50 = .ok (.istore 4, 2) := by decide +kernel
theorem dX12_forkOf_52 : decode cX12_forkOf 52 = .ok (.aload_n 0, 1) := by decide +kernel
theorem dX12_forkOf_53 : decode cX12_forkOf 53 = .ok (.getfield 269, 3) := by decide +kernel
theorem dX12_forkOf_56 : decode cX12_forkOf 56 = .ok (.ifCond .eq 7, 3) := by decide +kernel
theorem dX12_forkOf_59 : decode cX12_forkOf 59 = .ok (.aload_n 0, 1) := by decide +kernel
theorem dX12_forkOf_60 : decode cX12_forkOf 60 = .ok (.invokevirtual 300, 3) := by decide +kernel
theorem dX12_forkOf_63 : decode cX12_forkOf 63 = .ok (.aload_n 0, 1) := by decide +kernel
theorem dX12_forkOf_64 : decode cX12_forkOf 64 = .ok (.sipush 9999, 3) := by decide +kernel
theorem dX12_forkOf_67 : decode cX12_forkOf 67 = .ok (.aload_n 0, 1) := by decide +kernel
theorem dX12_forkOf_68 : decode cX12_forkOf 68 = .ok (.getfield 262, 3) := by decide +kernel
theorem dX12_forkOf_71 : decode cX12_forkOf 71 = .ok (.iconst 1, 1) := by decide +kernel
theorem dX12_forkOf_72 : decode cX12_forkOf 72 = .ok (.iadd, 1) := by decide +kernel
theorem dX12_forkOf_73 : decode cX12_forkOf 73 = .ok (.invokestatic 303, 3) := by decide +kernel
theorem dX12_forkOf_76 : decode cX12_forkOf 76 = .ok (.putfield 262, 3) := by decide +kernel
theorem dX12_forkOf_79 : decode cX12_forkOf 79 = .ok (.iinc 5 1, 3) := by decide +kernel
theorem dX12_forkOf_82 : decode cX12_forkOf 82 = .ok (.goto (-71), 3) := by decide +kernel
theorem dX12_forkOf_85 : decode cX12_forkOf 85 = .ok (.aload_n 0, 1) := by decide +kernel
theorem dX12_forkOf_86 : decode cX12_forkOf 86 = .ok (.invokevirtual 321, 3) := by decide +kernel
theorem dX12_forkOf_89 : decode cX12_forkOf 89 = .ok (.ireturn, 1) := by decide +kernel
theorem dX12_forks_0 : decode cX12_forks 0 = .ok (.aload_n 0, 1) := by decide +kernel
theorem dX12_forks_1 : decode cX12_forks 1 = .ok (.iconst 0, 1) := by decide +kernel
theorem dX12_forks_2 : decode cX12_forks 2 = .ok (.putfield 3, 3) := by decide +kernel
theorem dX12_forks_5 : decode cX12_forks 5 = .ok (.aload_n 0, 1) := by decide +kernel
theorem dX12_forks_6 : decode cX12_forks 6 = .ok (.aload_n 0, 1) := by decide +kernel
theorem dX12_forks_7 : decode cX12_forks 7 = .ok (.iload_n 1, 1) := by decide +kernel
theorem dX12_forks_8 : decode cX12_forks 8 = .ok (.invokevirtual 82, 3) := by decide +kernel
theorem dX12_forks_11 : decode cX12_forks 11 = .ok (.iconst 1, 1) := by decide +kernel
theorem dX12_forks_12 : decode cX12_forks 12 = .ok (.invokevirtual 254, 3) := by decide +kernel
theorem dX12_forks_15 : decode cX12_forks 15 = .ok (.ifCond .ne 26, 3) := by decide +kernel
theorem dX12_forks_18 : decode cX12_forks 18 = .ok (.aload_n 0, 1) := by decide +kernel
theorem dX12_forks_19 : decode cX12_forks 19 = .ok (.iload_n 2, 1) := by decide +kernel
theorem dX12_forks_20 : decode cX12_forks 20 = .ok (.iconst 1, 1) := by decide +kernel
theorem dX12_forks_21 : decode cX12_forks 21 = .ok (.bipush 40, 2) := by decide +kernel
theorem dX12_forks_23 : decode cX12_forks 23 = .ok (.invokestatic 78, 3) := by decide +kernel
theorem dX12_forks_26 : decode cX12_forks 26 = .ok (.ifCond .ne 7, 3) := by decide +kernel
theorem dX12_forks_29 : decode cX12_forks 29 = .ok (.iconst 1, 1) := by decide +kernel
theorem dX12_forks_30 : decode cX12_forks 30 = .ok (.goto 4, 3) := by decide +kernel
theorem dX12_forks_33 : decode cX12_forks 33 = .ok (.iconst 0, 1) := by decide +kernel
theorem dX12_forks_34 : decode cX12_forks 34 = .ok (.iconst 2, 1) := by decide +kernel
theorem dX12_forks_35 : decode cX12_forks 35 = .ok (.invokevirtual 254, 3) := by decide +kernel
theorem dX12_forks_38 : decode cX12_forks 38 = .ok (.ifCond .eq 5, 3) := by decide +kernel
theorem dX12_forks_41 : decode cX12_forks 41 = .ok (.iconst 0, 1) := by decide +kernel
theorem dX12_forks_42 : decode cX12_forks 42 = .ok (.ireturn, 1) := by decide +kernel
theorem dX12_forks_43 : decode cX12_forks 43 = .ok (.iconst 0, 1) := by decide +kernel
theorem dX12_forks_44 : decode cX12_forks 44 = .ok (.istore_n 3, 1) := by decide +kernel
theorem dX12_forks_45 : decode cX12_forks 45 = .ok (.iconst 0, 1) := by decide +kernel
theorem dX12_forks_46 : decode cX12_forks 46 = .ok (.istore 4, 2) := by decide +kernel
theorem dX12_forks_48 : decode cX12_forks 48 = .ok (.iload 4, 2) := by decide +kernel
theorem dX12_forks_50 : decode cX12_forks 50 = .ok (.bipush 12, 2) := by decide +kernel
theorem dX12_forks_52 : decode cX12_forks 52 = .ok (.if_icmp .ge 22, 3) := by decide +kernel
theorem dX12_forks_55 : decode cX12_forks 55 = .ok (.iload_n 3, 1) := by decide +kernel
theorem dX12_forks_56 : decode cX12_forks 56 = .ok (.iconst 1, 1) := by decide +kernel
theorem dX12_forks_57 : decode cX12_forks 57 = .ok (.aload_n 0, 1) := by decide +kernel
theorem dX12_forks_58 : decode cX12_forks 58 = .ok (.iload_n 1, 1) := by decide +kernel
theorem dX12_forks_59 : decode cX12_forks 59 = .ok (.iload_n 2, 1) := by decide +kernel
theorem dX12_forks_60 : decode cX12_forks 60 = .ok (.iload 4, 2) := by decide +kernel
theorem dX12_forks_62 : decode cX12_forks 62 = .ok (.invokevirtual 416, 3) := by decide +kernel
theorem dX12_forks_65 : decode cX12_forks 65 = .ok (.ishl, 1) := by decide +kernel
theorem dX12_forks_66 : decode cX12_forks 66 = .ok (.ior, 1) := by decide +kernel
theorem dX12_forks_67 : decode cX12_forks 67 = .ok (.istore_n 3, 1) := by decide +kernel
theorem dX12_forks_68 : decode cX12_forks 68 = .ok (.iinc 4 1, 3) := by decide +kernel
theorem dX12_forks_71 : decode cX12_forks 71 = .ok (.goto (-23), 3) := by decide +kernel
theorem dX12_forks_74 : decode cX12_forks 74 = .ok (.iload_n 3, 1) := by decide +kernel
theorem dX12_forks_75 : decode cX12_forks 75 = .ok (.ireturn, 1) := by decide +kernel
theorem dX12_lengthOf_0 : decode cX12_lengthOf 0 = .ok (.iconst 0, 1) := by decide +kernel
theorem dX12_lengthOf_1 : decode cX12_lengthOf 1 = .ok (.istore_n 2, 1) := by decide +kernel
theorem dX12_lengthOf_2 : decode cX12_lengthOf 2 = .ok (.iconst 0, 1) := by decide +kernel
theorem dX12_lengthOf_3 : decode cX12_lengthOf 3 = .ok (.istore_n 3, 1) := by decide +kernel
theorem dX12_lengthOf_4 : decode cX12_lengthOf 4 = .ok (.iload_n 3, 1) := by decide +kernel
theorem dX12_lengthOf_5 : decode cX12_lengthOf 5 = .ok (.aload_n 0, 1) := by decide +kernel
theorem dX12_lengthOf_6 : decode cX12_lengthOf 6 = .ok (.invokevirtual 74, 3) := by decide +kernel
theorem dX12_lengthOf_9 : decode cX12_lengthOf 9 = .ok (.if_icmp .ge 30, 3) := by decide +kernel
theorem dX12_lengthOf_12 : decode cX12_lengthOf 12 = .ok (.iload_n 2, 1) := by decide +kernel
theorem dX12_lengthOf_13 : decode cX12_lengthOf 13 = .ok (.iload_n 1, 1) := by decide +kernel
theorem dX12_lengthOf_14 : decode cX12_lengthOf 14 = .ok (.iload_n 3, 1) := by decide +kernel
theorem dX12_lengthOf_15 : decode cX12_lengthOf 15 = .ok (.invokestatic 420, 3) := by decide +kernel
theorem dX12_lengthOf_18 : decode cX12_lengthOf 18 = .ok (.ifCond .eq 12, 3) := by decide +kernel
theorem dX12_lengthOf_21 : decode cX12_lengthOf 21 = .ok (.aload_n 0, 1) := by decide +kernel
theorem dX12_lengthOf_22 : decode cX12_lengthOf 22 = .ok (.getfield 51, 3) := by decide +kernel
theorem dX12_lengthOf_25 : decode cX12_lengthOf 25 = .ok (.iload_n 3, 1) := by decide +kernel
theorem dX12_lengthOf_26 : decode cX12_lengthOf 26 = .ok (.iaload, 1) := by decide +kernel
theorem dX12_lengthOf_27 : decode cX12_lengthOf 27 = .ok (.goto 4, 3) := by decide +kernel
theorem dX12_lengthOf_30 : decode cX12_lengthOf 30 = .ok (.iconst 0, 1) := by decide +kernel
theorem dX12_lengthOf_31 : decode cX12_lengthOf 31 = .ok (.iadd, 1) := by decide +kernel
theorem dX12_lengthOf_32 : decode cX12_lengthOf 32 = .ok (.istore_n 2, 1) := by decide +kernel
theorem dX12_lengthOf_33 : decode cX12_lengthOf 33 = .ok (.iinc 3 1, 3) := by decide +kernel
theorem dX12_lengthOf_36 : decode cX12_lengthOf 36 = .ok (.goto (-32), 3) := by decide +kernel
theorem dX12_lengthOf_39 : decode cX12_lengthOf 39 = .ok (.iload_n 2, 1) := by decide +kernel
theorem dX12_lengthOf_40 : decode cX12_lengthOf 40 = .ok (.ireturn, 1) := by decide +kernel
theorem dX12_fewestOf_0 : decode cX12_fewestOf 0 = .ok (.sipush 1000, 3) := by decide +kernel
theorem dX12_fewestOf_3 : decode cX12_fewestOf 3 = .ok (.istore_n 3, 1) := by decide +kernel
theorem dX12_fewestOf_4 : decode cX12_fewestOf 4 = .ok (.iload_n 1, 1) := by decide +kernel
theorem dX12_fewestOf_5 : decode cX12_fewestOf 5 = .ok (.istore 4, 2) := by decide +kernel
theorem dX12_fewestOf_7 : decode cX12_fewestOf 7 = .ok (.iload 4, 2) := by decide +kernel
theorem dX12_fewestOf_9 : decode cX12_fewestOf 9 = .ok (.ifCond .le 42, 3) := by decide +kernel
theorem dX12_fewestOf_12 : decode cX12_fewestOf 12 = .ok (.aload_n 0, 1) := by decide +kernel
theorem dX12_fewestOf_13 : decode cX12_fewestOf 13 = .ok (.iload 4, 2) := by decide +kernel
theorem dX12_fewestOf_15 : decode cX12_fewestOf 15 = .ok (.invokevirtual 423, 3) := by decide +kernel
theorem dX12_fewestOf_18 : decode cX12_fewestOf 18 = .ok (.iload_n 2, 1) := by decide +kernel
theorem dX12_fewestOf_19 : decode cX12_fewestOf 19 = .ok (.if_icmp .gt 21, 3) := by decide +kernel
theorem dX12_fewestOf_22 : decode cX12_fewestOf 22 = .ok (.iload_n 3, 1) := by decide +kernel
theorem dX12_fewestOf_23 : decode cX12_fewestOf 23 = .ok (.iconst 1, 1) := by decide +kernel
theorem dX12_fewestOf_24 : decode cX12_fewestOf 24 = .ok (.aload_n 0, 1) := by decide +kernel
theorem dX12_fewestOf_25 : decode cX12_fewestOf 25 = .ok (.getfield 54, 3) := by decide +kernel
theorem dX12_fewestOf_28 : decode cX12_fewestOf 28 = .ok (.iload_n 1, 1) := by decide +kernel
theorem dX12_fewestOf_29 : decode cX12_fewestOf 29 = .ok (.iload 4, 2) := by decide +kernel
theorem dX12_fewestOf_31 : decode cX12_fewestOf 31 = .ok (.iconst (-1), 1) := by decide +kernel
theorem dX12_fewestOf_32 : decode cX12_fewestOf 32 = .ok (.ixor, 1) := by decide +kernel
theorem dX12_fewestOf_33 : decode cX12_fewestOf 33 = .ok (.iand, 1) := by decide +kernel
theorem dX12_fewestOf_34 : decode cX12_fewestOf 34 = .ok (.iaload, 1) := by decide +kernel
theorem dX12_fewestOf_35 : decode cX12_fewestOf 35 = .ok (.iadd, 1) := by decide +kernel
theorem dX12_fewestOf_36 : decode cX12_fewestOf 36 = .ok (.invokestatic 303, 3) := by decide +kernel
theorem dX12_fewestOf_39 : decode cX12_fewestOf 39 = .ok (.istore_n 3, 1) := by decide +kernel
theorem dX12_fewestOf_40 : decode cX12_fewestOf 40 = .ok (.iload 4, 2) := by decide +kernel
theorem dX12_fewestOf_42 : decode cX12_fewestOf 42 = .ok (.iconst 1, 1) := by decide +kernel
theorem dX12_fewestOf_43 : decode cX12_fewestOf 43 = .ok (.isub, 1) := by decide +kernel
theorem dX12_fewestOf_44 : decode cX12_fewestOf 44 = .ok (.iload_n 1, 1) := by decide +kernel
theorem dX12_fewestOf_45 : decode cX12_fewestOf 45 = .ok (.iand, 1) := by decide +kernel
theorem dX12_fewestOf_46 : decode cX12_fewestOf 46 = .ok (.istore 4, 2) := by decide +kernel
theorem dX12_fewestOf_48 : decode cX12_fewestOf 48 = .ok (.goto (-41), 3) := by decide +kernel
theorem dX12_fewestOf_51 : decode cX12_fewestOf 51 = .ok (.iload_n 3, 1) := by decide +kernel
theorem dX12_fewestOf_52 : decode cX12_fewestOf 52 = .ok (.ireturn, 1) := by decide +kernel
theorem dX12_shelves_0 : decode cX12_shelves 0 = .ok (.aload_n 0, 1) := by decide +kernel
theorem dX12_shelves_1 : decode cX12_shelves 1 = .ok (.iconst 0, 1) := by decide +kernel
theorem dX12_shelves_2 : decode cX12_shelves 2 = .ok (.putfield 3, 3) := by decide +kernel
theorem dX12_shelves_5 : decode cX12_shelves 5 = .ok (.aload_n 0, 1) := by decide +kernel
theorem dX12_shelves_6 : decode cX12_shelves 6 = .ok (.iload_n 1, 1) := by decide +kernel
theorem dX12_shelves_7 : decode cX12_shelves 7 = .ok (.iconst 1, 1) := by decide +kernel
theorem dX12_shelves_8 : decode cX12_shelves 8 = .ok (.bipush 99, 2) := by decide +kernel
theorem dX12_shelves_10 : decode cX12_shelves 10 = .ok (.invokestatic 78, 3) := by decide +kernel
theorem dX12_shelves_13 : decode cX12_shelves 13 = .ok (.ifCond .eq 10, 3) := by decide +kernel
theorem dX12_shelves_16 : decode cX12_shelves 16 = .ok (.iload_n 2, 1) := by decide +kernel
theorem dX12_shelves_17 : decode cX12_shelves 17 = .ok (.invokestatic 356, 3) := by decide +kernel
theorem dX12_shelves_20 : decode cX12_shelves 20 = .ok (.ifCond .eq 7, 3) := by decide +kernel
theorem dX12_shelves_23 : decode cX12_shelves 23 = .ok (.iconst 1, 1) := by decide +kernel
theorem dX12_shelves_24 : decode cX12_shelves 24 = .ok (.goto 4, 3) := by decide +kernel
theorem dX12_shelves_27 : decode cX12_shelves 27 = .ok (.iconst 0, 1) := by decide +kernel
theorem dX12_shelves_28 : decode cX12_shelves 28 = .ok (.iconst 1, 1) := by decide +kernel
theorem dX12_shelves_29 : decode cX12_shelves 29 = .ok (.invokevirtual 254, 3) := by decide +kernel
theorem dX12_shelves_32 : decode cX12_shelves 32 = .ok (.ifCond .eq 5, 3) := by decide +kernel
theorem dX12_shelves_35 : decode cX12_shelves 35 = .ok (.iconst 0, 1) := by decide +kernel
theorem dX12_shelves_36 : decode cX12_shelves 36 = .ok (.ireturn, 1) := by decide +kernel
theorem dX12_shelves_37 : decode cX12_shelves 37 = .ok (.iconst 0, 1) := by decide +kernel
theorem dX12_shelves_38 : decode cX12_shelves 38 = .ok (.istore 4, 2) := by decide +kernel
theorem dX12_shelves_40 : decode cX12_shelves 40 = .ok (.iload 4, 2) := by decide +kernel
theorem dX12_shelves_42 : decode cX12_shelves 42 = .ok (.aload_n 0, 1) := by decide +kernel
theorem dX12_shelves_43 : decode cX12_shelves 43 = .ok (.invokevirtual 74, 3) := by decide +kernel
theorem dX12_shelves_46 : decode cX12_shelves 46 = .ok (.if_icmp .ge 27, 3) := by decide +kernel
theorem dX12_shelves_49 : decode cX12_shelves 49 = .ok (.aload_n 0, 1) := by decide +kernel
theorem dX12_shelves_50 : decode cX12_shelves 50 = .ok (.iload 4, 2) := by decide +kernel
theorem dX12_shelves_52 : decode cX12_shelves 52 = .ok (.iload_n 2, 1) := by decide +kernel
theorem dX12_shelves_53 : decode cX12_shelves 53 = .ok (.invokevirtual 359, 3) := by decide +kernel
theorem dX12_shelves_56 : decode cX12_shelves 56 = .ok (.aload_n 0, 1) := by decide +kernel
theorem dX12_shelves_57 : decode cX12_shelves 57 = .ok (.getfield 51, 3) := by decide +kernel
theorem dX12_shelves_60 : decode cX12_shelves 60 = .ok (.iload 4, 2) := by decide +kernel
theorem dX12_shelves_62 : decode cX12_shelves 62 = .ok (.aload_n 0, 1) := by decide +kernel
theorem dX12_shelves_63 : decode cX12_shelves 63 = .ok (.getfield 257, 3) := by decide +kernel
theorem dX12_shelves_66 : decode cX12_shelves 66 = .ok (.iastore, 1) := by decide +kernel
theorem dX12_shelves_67 : decode cX12_shelves 67 = .ok (.iinc 4 1, 3) := by decide +kernel
theorem dX12_shelves_70 : decode cX12_shelves 70 = .ok (.goto (-30), 3) := by decide +kernel
theorem dX12_shelves_73 : decode cX12_shelves 73 = .ok (.iconst 0, 1) := by decide +kernel
theorem dX12_shelves_74 : decode cX12_shelves 74 = .ok (.istore 4, 2) := by decide +kernel
theorem dX12_shelves_76 : decode cX12_shelves 76 = .ok (.iconst 0, 1) := by decide +kernel
theorem dX12_shelves_77 : decode cX12_shelves 77 = .ok (.istore 5, 2) := by decide +kernel
theorem dX12_shelves_79 : decode cX12_shelves 79 = .ok (.iload 5, 2) := by decide +kernel
theorem dX12_shelves_81 : decode cX12_shelves 81 = .ok (.iconst 1, 1) := by decide +kernel
theorem dX12_shelves_82 : decode cX12_shelves 82 = .ok (.aload_n 0, 1) := by decide +kernel
theorem dX12_shelves_83 : decode cX12_shelves 83 = .ok (.invokevirtual 74, 3) := by decide +kernel
theorem dX12_shelves_86 : decode cX12_shelves 86 = .ok (.ishl, 1) := by decide +kernel
theorem dX12_shelves_87 : decode cX12_shelves 87 = .ok (.if_icmp .ge 59, 3) := by decide +kernel
theorem dX12_shelves_90 : decode cX12_shelves 90 = .ok (.aload_n 0, 1) := by decide +kernel
theorem dX12_shelves_91 : decode cX12_shelves 91 = .ok (.getfield 54, 3) := by decide +kernel
theorem dX12_shelves_94 : decode cX12_shelves 94 = .ok (.iload 5, 2) := by decide +kernel
theorem dX12_shelves_96 : decode cX12_shelves 96 = .ok (.iload 5, 2) := by decide +kernel
theorem dX12_shelves_98 : decode cX12_shelves 98 = .ok (.ifCond .ne 7, 3) := by decide +kernel
theorem dX12_shelves_101 : decode cX12_shelves 101 = .ok (.iconst 0, 1) := by decide +kernel
theorem dX12_shelves_102 : decode cX12_shelves 102 = .ok (.goto 10, 3) := by decide +kernel
theorem dX12_shelves_105 : decode cX12_shelves 105 = .ok (.aload_n 0, 1) := by decide +kernel
theorem dX12_shelves_106 : decode cX12_shelves 106 = .ok (.iload 5, 2) := by decide +kernel
theorem dX12_shelves_108 : decode cX12_shelves 108 = .ok (.iload_n 1, 1) := by decide +kernel
theorem dX12_shelves_109 : decode cX12_shelves 109 = .ok (.invokevirtual 426, 3) := by decide +kernel
theorem dX12_shelves_112 : decode cX12_shelves 112 = .ok (.iastore, 1) := by decide +kernel
theorem dX12_shelves_113 : decode cX12_shelves 113 = .ok (.aload_n 0, 1) := by decide +kernel
theorem dX12_shelves_114 : decode cX12_shelves 114 = .ok (.iload 5, 2) := by decide +kernel
theorem dX12_shelves_116 : decode cX12_shelves 116 = .ok (.invokevirtual 423, 3) := by decide +kernel
theorem dX12_shelves_119 : decode cX12_shelves 119 = .ok (.iload_n 1, 1) := by decide +kernel
theorem dX12_shelves_120 : decode cX12_shelves 120 = .ok (.if_icmp .gt 16, 3) := by decide +kernel
theorem dX12_shelves_123 : decode cX12_shelves 123 = .ok (.iload 4, 2) := by decide +kernel
theorem dX12_shelves_125 : decode cX12_shelves 125 = .ok (.iload 5, 2) := by decide +kernel
theorem dX12_shelves_127 : decode cX12_shelves 127 = .ok (.invokestatic 384, 3) := by decide +kernel
theorem dX12_shelves_130 : decode cX12_shelves 130 = .ok (.invokestatic 401, 3) := by decide +kernel
theorem dX12_shelves_133 : decode cX12_shelves 133 = .ok (.goto 5, 3) := by decide +kernel
theorem dX12_shelves_136 : decode cX12_shelves 136 = .ok (.iload 4, 2) := by decide +kernel
theorem dX12_shelves_138 : decode cX12_shelves 138 = .ok (.istore 4, 2) := by decide +kernel
theorem dX12_shelves_140 : decode cX12_shelves 140 = .ok (.iinc 5 1, 3) := by decide +kernel
theorem dX12_shelves_143 : decode cX12_shelves 143 = .ok (.goto (-64), 3) := by decide +kernel
theorem dX12_shelves_146 : decode cX12_shelves 146 = .ok (.aload_n 0, 1) := by decide +kernel
theorem dX12_shelves_147 : decode cX12_shelves 147 = .ok (.getfield 54, 3) := by decide +kernel
theorem dX12_shelves_150 : decode cX12_shelves 150 = .ok (.iconst 1, 1) := by decide +kernel
theorem dX12_shelves_151 : decode cX12_shelves 151 = .ok (.aload_n 0, 1) := by decide +kernel
theorem dX12_shelves_152 : decode cX12_shelves 152 = .ok (.invokevirtual 74, 3) := by decide +kernel
theorem dX12_shelves_155 : decode cX12_shelves 155 = .ok (.ishl, 1) := by decide +kernel
theorem dX12_shelves_156 : decode cX12_shelves 156 = .ok (.iconst 1, 1) := by decide +kernel
theorem dX12_shelves_157 : decode cX12_shelves 157 = .ok (.isub, 1) := by decide +kernel
theorem dX12_shelves_158 : decode cX12_shelves 158 = .ok (.iaload, 1) := by decide +kernel
theorem dX12_shelves_159 : decode cX12_shelves 159 = .ok (.istore 5, 2) := by decide +kernel
theorem dX12_shelves_161 : decode cX12_shelves 161 = .ok (.iload_n 3, 1) := by decide +kernel
theorem dX12_shelves_162 : decode cX12_shelves 162 = .ok (.ifCond .eq 8, 3) := by decide +kernel
theorem dX12_shelves_165 : decode cX12_shelves 165 = .ok (.iload 4, 2) := by decide +kernel
theorem dX12_shelves_167 : decode cX12_shelves 167 = .ok (.goto 17, 3) := by decide +kernel
theorem dX12_shelves_170 : decode cX12_shelves 170 = .ok (.iload 5, 2) := by decide +kernel
theorem dX12_shelves_172 : decode cX12_shelves 172 = .ok (.sipush 1000, 3) := by decide +kernel
theorem dX12_shelves_175 : decode cX12_shelves 175 = .ok (.if_icmp .lt 7, 3) := by decide +kernel
theorem dX12_shelves_178 : decode cX12_shelves 178 = .ok (.iconst (-1), 1) := by decide +kernel
theorem dX12_shelves_179 : decode cX12_shelves 179 = .ok (.goto 5, 3) := by decide +kernel
theorem dX12_shelves_182 : decode cX12_shelves 182 = .ok (.iload 5, 2) := by decide +kernel
theorem dX12_shelves_184 : decode cX12_shelves 184 = .ok (.ireturn, 1) := by decide +kernel
theorem dX12_tempers_0 : decode cX12_tempers 0 = .ok (.aload_n 0, 1) := by decide +kernel
theorem dX12_tempers_1 : decode cX12_tempers 1 = .ok (.iconst 0, 1) := by decide +kernel
theorem dX12_tempers_2 : decode cX12_tempers 2 = .ok (.putfield 3, 3) := by decide +kernel
theorem dX12_tempers_5 : decode cX12_tempers 5 = .ok (.aload_n 0, 1) := by decide +kernel
theorem dX12_tempers_6 : decode cX12_tempers 6 = .ok (.aload_n 0, 1) := by decide +kernel
theorem dX12_tempers_7 : decode cX12_tempers 7 = .ok (.iload_n 1, 1) := by decide +kernel
theorem dX12_tempers_8 : decode cX12_tempers 8 = .ok (.invokevirtual 82, 3) := by decide +kernel
theorem dX12_tempers_11 : decode cX12_tempers 11 = .ok (.ifCond .ne 15, 3) := by decide +kernel
theorem dX12_tempers_14 : decode cX12_tempers 14 = .ok (.iload_n 3, 1) := by decide +kernel
theorem dX12_tempers_15 : decode cX12_tempers 15 = .ok (.iconst (-1), 1) := by decide +kernel
theorem dX12_tempers_16 : decode cX12_tempers 16 = .ok (.if_icmp .eq 14, 3) := by decide +kernel
theorem dX12_tempers_19 : decode cX12_tempers 19 = .ok (.iload_n 3, 1) := by decide +kernel
theorem dX12_tempers_20 : decode cX12_tempers 20 = .ok (.invokestatic 327, 3) := by decide +kernel
theorem dX12_tempers_23 : decode cX12_tempers 23 = .ok (.ifCond .eq 7, 3) := by decide +kernel
