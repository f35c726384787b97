theorem dX12_growsAll_40 : decode cX12_growsAll 40 = .ok (.if_icmp .ge 21, 3) := by decide +kernel
theorem dX12_growsAll_43 : decode cX12_growsAll 43 = .ok (.aload_n 0, 1) := by decide +kernel
theorem dX12_growsAll_44 : decode cX12_growsAll 44 = .ok (.getfield 45, 3) := by decide +kernel
theorem dX12_growsAll_47 : decode cX12_growsAll 47 = .ok (.iload_n 2, 1) := by decide +kernel
theorem dX12_growsAll_48 : decode cX12_growsAll 48 = .ok (.aload_n 0, 1) := by decide +kernel
theorem dX12_growsAll_49 : decode cX12_growsAll 49 = .ok (.getfield 42, 3) := by decide +kernel
theorem dX12_growsAll_52 : decode cX12_growsAll 52 = .ok (.iload_n 2, 1) := by decide +kernel
theorem dX12_growsAll_53 : decode cX12_growsAll 53 = .ok (.iaload, 1) := by decide +kernel
theorem dX12_growsAll_54 : decode cX12_growsAll 54 = .ok (.iastore, 1) := by decide +kernel
theorem dX12_growsAll_55 : decode cX12_growsAll 55 = .ok (.iinc 2 1, 3) := by decide +kernel
theorem dX12_growsAll_58 : decode cX12_growsAll 58 = .ok (.goto (-23), 3) := by decide +kernel
theorem dX12_growsAll_61 : decode cX12_growsAll 61 = .ok (.return_, 1) := by decide +kernel
theorem dX12_isMet_0 : decode cX12_isMet 0 = .ok (.iload_n 2, 1) := by decide +kernel
theorem dX12_isMet_1 : decode cX12_isMet 1 = .ok (.ifCond .ne 29, 3) := by decide +kernel
theorem dX12_isMet_4 : decode cX12_isMet 4 = .ok (.aload_n 0, 1) := by decide +kernel
theorem dX12_isMet_5 : decode cX12_isMet 5 = .ok (.invokevirtual 321, 3) := by decide +kernel
theorem dX12_isMet_8 : decode cX12_isMet 8 = .ok (.aload_n 0, 1) := by decide +kernel
theorem dX12_isMet_9 : decode cX12_isMet 9 = .ok (.getfield 45, 3) := by decide +kernel
theorem dX12_isMet_12 : decode cX12_isMet 12 = .ok (.aload_n 0, 1) := by decide +kernel
theorem dX12_isMet_13 : decode cX12_isMet 13 = .ok (.getfield 48, 3) := by decide +kernel
theorem dX12_isMet_16 : decode cX12_isMet 16 = .ok (.iload_n 1, 1) := by decide +kernel
theorem dX12_isMet_17 : decode cX12_isMet 17 = .ok (.iaload, 1) := by decide +kernel
theorem dX12_isMet_18 : decode cX12_isMet 18 = .ok (.iconst 1, 1) := by decide +kernel
theorem dX12_isMet_19 : decode cX12_isMet 19 = .ok (.isub, 1) := by decide +kernel
theorem dX12_isMet_20 : decode cX12_isMet 20 = .ok (.iaload, 1) := by decide +kernel
theorem dX12_isMet_21 : decode cX12_isMet 21 = .ok (.if_icmp .ne 7, 3) := by decide +kernel
theorem dX12_isMet_24 : decode cX12_isMet 24 = .ok (.iconst 1, 1) := by decide +kernel
theorem dX12_isMet_25 : decode cX12_isMet 25 = .ok (.goto 4, 3) := by decide +kernel
theorem dX12_isMet_28 : decode cX12_isMet 28 = .ok (.iconst 0, 1) := by decide +kernel
theorem dX12_isMet_29 : decode cX12_isMet 29 = .ok (.ireturn, 1) := by decide +kernel
theorem dX12_isMet_30 : decode cX12_isMet 30 = .ok (.aload_n 0, 1) := by decide +kernel
theorem dX12_isMet_31 : decode cX12_isMet 31 = .ok (.getfield 257, 3) := by decide +kernel
theorem dX12_isMet_34 : decode cX12_isMet 34 = .ok (.aload_n 0, 1) := by decide +kernel
theorem dX12_isMet_35 : decode cX12_isMet 35 = .ok (.getfield 48, 3) := by decide +kernel
theorem dX12_isMet_38 : decode cX12_isMet 38 = .ok (.iload_n 1, 1) := by decide +kernel
theorem dX12_isMet_39 : decode cX12_isMet 39 = .ok (.iaload, 1) := by decide +kernel
theorem dX12_isMet_40 : decode cX12_isMet 40 = .ok (.if_icmp .ne 7, 3) := by decide +kernel
theorem dX12_isMet_43 : decode cX12_isMet 43 = .ok (.iconst 1, 1) := by decide +kernel
theorem dX12_isMet_44 : decode cX12_isMet 44 = .ok (.goto 4, 3) := by decide +kernel
theorem dX12_isMet_47 : decode cX12_isMet 47 = .ok (.iconst 0, 1) := by decide +kernel
theorem dX12_isMet_48 : decode cX12_isMet 48 = .ok (.istore_n 3, 1) := by decide +kernel
theorem dX12_isMet_49 : decode cX12_isMet 49 = .ok (.iconst 0, 1) := by decide +kernel
theorem dX12_isMet_50 : decode cX12_isMet 50 = .ok (.istore 4, 2) := by decide +kernel
theorem dX12_isMet_52 : decode cX12_isMet 52 = .ok (.iload 4, 2) := by decide +kernel
theorem dX12_isMet_54 : decode cX12_isMet 54 = .ok (.aload_n 0, 1) := by decide +kernel
theorem dX12_isMet_55 : decode cX12_isMet 55 = .ok (.getfield 257, 3) := by decide +kernel
theorem dX12_isMet_58 : decode cX12_isMet 58 = .ok (.if_icmp .ge 36, 3) := by decide +kernel
theorem dX12_isMet_61 : decode cX12_isMet 61 = .ok (.iload_n 3, 1) := by decide +kernel
theorem dX12_isMet_62 : decode cX12_isMet 62 = .ok (.ifCond .eq 32, 3) := by decide +kernel
theorem dX12_isMet_65 : decode cX12_isMet 65 = .ok (.aload_n 0, 1) := by decide +kernel
theorem dX12_isMet_66 : decode cX12_isMet 66 = .ok (.getfield 42, 3) := by decide +kernel
theorem dX12_isMet_69 : decode cX12_isMet 69 = .ok (.iload 4, 2) := by decide +kernel
theorem dX12_isMet_71 : decode cX12_isMet 71 = .ok (.iaload, 1) := by decide +kernel
theorem dX12_isMet_72 : decode cX12_isMet 72 = .ok (.aload_n 0, 1) := by decide +kernel
theorem dX12_isMet_73 : decode cX12_isMet 73 = .ok (.getfield 45, 3) := by decide +kernel
theorem dX12_isMet_76 : decode cX12_isMet 76 = .ok (.iload 4, 2) := by decide +kernel
theorem dX12_isMet_78 : decode cX12_isMet 78 = .ok (.iaload, 1) := by decide +kernel
theorem dX12_isMet_79 : decode cX12_isMet 79 = .ok (.if_icmp .ne 7, 3) := by decide +kernel
theorem dX12_isMet_82 : decode cX12_isMet 82 = .ok (.iconst 1, 1) := by decide +kernel
theorem dX12_isMet_83 : decode cX12_isMet 83 = .ok (.goto 4, 3) := by decide +kernel
theorem dX12_isMet_86 : decode cX12_isMet 86 = .ok (.iconst 0, 1) := by decide +kernel
theorem dX12_isMet_87 : decode cX12_isMet 87 = .ok (.istore_n 3, 1) := by decide +kernel
theorem dX12_isMet_88 : decode cX12_isMet 88 = .ok (.iinc 4 1, 3) := by decide +kernel
theorem dX12_isMet_91 : decode cX12_isMet 91 = .ok (.goto (-39), 3) := by decide +kernel
theorem dX12_isMet_94 : decode cX12_isMet 94 = .ok (.iload_n 3, 1) := by decide +kernel
theorem dX12_isMet_95 : decode cX12_isMet 95 = .ok (.ireturn, 1) := by decide +kernel
theorem dX12_meetOf_0 : decode cX12_meetOf 0 = .ok (.aload_n 0, 1) := by decide +kernel
theorem dX12_meetOf_1 : decode cX12_meetOf 1 = .ok (.iload_n 2, 1) := by decide +kernel
theorem dX12_meetOf_2 : decode cX12_meetOf 2 = .ok (.invokevirtual 387, 3) := by decide +kernel
theorem dX12_meetOf_5 : decode cX12_meetOf 5 = .ok (.aload_n 0, 1) := by decide +kernel
theorem dX12_meetOf_6 : decode cX12_meetOf 6 = .ok (.iload_n 1, 1) := by decide +kernel
theorem dX12_meetOf_7 : decode cX12_meetOf 7 = .ok (.invokevirtual 311, 3) := by decide +kernel
theorem dX12_meetOf_10 : decode cX12_meetOf 10 = .ok (.iconst 0, 1) := by decide +kernel
theorem dX12_meetOf_11 : decode cX12_meetOf 11 = .ok (.istore 4, 2) := by decide +kernel
theorem dX12_meetOf_13 : decode cX12_meetOf 13 = .ok (.iload 4, 2) := by decide +kernel
theorem dX12_meetOf_15 : decode cX12_meetOf 15 = .ok (.bipush 40, 2) := by decide +kernel
theorem dX12_meetOf_17 : decode cX12_meetOf 17 = .ok (.if_icmp .gt 26, 3) := by decide +kernel
theorem dX12_meetOf_20 : decode cX12_meetOf 20 = .ok (.aload_n 0, 1) := by decide +kernel
theorem dX12_meetOf_21 : decode cX12_meetOf 21 = .ok (.iload 4, 2) := by decide +kernel
theorem dX12_meetOf_23 : decode cX12_meetOf 23 = .ok (.iload_n 3, 1) := by decide +kernel
theorem dX12_meetOf_24 : decode cX12_meetOf 24 = .ok (.invokevirtual 390, 3) := by decide +kernel
theorem dX12_meetOf_27 : decode cX12_meetOf 27 = .ok (.ifCond .eq 6, 3) := by decide +kernel
theorem dX12_meetOf_30 : decode cX12_meetOf 30 = .ok (.iload 4, 2) := by decide +kernel
theorem dX12_meetOf_32 : decode cX12_meetOf 32 = .ok (.ireturn, 1) := by decide +kernel
theorem dX12_meetOf_33 : decode cX12_meetOf 33 = .ok (.aload_n 0, 1) := by decide +kernel
theorem dX12_meetOf_34 : decode cX12_meetOf 34 = .ok (.invokevirtual 308, 3) := by decide +kernel
theorem dX12_meetOf_37 : decode cX12_meetOf 37 = .ok (.iinc 4 1, 3) := by decide +kernel
theorem dX12_meetOf_40 : decode cX12_meetOf 40 = .ok (.goto (-27), 3) := by decide +kernel
theorem dX12_meetOf_43 : decode cX12_meetOf 43 = .ok (.iconst (-1), 1) := by decide +kernel
theorem dX12_meetOf_44 : decode cX12_meetOf 44 = .ok (.ireturn, 1) := by decide +kernel
theorem dX12_meet_0 : decode cX12_meet 0 = .ok (.aload_n 0, 1) := by decide +kernel
theorem dX12_meet_1 : decode cX12_meet 1 = .ok (.iconst 0, 1) := by decide +kernel
theorem dX12_meet_2 : decode cX12_meet 2 = .ok (.putfield 3, 3) := by decide +kernel
theorem dX12_meet_5 : decode cX12_meet 5 = .ok (.aload_n 0, 1) := by decide +kernel
theorem dX12_meet_6 : decode cX12_meet 6 = .ok (.aload_n 0, 1) := by decide +kernel
theorem dX12_meet_7 : decode cX12_meet 7 = .ok (.iload_n 1, 1) := by decide +kernel
theorem dX12_meet_8 : decode cX12_meet 8 = .ok (.invokevirtual 82, 3) := by decide +kernel
theorem dX12_meet_11 : decode cX12_meet 11 = .ok (.ifCond .ne 11, 3) := by decide +kernel
theorem dX12_meet_14 : decode cX12_meet 14 = .ok (.aload_n 0, 1) := by decide +kernel
theorem dX12_meet_15 : decode cX12_meet 15 = .ok (.iload_n 2, 1) := by decide +kernel
theorem dX12_meet_16 : decode cX12_meet 16 = .ok (.invokevirtual 82, 3) := by decide +kernel
theorem dX12_meet_19 : decode cX12_meet 19 = .ok (.ifCond .eq 7, 3) := by decide +kernel
theorem dX12_meet_22 : decode cX12_meet 22 = .ok (.iconst 1, 1) := by decide +kernel
theorem dX12_meet_23 : decode cX12_meet 23 = .ok (.goto 4, 3) := by decide +kernel
theorem dX12_meet_26 : decode cX12_meet 26 = .ok (.iconst 0, 1) := by decide +kernel
theorem dX12_meet_27 : decode cX12_meet 27 = .ok (.iconst 1, 1) := by decide +kernel
theorem dX12_meet_28 : decode cX12_meet 28 = .ok (.invokevirtual 254, 3) := by decide +kernel
theorem dX12_meet_31 : decode cX12_meet 31 = .ok (.ifCond .ne 21, 3) := by decide +kernel
theorem dX12_meet_34 : decode cX12_meet 34 = .ok (.aload_n 0, 1) := by decide +kernel
theorem dX12_meet_35 : decode cX12_meet 35 = .ok (.iload_n 1, 1) := by decide +kernel
theorem dX12_meet_36 : decode cX12_meet 36 = .ok (.iload_n 2, 1) := by decide +kernel
theorem dX12_meet_37 : decode cX12_meet 37 = .ok (.if_icmp .ne 7, 3) := by decide +kernel
theorem dX12_meet_40 : decode cX12_meet 40 = .ok (.iconst 1, 1) := by decide +kernel
theorem dX12_meet_41 : decode cX12_meet 41 = .ok (.goto 4, 3) := by decide +kernel
theorem dX12_meet_44 : decode cX12_meet 44 = .ok (.iconst 0, 1) := by decide +kernel
theorem dX12_meet_45 : decode cX12_meet 45 = .ok (.iconst 2, 1) := by decide +kernel
theorem dX12_meet_46 : decode cX12_meet 46 = .ok (.invokevirtual 254, 3) := by decide +kernel
theorem dX12_meet_49 : decode cX12_meet 49 = .ok (.ifCond .eq 7, 3) := by decide +kernel
theorem dX12_meet_52 : decode cX12_meet 52 = .ok (.iconst 0, 1) := by decide +kernel
theorem dX12_meet_53 : decode cX12_meet 53 = .ok (.goto 10, 3) := by decide +kernel
theorem dX12_meet_56 : decode cX12_meet 56 = .ok (.aload_n 0, 1) := by decide +kernel
theorem dX12_meet_57 : decode cX12_meet 57 = .ok (.iload_n 1, 1) := by decide +kernel
theorem dX12_meet_58 : decode cX12_meet 58 = .ok (.iload_n 2, 1) := by decide +kernel
theorem dX12_meet_59 : decode cX12_meet 59 = .ok (.iload_n 3, 1) := by decide +kernel
theorem dX12_meet_60 : decode cX12_meet 60 = .ok (.invokevirtual 394, 3) := by decide +kernel
theorem dX12_meet_63 : decode cX12_meet 63 = .ok (.ireturn, 1) := by decide +kernel
theorem dX12_part_0 : decode cX12_part 0 = .ok (.aload_n 0, 1) := by decide +kernel
theorem dX12_part_1 : decode cX12_part 1 = .ok (.iconst 0, 1) := by decide +kernel
theorem dX12_part_2 : decode cX12_part 2 = .ok (.putfield 3, 3) := by decide +kernel
theorem dX12_part_5 : decode cX12_part 5 = .ok (.aload_n 0, 1) := by decide +kernel
theorem dX12_part_6 : decode cX12_part 6 = .ok (.aload_n 0, 1) := by decide +kernel
theorem dX12_part_7 : decode cX12_part 7 = .ok (.iload_n 1, 1) := by decide +kernel
theorem dX12_part_8 : decode cX12_part 8 = .ok (.invokevirtual 82, 3) := by decide +kernel
theorem dX12_part_11 : decode cX12_part 11 = .ok (.ifCond .ne 11, 3) := by decide +kernel
theorem dX12_part_14 : decode cX12_part 14 = .ok (.aload_n 0, 1) := by decide +kernel
theorem dX12_part_15 : decode cX12_part 15 = .ok (.iload_n 2, 1) := by decide +kernel
theorem dX12_part_16 : decode cX12_part 16 = .ok (.invokevirtual 82, 3) := by decide +kernel
theorem dX12_part_19 : decode cX12_part 19 = .ok (.ifCond .eq 7, 3) := by decide +kernel
theorem dX12_part_22 : decode cX12_part 22 = .ok (.iconst 1, 1) := by decide +kernel
theorem dX12_part_23 : decode cX12_part 23 = .ok (.goto 4, 3) := by decide +kernel
theorem dX12_part_26 : decode cX12_part 26 = .ok (.iconst 0, 1) := by decide +kernel
theorem dX12_part_27 : decode cX12_part 27 = .ok (.iconst 1, 1) := by decide +kernel
theorem dX12_part_28 : decode cX12_part 28 = .ok (.invokevirtual 254, 3) := by decide +kernel
theorem dX12_part_31 : decode cX12_part 31 = .ok (.ifCond .ne 21, 3) := by decide +kernel
theorem dX12_part_34 : decode cX12_part 34 = .ok (.aload_n 0, 1) := by decide +kernel
theorem dX12_part_35 : decode cX12_part 35 = .ok (.iload_n 1, 1) := by decide +kernel
theorem dX12_part_36 : decode cX12_part 36 = .ok (.iload_n 2, 1) := by decide +kernel
theorem dX12_part_37 : decode cX12_part 37 = .ok (.if_icmp .ne 7, 3) := by decide +kernel
theorem dX12_part_40 : decode cX12_part 40 = .ok (.iconst 1, 1) := by decide +kernel
theorem dX12_part_41 : decode cX12_part 41 = .ok (.goto 4, 3) := by decide +kernel
theorem dX12_part_44 : decode cX12_part 44 = .ok (.iconst 0, 1) := by decide +kernel
theorem dX12_part_45 : decode cX12_part 45 = .ok (.iconst 2, 1) := by decide +kernel
theorem dX12_part_46 : decode cX12_part 46 = .ok (.invokevirtual 254, 3) := by decide +kernel
theorem dX12_part_49 : decode cX12_part 49 = .ok (.ifCond .eq 5, 3) := by decide +kernel
theorem dX12_part_52 : decode cX12_part 52 = .ok (.iconst 0, 1) := by decide +kernel
theorem dX12_part_53 : decode cX12_part 53 = .ok (.ireturn, 1) := by decide +kernel
theorem dX12_part_54 : decode cX12_part 54 = .ok (.aload_n 0, 1) := by decide +kernel
theorem dX12_part_55 : decode cX12_part 55 = .ok (.iload_n 1, 1) := by decide +kernel
theorem dX12_part_56 : decode cX12_part 56 = .ok (.invokevirtual 86, 3) := by decide +kernel
theorem dX12_part_59 : decode cX12_part 59 = .ok (.aload_n 0, 1) := by decide +kernel
theorem dX12_part_60 : decode cX12_part 60 = .ok (.iload_n 2, 1) := by decide +kernel
theorem dX12_part_61 : decode cX12_part 61 = .ok (.invokevirtual 86, 3) := by decide +kernel
theorem dX12_part_64 : decode cX12_part 64 = .ok (.invokestatic 303, 3) := by decide +kernel
theorem dX12_part_67 : decode cX12_part 67 = .ok (.istore_n 3, 1) := by decide +kernel
theorem dX12_part_68 : decode cX12_part 68 = .ok (.iconst 0, 1) := by decide +kernel
theorem dX12_part_69 : decode cX12_part 69 = .ok (.istore 4, 2) := by decide +kernel
theorem dX12_part_71 : decode cX12_part 71 = .ok (.iload 4, 2) := by decide +kernel
theorem dX12_part_73 : decode cX12_part 73 = .ok (.iload_n 3, 1) := by decide +kernel
theorem dX12_part_74 : decode cX12_part 74 = .ok (.if_icmp .ge 29, 3) := by decide +kernel
theorem dX12_part_77 : decode cX12_part 77 = .ok (.aload_n 0, 1) := by decide +kernel
theorem dX12_part_78 : decode cX12_part 78 = .ok (.iload_n 1, 1) := by decide +kernel
theorem dX12_part_79 : decode cX12_part 79 = .ok (.iload 4, 2) := by decide +kernel
theorem dX12_part_81 : decode cX12_part 81 = .ok (.invokevirtual 286, 3) := by decide +kernel
theorem dX12_part_84 : decode cX12_part 84 = .ok (.aload_n 0, 1) := by decide +kernel
theorem dX12_part_85 : decode cX12_part 85 = .ok (.iload_n 2, 1) := by decide +kernel
theorem dX12_part_86 : decode cX12_part 86 = .ok (.iload 4, 2) := by decide +kernel
theorem dX12_part_88 : decode cX12_part 88 = .ok (.invokevirtual 286, 3) := by decide +kernel
theorem dX12_part_91 : decode cX12_part 91 = .ok (.if_icmp .eq 6, 3) := by decide +kernel
theorem dX12_part_94 : decode cX12_part 94 = .ok (.iload 4, 2) := by decide +kernel
theorem dX12_part_96 : decode cX12_part 96 = .ok (.ireturn, 1) := by decide +kernel
theorem dX12_part_97 : decode cX12_part 97 = .ok (.iinc 4 1, 3) := by decide +kernel
theorem dX12_part_100 : decode cX12_part 100 = .ok (.goto (-29), 3) := by decide +kernel
theorem dX12_part_103 : decode cX12_part 103 = .ok (.aload_n 0, 1) := by decide +kernel
theorem dX12_part_104 : decode cX12_part 104 = .ok (.iload_n 1, 1) := by decide +kernel
theorem dX12_part_105 : decode cX12_part 105 = .ok (.invokevirtual 86, 3) := by decide +kernel
theorem dX12_part_108 : decode cX12_part 108 = .ok (.aload_n 0, 1) := by decide +kernel
theorem dX12_part_109 : decode cX12_part 109 = .ok (.iload_n 2, 1) := by decide +kernel
theorem dX12_part_110 : decode cX12_part 110 = .ok (.invokevirtual 86, 3) := by decide +kernel
theorem dX12_part_113 : decode cX12_part 113 = .ok (.if_icmp .ne 7, 3) := by decide +kernel
theorem dX12_part_116 : decode cX12_part 116 = .ok (.iconst (-1), 1) := by decide +kernel
theorem dX12_part_117 : decode cX12_part 117 = .ok (.goto 4, 3) := by decide +kernel
theorem dX12_part_120 : decode cX12_part 120 = .ok (.iload_n 3, 1) := by decide +kernel
theorem dX12_part_121 : decode cX12_part 121 = .ok (.ireturn, 1) := by decide +kernel
theorem dX12_drawer_0 : decode cX12_drawer 0 = .ok (.aload_n 0, 1) := by decide +kernel
theorem dX12_drawer_1 : decode cX12_drawer 1 = .ok (.iconst 0, 1) := by decide +kernel
theorem dX12_drawer_2 : decode cX12_drawer 2 = .ok (.putfield 3, 3) := by decide +kernel
theorem dX12_drawer_5 : decode cX12_drawer 5 = .ok (.iconst (-1), 1) := by decide +kernel
theorem dX12_drawer_6 : decode cX12_drawer 6 = .ok (.istore_n 1, 1) := by decide +kernel
theorem dX12_drawer_7 : decode cX12_drawer 7 = .ok (.bipush 41, 2) := by decide +kernel
theorem dX12_drawer_9 : decode cX12_drawer 9 = .ok (.istore_n 2, 1) := by decide +kernel
theorem dX12_drawer_10 : decode cX12_drawer 10 = .ok (.iconst 0, 1) := by decide +kernel
theorem dX12_drawer_11 : decode cX12_drawer 11 = .ok (.istore_n 3, 1) := by decide +kernel
theorem dX12_drawer_12 : decode cX12_drawer 12 = .ok (.iload_n 3, 1) := by decide +kernel
theorem dX12_drawer_13 : decode cX12_drawer 13 = .ok (.aload_n 0, 1) := by decide +kernel
theorem dX12_drawer_14 : decode cX12_drawer 14 = .ok (.invokevirtual 74, 3) := by decide +kernel
theorem dX12_drawer_17 : decode cX12_drawer 17 = .ok (.if_icmp .ge 85, 3) := by decide +kernel
theorem dX12_drawer_20 : decode cX12_drawer 20 = .ok (.iload_n 3, 1) := by decide +kernel
theorem dX12_drawer_21 : decode cX12_drawer 21 = .ok (.iconst 1, 1) := by decide +kernel
theorem dX12_drawer_22 : decode cX12_drawer 22 = .ok (.iadd, 1) := by decide +kernel
theorem dX12_drawer_23 : decode cX12_drawer 23 = .ok (.istore 4, 2) := by decide +kernel
theorem dX12_drawer_25 : decode cX12_drawer 25 = .ok (.iload 4, 2) := by decide +kernel
theorem dX12_drawer_27 : decode cX12_drawer 27 = .ok (.aload_n 0, 1) := by decide +kernel
theorem dX12_drawer_28 : decode cX12_drawer 28 = .ok (.invokevirtual 74, 3) := by decide +kernel
theorem dX12_drawer_31 : decode cX12_drawer 31 = .ok (.if_icmp .ge 65, 3) := by decide +kernel
theorem dX12_drawer_34 : decode cX12_drawer 34 = .ok (.aload_n 0, 1) := by decide +kernel
theorem dX12_drawer_35 : decode cX12_drawer 35 = .ok (.iload_n 3, 1) := by decide +kernel
theorem dX12_drawer_36 : decode cX12_drawer 36 = .ok (.invokevirtual 289, 3) := by decide +kernel
theorem dX12_drawer_39 : decode cX12_drawer 39 = .ok (.ifCond .ne 12, 3) := by decide +kernel
theorem dX12_drawer_42 : decode cX12_drawer 42 = .ok (.aload_n 0, 1) := by decide +kernel
theorem dX12_drawer_43 : decode cX12_drawer 43 = .ok (.iload 4, 2) := by decide +kernel
theorem dX12_drawer_45 : decode cX12_drawer 45 = .ok (.invokevirtual 289, 3) := by decide +kernel
theorem dX12_drawer_48 : decode cX12_drawer 48 = .ok (.ifCond .eq 7, 3) := by decide +kernel
theorem dX12_drawer_51 : decode cX12_drawer 51 = .ok (.iconst (-1), 1) := by decide +kernel
theorem dX12_drawer_52 : decode cX12_drawer 52 = .ok (.goto 11, 3) := by decide +kernel
theorem dX12_drawer_55 : decode cX12_drawer 55 = .ok (.aload_n 0, 1) := by decide +kernel
theorem dX12_drawer_56 : decode cX12_drawer 56 = .ok (.iload_n 3, 1) := by decide +kernel
theorem dX12_drawer_57 : decode cX12_drawer 57 = .ok (.iload 4, 2) := by decide +kernel
theorem dX12_drawer_59 : decode cX12_drawer 59 = .ok (.iconst 0, 1) := by decide +kernel
theorem dX12_drawer_60 : decode cX12_drawer 60 = .ok (.invokevirtual 394, 3) := by decide +kernel
theorem dX12_drawer_63 : decode cX12_drawer 63 = .ok (.istore 5, 2) := by decide +kernel
theorem dX12_drawer_65 : decode cX12_drawer 65 = .ok (.iload 5, 2) := by decide +kernel
theorem dX12_drawer_67 : decode cX12_drawer 67 = .ok (.ifCond .lt 23, 3) := by decide +kernel
theorem dX12_drawer_70 : decode cX12_drawer 70 = .ok (.iload 5, 2) := by decide +kernel
theorem dX12_drawer_72 : decode cX12_drawer 72 = .ok (.iload_n 2, 1) := by decide +kernel
theorem dX12_drawer_73 : decode cX12_drawer 73 = .ok (.if_icmp .lt 6, 3) := by decide +kernel
theorem dX12_drawer_76 : decode cX12_drawer 76 = .ok (.goto 14, 3) := by decide +kernel
theorem dX12_drawer_79 : decode cX12_drawer 79 = .ok (.bipush 10, 2) := by decide +kernel
theorem dX12_drawer_81 : decode cX12_drawer 81 = .ok (.iload_n 3, 1) := by decide +kernel
theorem dX12_drawer_82 : decode cX12_drawer 82 = .ok (.imul, 1) := by decide +kernel
theorem dX12_drawer_83 : decode cX12_drawer 83 = .ok (.iload 4, 2) := by decide +kernel
theorem dX12_drawer_85 : decode cX12_drawer 85 = .ok (.iadd, 1) := by decide +kernel
theorem dX12_drawer_86 : decode cX12_drawer 86 = .ok (.istore_n 1, 1) := by decide +kernel
theorem dX12_drawer_87 : decode cX12_drawer 87 = .ok (.iload 5, 2) := by decide +kernel
theorem dX12_drawer_89 : decode cX12_drawer 89 = .ok (.istore_n 2, 1) := by decide +kernel
theorem dX12_drawer_90 : decode cX12_drawer 90 = .ok (.iinc 4 1, 3) := by decide +kernel
theorem dX12_drawer_93 : decode cX12_drawer 93 = .ok (.goto (-68), 3) := by decide +kernel
theorem dX12_drawer_96 : decode cX12_drawer 96 = .ok (.iinc 3 1, 3) := by decide +kernel
theorem dX12_drawer_99 : decode cX12_drawer 99 = .ok (.goto (-87), 3) := by decide +kernel
theorem dX12_drawer_102 : decode cX12_drawer 102 = .ok (.iload_n 1, 1) := by decide +kernel
theorem dX12_drawer_103 : decode cX12_drawer 103 = .ok (.ireturn, 1) := by decide +kernel
theorem dX12_alikeFrom_0 : decode cX12_alikeFrom 0 = .ok (.iconst 0, 1) := by decide +kernel
theorem dX12_alikeFrom_1 : decode cX12_alikeFrom 1 = .ok (.istore 5, 2) := by decide +kernel
theorem dX12_alikeFrom_3 : decode cX12_alikeFrom 3 = .ok (.iload_n 2, 1) := by decide +kernel
theorem dX12_alikeFrom_4 : decode cX12_alikeFrom 4 = .ok (.iload 5, 2) := by decide +kernel
theorem dX12_alikeFrom_6 : decode cX12_alikeFrom 6 = .ok (.iadd, 1) := by decide +kernel
theorem dX12_alikeFrom_7 : decode cX12_alikeFrom 7 = .ok (.aload_n 0, 1) := by decide +kernel
theorem dX12_alikeFrom_8 : decode cX12_alikeFrom 8 = .ok (.iload_n 1, 1) := by decide +kernel
theorem dX12_alikeFrom_9 : decode cX12_alikeFrom 9 = .ok (.invokevirtual 86, 3) := by decide +kernel
theorem dX12_alikeFrom_12 : decode cX12_alikeFrom 12 = .ok (.if_icmp .ge 44, 3) := by decide +kernel
theorem dX12_alikeFrom_15 : decode cX12_alikeFrom 15 = .ok (.iload 4, 2) := by decide +kernel
theorem dX12_alikeFrom_17 : decode cX12_alikeFrom 17 = .ok (.iload 5, 2) := by decide +kernel
theorem dX12_alikeFrom_19 : decode cX12_alikeFrom 19 = .ok (.iadd, 1) := by decide +kernel
theorem dX12_alikeFrom_20 : decode cX12_alikeFrom 20 = .ok (.aload_n 0, 1) := by decide +kernel
theorem dX12_alikeFrom_21 : decode cX12_alikeFrom 21 = .ok (.iload_n 3, 1) := by decide +kernel
theorem dX12_alikeFrom_22 : decode cX12_alikeFrom 22 = .ok (.invokevirtual 86, 3) := by decide +kernel
theorem dX12_alikeFrom_25 : decode cX12_alikeFrom 25 = .ok (.if_icmp .ge 31, 3) := by decide +kernel
theorem dX12_alikeFrom_28 : decode cX12_alikeFrom 28 = .ok (.aload_n 0, 1) := by decide +kernel
theorem dX12_alikeFrom_29 : decode cX12_alikeFrom 29 = .ok (.iload_n 1, 1) := by decide +kernel
theorem dX12_alikeFrom_30 : decode cX12_alikeFrom 30 = .ok (.iload_n 2, 1) := by decide +kernel
theorem dX12_alikeFrom_31 : decode cX12_alikeFrom 31 = .ok (.iload 5, 2) := by decide +kernel
theorem dX12_alikeFrom_33 : decode cX12_alikeFrom 33 = .ok (.iadd, 1) := by decide +kernel
theorem dX12_alikeFrom_34 : decode cX12_alikeFrom 34 = .ok (.invokevirtual 286, 3) := by decide +kernel
theorem dX12_alikeFrom_37 : decode cX12_alikeFrom 37 = .ok (.aload_n 0, 1) := by decide +kernel
theorem dX12_alikeFrom_38 : decode cX12_alikeFrom 38 = .ok (.iload_n 3, 1) := by decide +kernel
theorem dX12_alikeFrom_39 : decode cX12_alikeFrom 39 = .ok (.iload 4, 2) := by decide +kernel
theorem dX12_alikeFrom_41 : decode cX12_alikeFrom 41 = .ok (.iload 5, 2) := by decide +kernel
theorem dX12_alikeFrom_43 : decode cX12_alikeFrom 43 = .ok (.iadd, 1) := by decide +kernel
theorem dX12_alikeFrom_44 : decode cX12_alikeFrom 44 = .ok (.invokevirtual 286, 3) := by decide +kernel
theorem dX12_alikeFrom_47 : decode cX12_alikeFrom 47 = .ok (.if_icmp .ne 9, 3) := by decide +kernel
theorem dX12_alikeFrom_50 : decode cX12_alikeFrom 50 = .ok (.iinc 5 1, 3) := by decide +kernel
theorem dX12_alikeFrom_53 : decode cX12_alikeFrom 53 = .ok (.goto (-50), 3) := by decide +kernel
theorem dX12_alikeFrom_56 : decode cX12_alikeFrom 56 = .ok (.iload 5, 2) := by decide +kernel
theorem dX12_alikeFrom_58 : decode cX12_alikeFrom 58 = .ok (.ireturn, 1) := by decide +kernel
theorem dX12_common_0 : decode cX12_common 0 = .ok (.aload_n 0, 1) := by decide +kernel
theorem dX12_common_1 : decode cX12_common 1 = .ok (.iconst 0, 1) := by decide +kernel
theorem dX12_common_2 : decode cX12_common 2 = .ok (.putfield 3, 3) := by decide +kernel
theorem dX12_common_5 : decode cX12_common 5 = .ok (.aload_n 0, 1) := by decide +kernel
theorem dX12_common_6 : decode cX12_common 6 = .ok (.aload_n 0, 1) := by decide +kernel
theorem dX12_common_7 : decode cX12_common 7 = .ok (.iload_n 1, 1) := by decide +kernel
theorem dX12_common_8 : decode cX12_common 8 = .ok (.invokevirtual 82, 3) := by decide +kernel
theorem dX12_common_11 : decode cX12_common 11 = .ok (.ifCond .ne 11, 3) := by decide +kernel
theorem dX12_common_14 : decode cX12_common 14 = .ok (.aload_n 0, 1) := by decide +kernel
theorem dX12_common_15 : decode cX12_common 15 = .ok (.iload_n 2, 1) := by decide +kernel
theorem dX12_common_16 : decode cX12_common 16 = .ok (.invokevirtual 82, 3) := by decide +kernel
theorem dX12_common_19 : decode cX12_common 19 = .ok (.ifCond .eq 7, 3) := by decide +kernel
theorem dX12_common_22 : decode cX12_common 22 = .ok (.iconst 1, 1) := by decide +kernel
theorem dX12_common_23 : decode cX12_common 23 = .ok (.goto 4, 3) := by decide +kernel
theorem dX12_common_26 : decode cX12_common 26 = .ok (.iconst 0, 1) := by decide +kernel
theorem dX12_common_27 : decode cX12_common 27 = .ok (.iconst 1, 1) := by decide +kernel
theorem dX12_common_28 : decode cX12_common 28 = .ok (.invokevirtual 254, 3) := by decide +kernel
theorem dX12_common_31 : decode cX12_common 31 = .ok (.ifCond .ne 21, 3) := by decide +kernel
theorem dX12_common_34 : decode cX12_common 34 = .ok (.aload_n 0, 1) := by decide +kernel
theorem dX12_common_35 : decode cX12_common 35 = .ok (.iload_n 1, 1) := by decide +kernel
theorem dX12_common_36 : decode cX12_common 36 = .ok (.iload_n 2, 1) := by decide +kernel
theorem dX12_common_37 : decode cX12_common 37 = .ok (.if_icmp .ne 7, 3) := by decide +kernel
theorem dX12_common_40 : decode cX12_common 40 = .ok (.iconst 1, 1) := by decide +kernel
theorem dX12_common_41 : decode cX12_common 41 = .ok (.goto 4, 3) := by decide +kernel
theorem dX12_common_44 : decode cX12_common 44 = .ok (.iconst 0, 1) := by decide +kernel
theorem dX12_common_45 : decode cX12_common 45 = .ok (.iconst 2, 1) := by decide +kernel
theorem dX12_common_46 : decode cX12_common 46 = .ok (.invokevirtual 254, 3) := by decide +kernel
theorem dX12_common_49 : decode cX12_common 49 = .ok (.ifCond .eq 5, 3) := by decide +kernel
theorem dX12_common_52 : decode cX12_common 52 = .ok (.iconst 0, 1) := by decide +kernel
theorem dX12_common_53 : decode cX12_common 53 = .ok (.ireturn, 1) := by decide +kernel
theorem dX12_common_54 : decode cX12_common 54 = .ok (.iconst 0, 1) := by decide +kernel
theorem dX12_common_55 : decode cX12_common 55 = .ok (.istore_n 3, 1) := by decide +kernel
theorem dX12_common_56 : decode cX12_common 56 = .ok (.iconst 0, 1) := by decide +kernel
theorem dX12_common_57 : decode cX12_common 57 = .ok (.istore 4, 2) := by decide +kernel
theorem dX12_common_59 : decode cX12_common 59 = .ok (.iload 4, 2) := by decide +kernel
theorem dX12_common_61 : decode cX12_common 61 = .ok (.aload_n 0, 1) := by decide +kernel
theorem dX12_common_62 : decode cX12_common 62 = .ok (.iload_n 1, 1) := by decide +kernel
theorem dX12_common_63 : decode cX12_common 63 = .ok (.invokevirtual 86, 3) := by decide +kernel
theorem dX12_common_66 : decode cX12_common 66 = .ok (.if_icmp .ge 43, 3) := by decide +kernel
theorem dX12_common_69 : decode cX12_common 69 = .ok (.iconst 0, 1) := by decide +kernel
theorem dX12_common_70 : decode cX12_common 70 = .ok (.istore 5, 2) := by decide +kernel
theorem dX12_common_72 : decode cX12_common 72 = .ok (.iload 5, 2) := by decide +kernel
theorem dX12_common_74 : decode cX12_common 74 = .ok (.aload_n 0, 1) := by decide +kernel
theorem dX12_common_75 : decode cX12_common 75 = .ok (.iload_n 2, 1) := by decide +kernel
theorem dX12_common_76 : decode cX12_common 76 = .ok (.invokevirtual 86, 3) := by decide +kernel
theorem dX12_common_79 : decode cX12_common 79 = .ok (.if_icmp .ge 24, 3) := by decide +kernel
theorem dX12_common_82 : decode cX12_common 82 = .ok (.iload_n 3, 1) := by decide +kernel
theorem dX12_common_83 : decode cX12_common 83 = .ok (.aload_n 0, 1) := by decide +kernel
theorem dX12_common_84 : decode cX12_common 84 = .ok (.iload_n 1, 1) := by decide +kernel
theorem dX12_common_85 : decode cX12_common 85 = .ok (.iload 4, 2) := by decide +kernel
theorem dX12_common_87 : decode cX12_common 87 = .ok (.iload_n 2, 1) := by decide +kernel
theorem dX12_common_88 : decode cX12_common 88 = .ok (.iload 5, 2) := by decide +kernel
theorem dX12_common_90 : decode cX12_common 90 = .ok (.invokevirtual 397, 3) := by decide +kernel
theorem dX12_common_93 : decode cX12_common 93 = .ok (.invokestatic 401, 3) := by decide +kernel
theorem dX12_common_96 : decode cX12_common 96 = .ok (.istore_n 3, 1) := by decide +kernel
theorem dX12_common_97 : decode cX12_common 97 = .ok (.iinc 5 1, 3) := by decide +kernel
theorem dX12_common_100 : decode cX12_common 100 = .ok (.goto (-28), 3) := by decide +kernel
theorem dX12_common_103 : decode cX12_common 103 = .ok (.iinc 4 1, 3) := by decide +kernel
theorem dX12_common_106 : decode cX12_common 106 = .ok (.goto (-47), 3) := by decide +kernel
theorem dX12_common_109 : decode cX12_common 109 = .ok (.iload_n 3, 1) := by decide +kernel
theorem dX12_common_110 : decode cX12_common 110 = .ok (.ireturn, 1) := by decide +kernel
theorem dX12_echo_0 : decode cX12_echo 0 = .ok (.aload_n 0, 1) := by decide +kernel
theorem dX12_echo_1 : decode cX12_echo 1 = .ok (.iconst 0, 1) := by decide +kernel
theorem dX12_echo_2 : decode cX12_echo 2 = .ok (.putfield 3, 3) := by decide +kernel
theorem dX12_echo_5 : decode cX12_echo 5 = .ok (.aload_n 0, 1) := by decide +kernel
theorem dX12_echo_6 : decode cX12_echo 6 = .ok (.aload_n 0, 1) := by decide +kernel
theorem dX12_echo_7 : decode cX12_echo 7 = .ok (.iload_n 1, 1) := by decide +kernel
theorem dX12_echo_8 : decode cX12_echo 8 = .ok (.invokevirtual 82, 3) := by decide +kernel
theorem dX12_echo_11 : decode cX12_echo 11 = .ok (.iconst 1, 1) := by decide +kernel
theorem dX12_echo_12 : decode cX12_echo 12 = .ok (.invokevirtual 254, 3) := by decide +kernel
theorem dX12_echo_15 : decode cX12_echo 15 = .ok (.ifCond .eq 5, 3) := by decide +kernel
theorem dX12_echo_18 : decode cX12_echo 18 = .ok (.iconst 0, 1) := by decide +kernel
theorem dX12_echo_19 : decode cX12_echo 19 = .ok (.ireturn, 1) := by decide +kernel
theorem dX12_echo_20 : decode cX12_echo 20 = .ok (.iconst 0, 1) := by decide +kernel
theorem dX12_echo_21 : decode cX12_echo 21 = .ok (.istore_n 2, 1) := by decide +kernel
theorem dX12_echo_22 : decode cX12_echo 22 = .ok (.iconst 0, 1) := by decide +kernel
theorem dX12_echo_23 : decode cX12_echo 23 = .ok (.istore_n 3, 1) := by decide +kernel
theorem dX12_echo_24 : decode cX12_echo 24 = .ok (.iload_n 3, 1) := by decide +kernel
theorem dX12_echo_25 : decode cX12_echo 25 = .ok (.aload_n 0, 1) := by decide +kernel
theorem dX12_echo_26 : decode cX12_echo 26 = .ok (.iload_n 1, 1) := by decide +kernel
theorem dX12_echo_27 : decode cX12_echo 27 = .ok (.invokevirtual 86, 3) := by decide +kernel
theorem dX12_echo_30 : decode cX12_echo 30 = .ok (.if_icmp .ge 44, 3) := by decide +kernel
theorem dX12_echo_33 : decode cX12_echo 33 = .ok (.iload_n 3, 1) := by decide +kernel
theorem dX12_echo_34 : decode cX12_echo 34 = .ok (.iconst 1, 1) := by decide +kernel
theorem dX12_echo_35 : decode cX12_echo 35 = .ok (.iadd, 1) := by decide +kernel
theorem dX12_echo_36 : decode cX12_echo 36 = .ok (.istore 4, 2) := by decide +kernel
theorem dX12_echo_38 : decode cX12_echo 38 = .ok (.iload 4, 2) := by decide +kernel
theorem dX12_echo_40 : decode cX12_echo 40 = .ok (.aload_n 0, 1) := by decide +kernel
theorem dX12_echo_41 : decode cX12_echo 41 = .ok (.iload_n 1, 1) := by decide +kernel
theorem dX12_echo_42 : decode cX12_echo 42 = .ok (.invokevirtual 86, 3) := by decide +kernel
theorem dX12_echo_45 : decode cX12_echo 45 = .ok (.if_icmp .ge 23, 3) := by decide +kernel
theorem dX12_echo_48 : decode cX12_echo 48 = .ok (.iload_n 2, 1) := by decide +kernel
theorem dX12_echo_49 : decode cX12_echo 49 = .ok (.aload_n 0, 1) := by decide +kernel
theorem dX12_echo_50 : decode cX12_echo 50 = .ok (.iload_n 1, 1) := by decide +kernel
theorem dX12_echo_51 : decode cX12_echo 51 = .ok (.iload_n 3, 1) := by decide +kernel
theorem dX12_echo_52 : decode cX12_echo 52 = .ok (.iload_n 1, 1) := by decide +kernel
theorem dX12_echo_53 : decode cX12_echo 53 = .ok (.iload 4, 2) := by decide +kernel
theorem dX12_echo_55 : decode cX12_echo 55 = .ok (.invokevirtual 397, 3) := by decide +kernel
theorem dX12_echo_58 : decode cX12_echo 58 = .ok (.invokestatic 401, 3) := by decide +kernel
theorem dX12_echo_61 : decode cX12_echo 61 = .ok (.istore_n 2, 1) := by decide +kernel
theorem dX12_echo_62 : decode cX12_echo 62 = .ok (.iinc 4 1, 3) := by decide +kernel
theorem dX12_echo_65 : decode cX12_echo 65 = .ok (.goto (-27), 3) := by decide +kernel
theorem dX12_echo_68 : decode cX12_echo 68 = .ok (.iinc 3 1, 3) := by decide +kernel
theorem dX12_echo_71 : decode cX12_echo 71 = .ok (.goto (-47), 3) := by decide +kernel
theorem dX12_echo_74 : decode cX12_echo 74 = .ok (.iload_n 2, 1) := by decide +kernel
theorem dX12_echo_75 : decode cX12_echo 75 = .ok (.ireturn, 1) := by decide +kernel
theorem dX12_has_0 : decode cX12_has 0 = .ok (.aload_n 0, 1) := by decide +kernel
theorem dX12_has_1 : decode cX12_has 1 = .ok (.iconst 0, 1) := by decide +kernel
theorem dX12_has_2 : decode cX12_has 2 = .ok (.putfield 3, 3) := by decide +kernel
theorem dX12_has_5 : decode cX12_has 5 = .ok (.aload_n 0, 1) := by decide +kernel
theorem dX12_has_6 : decode cX12_has 6 = .ok (.aload_n 0, 1) := by decide +kernel
theorem dX12_has_7 : decode cX12_has 7 = .ok (.iload_n 1, 1) := by decide +kernel
theorem dX12_has_8 : decode cX12_has 8 = .ok (.invokevirtual 82, 3) := by decide +kernel
theorem dX12_has_11 : decode cX12_has 11 = .ok (.iconst 1, 1) := by decide +kernel
theorem dX12_has_12 : decode cX12_has 12 = .ok (.invokevirtual 254, 3) := by decide +kernel
theorem dX12_has_15 : decode cX12_has 15 = .ok (.ifCond .eq 5, 3) := by decide +kernel
theorem dX12_has_18 : decode cX12_has 18 = .ok (.iconst 0, 1) := by decide +kernel
theorem dX12_has_19 : decode cX12_has 19 = .ok (.ireturn, 1) := by decide +kernel
theorem dX12_has_20 : decode cX12_has 20 = .ok (.iconst 0, 1) := by decide +kernel
theorem dX12_has_21 : decode cX12_has 21 = .ok (.istore_n 2, 1) := by decide +kernel
theorem dX12_has_22 : decode cX12_has 22 = .ok (.iconst 0, 1) := by decide +kernel
theorem dX12_has_23 : decode cX12_has 23 = .ok (.istore_n 3, 1) := by decide +kernel
theorem dX12_has_24 : decode cX12_has 24 = .ok (.iload_n 3, 1) := by decide +kernel
theorem dX12_has_25 : decode cX12_has 25 = .ok (.aload_n 0, 1) := by decide +kernel
theorem dX12_has_26 : decode cX12_has 26 = .ok (.iload_n 1, 1) := by decide +kernel
theorem dX12_has_27 : decode cX12_has 27 = .ok (.invokevirtual 86, 3) := by decide +kernel
theorem dX12_has_30 : decode cX12_has 30 = .ok (.if_icmp .ge 20, 3) := by decide +kernel
theorem dX12_has_33 : decode cX12_has 33 = .ok (.iload_n 2, 1) := by decide +kernel
theorem dX12_has_34 : decode cX12_has 34 = .ok (.iconst 1, 1) := by decide +kernel
theorem dX12_has_35 : decode cX12_has 35 = .ok (.aload_n 0, 1) := by decide +kernel
theorem dX12_has_36 : decode cX12_has 36 = .ok (.iload_n 1, 1) := by decide +kernel
theorem dX12_has_37 : decode cX12_has 37 = .ok (.iload_n 3, 1) := by decide +kernel
theorem dX12_has_38 : decode cX12_has 38 = .ok (.invokevirtual 286, 3) := by decide +kernel
theorem dX12_has_41 : decode cX12_has 41 = .ok (.ishl, 1) := by decide +kernel
theorem dX12_has_42 : decode cX12_has 42 = .ok (.ior, 1) := by decide +kernel
theorem dX12_has_43 : decode cX12_has 43 = .ok (.istore_n 2, 1) := by decide +kernel
theorem dX12_has_44 : decode cX12_has 44 = .ok (.iinc 3 1, 3) := by decide +kernel
theorem dX12_has_47 : decode cX12_has 47 = .ok (.goto (-23), 3) := by decide +kernel
theorem dX12_has_50 : decode cX12_has 50 = .ok (.iload_n 2, 1) := by decide +kernel
theorem dX12_has_51 : decode cX12_has 51 = .ok (.ireturn, 1) := by decide +kernel
theorem dX12_isBound_0 : decode cX12_isBound 0 = .ok (.iconst 0, 1) := by decide +kernel
theorem dX12_isBound_1 : decode cX12_isBound 1 = .ok (.istore_n 2, 1) := by decide +kernel
theorem dX12_isBound_2 : decode cX12_isBound 2 = .ok (.iconst 0, 1) := by decide +kernel
theorem dX12_isBound_3 : decode cX12_isBound 3 = .ok (.istore_n 3, 1) := by decide +kernel
theorem dX12_isBound_4 : decode cX12_isBound 4 = .ok (.iconst 0, 1) := by decide +kernel
theorem dX12_isBound_5 : decode cX12_isBound 5 = .ok (.istore 4, 2) := by decide +kernel
theorem dX12_isBound_7 : decode cX12_isBound 7 = .ok (.iload 4, 2) := by decide +kernel
theorem dX12_isBound_9 : decode cX12_isBound 9 = .ok (.aload_n 0, 1) := by decide +kernel
theorem dX12_isBound_10 : decode cX12_isBound 10 = .ok (.getfield 257, 3) := by decide +kernel
theorem dX12_isBound_13 : decode cX12_isBound 13 = .ok (.if_icmp .ge 65, 3) := by decide +kernel
theorem dX12_isBound_16 : decode cX12_isBound 16 = .ok (.iload_n 3, 1) := by decide +kernel
theorem dX12_isBound_17 : decode cX12_isBound 17 = .ok (.ifCond .ne 61, 3) := by decide +kernel
theorem dX12_isBound_20 : decode cX12_isBound 20 = .ok (.iload_n 2, 1) := by decide +kernel
theorem dX12_isBound_21 : decode cX12_isBound 21 = .ok (.ifCond .eq 23, 3) := by decide +kernel
theorem dX12_isBound_24 : decode cX12_isBound 24 = .ok (.aload_n 0, 1) := by decide +kernel
theorem dX12_isBound_25 : decode cX12_isBound 25 = .ok (.getfield 42, 3) := by decide +kernel
theorem dX12_isBound_28 : decode cX12_isBound 28 = .ok (.iload 4, 2) := by decide +kernel
theorem dX12_isBound_30 : decode cX12_isBound 30 = .ok (.iaload, 1) := by decide +kernel
theorem dX12_isBound_31 : decode cX12_isBound 31 = .ok (.aload_n 0, 1) := by decide +kernel
theorem dX12_isBound_32 : decode cX12_isBound 32 = .ok (.iload_n 1, 1) := by decide +kernel
theorem dX12_isBound_33 : decode cX12_isBound 33 = .ok (.iconst 1, 1) := by decide +kernel
theorem dX12_isBound_34 : decode cX12_isBound 34 = .ok (.invokevirtual 333, 3) := by decide +kernel
theorem dX12_isBound_37 : decode cX12_isBound 37 = .ok (.if_icmp .ne 7, 3) := by decide +kernel
theorem dX12_isBound_40 : decode cX12_isBound 40 = .ok (.iconst 1, 1) := by decide +kernel
theorem dX12_isBound_41 : decode cX12_isBound 41 = .ok (.goto 4, 3) := by decide +kernel
theorem dX12_isBound_44 : decode cX12_isBound 44 = .ok (.iconst 0, 1) := by decide +kernel
theorem dX12_isBound_45 : decode cX12_isBound 45 = .ok (.istore_n 3, 1) := by decide +kernel
theorem dX12_isBound_46 : decode cX12_isBound 46 = .ok (.iload_n 2, 1) := by decide +kernel
theorem dX12_isBound_47 : decode cX12_isBound 47 = .ok (.ifCond .ne 19, 3) := by decide +kernel
theorem dX12_isBound_50 : decode cX12_isBound 50 = .ok (.aload_n 0, 1) := by decide +kernel
theorem dX12_isBound_51 : decode cX12_isBound 51 = .ok (.getfield 42, 3) := by decide +kernel
theorem dX12_isBound_54 : decode cX12_isBound 54 = .ok (.iload 4, 2) := by decide +kernel
theorem dX12_isBound_56 : decode cX12_isBound 56 = .ok (.iaload, 1) := by decide +kernel
theorem dX12_isBound_57 : decode cX12_isBound 57 = .ok (.aload_n 0, 1) := by decide +kernel
theorem dX12_isBound_58 : decode cX12_isBound 58 = .ok (.iload_n 1, 1) := by decide +kernel
theorem dX12_isBound_59 : decode cX12_isBound 59 = .ok (.iconst 0, 1) := by decide +kernel
theorem dX12_isBound_60 : decode cX12_isBound 60 = .ok (.invokevirtual 333, 3) := by decide +kernel
theorem dX12_isBound_63 : decode cX12_isBound 63 = .ok (.if_icmp .ne 7, 3) := by decide +kernel
theorem dX12_isBound_66 : decode cX12_isBound 66 = .ok (.iconst 1, 1) := by decide +kernel
theorem dX12_isBound_67 : decode cX12_isBound 67 = .ok (.goto 4, 3) := by decide +kernel
theorem dX12_isBound_70 : decode cX12_isBound 70 = .ok (.iconst 0, 1) := by decide +kernel
theorem dX12_isBound_71 : decode cX12_isBound 71 = .ok (.istore_n 2, 1) := by decide +kernel
theorem dX12_isBound_72 : decode cX12_isBound 72 = .ok (.iinc 4 1, 3) := by decide +kernel
theorem dX12_isBound_75 : decode cX12_isBound 75 = .ok (.goto (-68), 3) := by decide +kernel
theorem dX12_isBound_78 : decode cX12_isBound 78 = .ok (.iload_n 3, 1) := by decide +kernel
theorem dX12_isBound_79 : decode cX12_isBound 79 = .ok (.ireturn, 1) := by decide +kernel
theorem dX12_boundNow_0 : decode cX12_boundNow 0 = .ok (.iconst 0, 1) := by decide +kernel
theorem dX12_boundNow_1 : decode cX12_boundNow 1 = .ok (.istore_n 1, 1) := by decide +kernel
theorem dX12_boundNow_2 : decode cX12_boundNow 2 = .ok (.iconst 0, 1) := by decide +kernel
theorem dX12_boundNow_3 : decode cX12_boundNow 3 = .ok (.istore_n 2, 1) := by decide +kernel
theorem dX12_boundNow_4 : decode cX12_boundNow 4 = .ok (.iload_n 2, 1) := by decide +kernel
theorem dX12_boundNow_5 : decode cX12_boundNow 5 = .ok (.aload_n 0, 1) := by decide +kernel
theorem dX12_boundNow_6 : decode cX12_boundNow 6 = .ok (.invokevirtual 90, 3) := by decide +kernel
theorem dX12_boundNow_9 : decode cX12_boundNow 9 = .ok (.if_icmp .ge 27, 3) := by decide +kernel
theorem dX12_boundNow_12 : decode cX12_boundNow 12 = .ok (.iload_n 1, 1) := by decide +kernel
theorem dX12_boundNow_13 : decode cX12_boundNow 13 = .ok (.aload_n 0, 1) := by decide +kernel
theorem dX12_boundNow_14 : decode cX12_boundNow 14 = .ok (.iload_n 2, 1) := by decide +kernel
theorem dX12_boundNow_15 : decode cX12_boundNow 15 = .ok (.invokevirtual 404, 3) := by decide +kernel
theorem dX12_boundNow_18 : decode cX12_boundNow 18 = .ok (.ifCond .eq 9, 3) := by decide +kernel
theorem dX12_boundNow_21 : decode cX12_boundNow 21 = .ok (.iconst 1, 1) := by decide +kernel
theorem dX12_boundNow_22 : decode cX12_boundNow 22 = .ok (.iload_n 2, 1) := by decide +kernel
theorem dX12_boundNow_23 : decode cX12_boundNow 23 = .ok (.ishl, 1) := by decide +kernel
theorem dX12_boundNow_24 : decode cX12_boundNow 24 = .ok (.goto 4, 3) := by decide +kernel
theorem dX12_boundNow_27 : decode cX12_boundNow 27 = .ok (.iconst 0, 1) := by decide +kernel
theorem dX12_boundNow_28 : decode cX12_boundNow 28 = .ok (.ior, 1) := by decide +kernel
theorem dX12_boundNow_29 : decode cX12_boundNow 29 = .ok (.istore_n 1, 1) := by decide +kernel
theorem dX12_boundNow_30 : decode cX12_boundNow 30 = .ok (.iinc 2 1, 3) := by decide +kernel
theorem dX12_boundNow_33 : decode cX12_boundNow 33 = .ok (.goto (-29), 3) := by decide +kernel
theorem dX12_boundNow_36 : decode cX12_boundNow 36 = .ok (.iload_n 1, 1) := by decide +kernel
theorem dX12_boundNow_37 : decode cX12_boundNow 37 = .ok (.ireturn, 1) := by decide +kernel
theorem dX12_bound_0 : decode cX12_bound 0 = .ok (.aload_n 0, 1) := by decide +kernel
theorem dX12_bound_1 : decode cX12_bound 1 = .ok (.iconst 0, 1) := by decide +kernel
theorem dX12_bound_2 : decode cX12_bound 2 = .ok (.putfield 3, 3) := by decide +kernel
theorem dX12_bound_5 : decode cX12_bound 5 = .ok (.aload_n 0, 1) := by decide +kernel
theorem dX12_bound_6 : decode cX12_bound 6 = .ok (.aload_n 0, 1) := by decide +kernel
theorem dX12_bound_7 : decode cX12_bound 7 = .ok (.iload_n 1, 1) := by decide +kernel
theorem dX12_bound_8 : decode cX12_bound 8 = .ok (.invokevirtual 82, 3) := by decide +kernel
theorem dX12_bound_11 : decode cX12_bound 11 = .ok (.iconst 1, 1) := by decide +kernel
theorem dX12_bound_12 : decode cX12_bound 12 = .ok (.invokevirtual 254, 3) := by decide +kernel
theorem dX12_bound_15 : decode cX12_bound 15 = .ok (.ifCond .ne 15, 3) := by decide +kernel
theorem dX12_bound_18 : decode cX12_bound 18 = .ok (.aload_n 0, 1) := by decide +kernel
theorem dX12_bound_19 : decode cX12_bound 19 = .ok (.iload_n 2, 1) := by decide +kernel
theorem dX12_bound_20 : decode cX12_bound 20 = .ok (.invokestatic 356, 3) := by decide +kernel
theorem dX12_bound_23 : decode cX12_bound 23 = .ok (.iconst 2, 1) := by decide +kernel
theorem dX12_bound_24 : decode cX12_bound 24 = .ok (.invokevirtual 254, 3) := by decide +kernel
theorem dX12_bound_27 : decode cX12_bound 27 = .ok (.ifCond .eq 5, 3) := by decide +kernel
theorem dX12_bound_30 : decode cX12_bound 30 = .ok (.iconst 0, 1) := by decide +kernel
theorem dX12_bound_31 : decode cX12_bound 31 = .ok (.ireturn, 1) := by decide +kernel
theorem dX12_bound_32 : decode cX12_bound 32 = .ok (.aload_n 0, 1) := by decide +kernel
theorem dX12_bound_33 : decode cX12_bound 33 = .ok (.iload_n 1, 1) := by decide +kernel
theorem dX12_bound_34 : decode cX12_bound 34 = .ok (.iload_n 2, 1) := by decide +kernel
theorem dX12_bound_35 : decode cX12_bound 35 = .ok (.invokevirtual 359, 3) := by decide +kernel
theorem dX12_bound_38 : decode cX12_bound 38 = .ok (.aload_n 0, 1) := by decide +kernel
theorem dX12_bound_39 : decode cX12_bound 39 = .ok (.invokevirtual 407, 3) := by decide +kernel
theorem dX12_bound_42 : decode cX12_bound 42 = .ok (.ireturn, 1) := by decide +kernel
theorem dX12_whenOf_0 : decode cX12_whenOf 0 = .ok (.aload_n 0, 1) := by decide +kernel
theorem dX12_whenOf_1 : decode cX12_whenOf 1 = .ok (.iload_n 1, 1) := by decide +kernel
theorem dX12_whenOf_2 : decode cX12_whenOf 2 = .ok (.invokevirtual 311, 3) := by decide +kernel
theorem dX12_whenOf_5 : decode cX12_whenOf 5 = .ok (.iconst 0, 1) := by decide +kernel
theorem dX12_whenOf_6 : decode cX12_whenOf 6 = .ok (.istore_n 3, 1) := by decide +kernel
theorem dX12_whenOf_7 : decode cX12_whenOf 7 = .ok (.iload_n 3, 1) := by decide +kernel
theorem dX12_whenOf_8 : decode cX12_whenOf 8 = .ok (.bipush 40, 2) := by decide +kernel
theorem dX12_whenOf_10 : decode cX12_whenOf 10 = .ok (.if_icmp .gt 23, 3) := by decide +kernel
theorem dX12_whenOf_13 : decode cX12_whenOf 13 = .ok (.aload_n 0, 1) := by decide +kernel
theorem dX12_whenOf_14 : decode cX12_whenOf 14 = .ok (.iload_n 2, 1) := by decide +kernel
theorem dX12_whenOf_15 : decode cX12_whenOf 15 = .ok (.invokevirtual 404, 3) := by decide +kernel
theorem dX12_whenOf_18 : decode cX12_whenOf 18 = .ok (.ifCond .eq 5, 3) := by decide +kernel
theorem dX12_whenOf_21 : decode cX12_whenOf 21 = .ok (.iload_n 3, 1) := by decide +kernel
theorem dX12_whenOf_22 : decode cX12_whenOf 22 = .ok (.ireturn, 1) := by decide +kernel
theorem dX12_whenOf_23 : decode cX12_whenOf 23 = .ok (.aload_n 0, 1) := by decide +kernel
theorem dX12_whenOf_24 : decode cX12_whenOf 24 = .ok (.invokevirtual 308, 3) := by decide +kernel
theorem dX12_whenOf_27 : decode cX12_whenOf 27 = .ok (.iinc 3 1, 3) := by decide +kernel
theorem dX12_whenOf_30 : decode cX12_whenOf 30 = .ok (.goto (-23), 3) := by decide +kernel
theorem dX12_whenOf_33 : decode cX12_whenOf 33 = .ok (.iconst (-1), 1) := by decide +kernel
theorem dX12_whenOf_34 : decode cX12_whenOf 34 = .ok (.ireturn, 1) := by decide +kernel
theorem dX12_when_0 : decode cX12_when 0 = .ok (.aload_n 0, 1) := by decide +kernel
theorem dX12_when_1 : decode cX12_when 1 = .ok (.iconst 0, 1) := by decide +kernel
theorem dX12_when_2 : decode cX12_when 2 = .ok (.putfield 3, 3) := by decide +kernel
theorem dX12_when_5 : decode cX12_when 5 = .ok (.aload_n 0, 1) := by decide +kernel
theorem dX12_when_6 : decode cX12_when 6 = .ok (.aload_n 0, 1) := by decide +kernel
theorem dX12_when_7 : decode cX12_when 7 = .ok (.iload_n 1, 1) := by decide +kernel
theorem dX12_when_8 : decode cX12_when 8 = .ok (.invokevirtual 82, 3) := by decide +kernel
theorem dX12_when_11 : decode cX12_when 11 = .ok (.ifCond .ne 11, 3) := by decide +kernel
theorem dX12_when_14 : decode cX12_when 14 = .ok (.aload_n 0, 1) := by decide +kernel
theorem dX12_when_15 : decode cX12_when 15 = .ok (.iload_n 2, 1) := by decide +kernel
theorem dX12_when_16 : decode cX12_when 16 = .ok (.invokevirtual 330, 3) := by decide +kernel
theorem dX12_when_19 : decode cX12_when 19 = .ok (.ifCond .eq 7, 3) := by decide +kernel
theorem dX12_when_22 : decode cX12_when 22 = .ok (.iconst 1, 1) := by decide +kernel
theorem dX12_when_23 : decode cX12_when 23 = .ok (.goto 4, 3) := by decide +kernel
theorem dX12_when_26 : decode cX12_when 26 = .ok (.iconst 0, 1) := by decide +kernel
theorem dX12_when_27 : decode cX12_when 27 = .ok (.iconst 1, 1) := by decide +kernel
theorem dX12_when_28 : decode cX12_when 28 = .ok (.invokevirtual 254, 3) := by decide +kernel
theorem dX12_when_31 : decode cX12_when 31 = .ok (.ifCond .eq 7, 3) := by decide +kernel
theorem dX12_when_34 : decode cX12_when 34 = .ok (.iconst 0, 1) := by decide +kernel
theorem dX12_when_35 : decode cX12_when 35 = .ok (.goto 9, 3) := by decide +kernel
theorem dX12_when_38 : decode cX12_when 38 = .ok (.aload_n 0, 1) := by decide +kernel
theorem dX12_when_39 : decode cX12_when 39 = .ok (.iload_n 1, 1) := by decide +kernel
theorem dX12_when_40 : decode cX12_when 40 = .ok (.iload_n 2, 1) := by decide +kernel
theorem dX12_when_41 : decode cX12_when 41 = .ok (.invokevirtual 410, 3) := by decide +kernel
theorem dX12_when_44 : decode cX12_when 44 = .ok (.ireturn, 1) := by decide +kernel
theorem dX12_soonest_0 : decode cX12_soonest 0 = .ok (.aload_n 0, 1) := by decide +kernel
theorem dX12_soonest_1 : decode cX12_soonest 1 = .ok (.iconst 0, 1) := by decide +kernel
theorem dX12_soonest_2 : decode cX12_soonest 2 = .ok (.putfield 3, 3) := by decide +kernel
theorem dX12_soonest_5 : decode cX12_soonest 5 = .ok (.aload_n 0, 1) := by decide +kernel
theorem dX12_soonest_6 : decode cX12_soonest 6 = .ok (.aload_n 0, 1) := by decide +kernel
theorem dX12_soonest_7 : decode cX12_soonest 7 = .ok (.iload_n 1, 1) := by decide +kernel
theorem dX12_soonest_8 : decode cX12_soonest 8 = .ok (.invokevirtual 330, 3) := by decide +kernel
theorem dX12_soonest_11 : decode cX12_soonest 11 = .ok (.iconst 1, 1) := by decide +kernel
theorem dX12_soonest_12 : decode cX12_soonest 12 = .ok (.invokevirtual 254, 3) := by decide +kernel
theorem dX12_soonest_15 : decode cX12_soonest 15 = .ok (.ifCond .eq 5, 3) := by decide +kernel
theorem dX12_soonest_18 : decode cX12_soonest 18 = .ok (.iconst 0, 1) := by decide +kernel
theorem dX12_soonest_19 : decode cX12_soonest 19 = .ok (.ireturn, 1) := by decide +kernel
theorem dX12_soonest_20 : decode cX12_soonest 20 = .ok (.iconst (-1), 1) := by decide +kernel
theorem dX12_soonest_21 : decode cX12_soonest 21 = .ok (.istore_n 2, 1) := by decide +kernel
theorem dX12_soonest_22 : decode cX12_soonest 22 = .ok (.bipush 41, 2) := by decide +kernel
theorem dX12_soonest_24 : decode cX12_soonest 24 = .ok (.istore_n 3, 1) := by decide +kernel
theorem dX12_soonest_25 : decode cX12_soonest 25 = .ok (.iconst 0, 1) := by decide +kernel
theorem dX12_soonest_26 : decode cX12_soonest 26 = .ok (.istore 4, 2) := by decide +kernel
theorem dX12_soonest_28 : decode cX12_soonest 28 = .ok (.iload 4, 2) := by decide +kernel
theorem dX12_soonest_30 : decode cX12_soonest 30 = .ok (.aload_n 0, 1) := by decide +kernel
theorem dX12_soonest_31 : decode cX12_soonest 31 = .ok (.invokevirtual 74, 3) := by decide +kernel
theorem dX12_soonest_34 : decode cX12_soonest 34 = .ok (.if_icmp .ge 38, 3) := by decide +kernel
theorem dX12_soonest_37 : decode cX12_soonest 37 = .ok (.aload_n 0, 1) := by decide +kernel
theorem dX12_soonest_38 : decode cX12_soonest 38 = .ok (.iload 4, 2) := by decide +kernel
theorem dX12_soonest_40 : decode cX12_soonest 40 = .ok (.iload_n 1, 1) := by decide +kernel
theorem dX12_soonest_41 : decode cX12_soonest 41 = .ok (.invokevirtual 410, 3) := by decide +kernel
theorem dX12_soonest_44 : decode cX12_soonest 44 = .ok (.istore 5, 2) := by decide +kernel
theorem dX12_soonest_46 : decode cX12_soonest 46 = .ok (.iload 5, 2) := by decide +kernel
theorem dX12_soonest_48 : decode cX12_soonest 48 = .ok (.ifCond .lt 18, 3) := by decide +kernel
theorem dX12_soonest_51 : decode cX12_soonest 51 = .ok (.iload 5, 2) := by decide +kernel
theorem dX12_soonest_53 : decode cX12_soonest 53 = .ok (.iload_n 3, 1) := by decide +kernel
theorem dX12_soonest_54 : decode cX12_soonest 54 = .ok (.if_icmp .lt 6, 3) := by decide +kernel
theorem dX12_soonest_57 : decode cX12_soonest 57 = .ok (.goto 9, 3) := by decide +kernel
theorem dX12_soonest_60 : decode cX12_soonest 60 = .ok (.iload 4, 2) := by decide +kernel
theorem dX12_soonest_62 : decode cX12_soonest 62 = .ok (.istore_n 2, 1) := by decide +kernel
theorem dX12_soonest_63 : decode cX12_soonest 63 = .ok (.iload 5, 2) := by decide +kernel
theorem dX12_soonest_65 : decode cX12_soonest 65 = .ok (.istore_n 3, 1) := by decide +kernel
theorem dX12_soonest_66 : decode cX12_soonest 66 = .ok (.iinc 4 1, 3) := by decide +kernel
theorem dX12_soonest_69 : decode cX12_soonest 69 = .ok (.goto (-41), 3) := by decide +kernel
theorem dX12_soonest_72 : decode cX12_soonest 72 = .ok (.iload_n 2, 1) := by decide +kernel
theorem dX12_soonest_73 : decode cX12_soonest 73 = .ok (.ireturn, 1) := by decide +kernel
theorem dX12_ripe_0 : decode cX12_ripe 0 = .ok (.aload_n 0, 1) := by decide +kernel
theorem dX12_ripe_1 : decode cX12_ripe 1 = .ok (.iconst 0, 1) := by decide +kernel
theorem dX12_ripe_2 : decode cX12_ripe 2 = .ok (.putfield 3, 3) := by decide +kernel
theorem dX12_ripe_5 : decode cX12_ripe 5 = .ok (.aload_n 0, 1) := by decide +kernel
theorem dX12_ripe_6 : decode cX12_ripe 6 = .ok (.aload_n 0, 1) := by decide +kernel
theorem dX12_ripe_7 : decode cX12_ripe 7 = .ok (.iload_n 1, 1) := by decide +kernel
theorem dX12_ripe_8 : decode cX12_ripe 8 = .ok (.invokevirtual 82, 3) := by decide +kernel
theorem dX12_ripe_11 : decode cX12_ripe 11 = .ok (.iconst 1, 1) := by decide +kernel
theorem dX12_ripe_12 : decode cX12_ripe 12 = .ok (.invokevirtual 254, 3) := by decide +kernel
theorem dX12_ripe_15 : decode cX12_ripe 15 = .ok (.ifCond .eq 5, 3) := by decide +kernel
theorem dX12_ripe_18 : decode cX12_ripe 18 = .ok (.iconst 0, 1) := by decide +kernel
theorem dX12_ripe_19 : decode cX12_ripe 19 = .ok (.ireturn, 1) := by decide +kernel
theorem dX12_ripe_20 : decode cX12_ripe 20 = .ok (.aload_n 0, 1) := by decide +kernel
theorem dX12_ripe_21 : decode cX12_ripe 21 = .ok (.iload_n 1, 1) := by decide +kernel
theorem dX12_ripe_22 : decode cX12_ripe 22 = .ok (.invokevirtual 311, 3) := by decide +kernel
theorem dX12_ripe_25 : decode cX12_ripe 25 = .ok (.iconst 0, 1) := by decide +kernel
theorem dX12_ripe_26 : decode cX12_ripe 26 = .ok (.istore_n 3, 1) := by decide +kernel
theorem dX12_ripe_27 : decode cX12_ripe 27 = .ok (.iconst (-1), 1) := by decide +kernel
theorem dX12_ripe_28 : decode cX12_ripe 28 = .ok (.istore 4, 2) := by decide +kernel
theorem dX12_ripe_30 : decode cX12_ripe 30 = .ok (.iconst 0, 1) := by decide +kernel
theorem dX12_ripe_31 : decode cX12_ripe 31 = .ok (.istore 5, 2) := by decide +kernel
theorem dX12_ripe_33 : decode cX12_ripe 33 = .ok (.iload 5, 2) := by decide +kernel
theorem dX12_ripe_35 : decode cX12_ripe 35 = .ok (.bipush 40, 2) := by decide +kernel
theorem dX12_ripe_37 : decode cX12_ripe 37 = .ok (.if_icmp .gt 45, 3) := by decide +kernel
theorem dX12_ripe_40 : decode cX12_ripe 40 = .ok (.aload_n 0, 1) := by decide +kernel
theorem dX12_ripe_41 : decode cX12_ripe 41 = .ok (.invokevirtual 407, 3) := by decide +kernel
theorem dX12_ripe_44 : decode cX12_ripe 44 = .ok (.invokestatic 384, 3) := by decide +kernel
theorem dX12_ripe_47 : decode cX12_ripe 47 = .ok (.istore 6, 2) := by decide +kernel
theorem dX12_ripe_49 : decode cX12_ripe 49 = .ok (.iload 6, 2) := by decide +kernel
theorem dX12_ripe_51 : decode cX12_ripe 51 = .ok (.iload 4, 2) := by decide +kernel
theorem dX12_ripe_53 : decode cX12_ripe 53 = .ok (.if_icmp .le 8, 3) := by decide +kernel
theorem dX12_ripe_56 : decode cX12_ripe 56 = .ok (.iload 5, 2) := by decide +kernel
theorem dX12_ripe_58 : decode cX12_ripe 58 = .ok (.goto 4, 3) := by decide +kernel
theorem dX12_ripe_61 : decode cX12_ripe 61 = .ok (.iload_n 3, 1) := by decide +kernel
theorem dX12_ripe_62 : decode cX12_ripe 62 = .ok (.istore_n 3, 1) := by decide +kernel
theorem dX12_ripe_63 : decode cX12_ripe 63 = .ok (.iload 4, 2) := by decide +kernel
theorem dX12_ripe_65 : decode cX12_ripe 65 = .ok (.iload 6, 2) := by decide +kernel
theorem dX12_ripe_67 : decode cX12_ripe 67 = .ok (.invokestatic 401, 3) := by decide +kernel
theorem dX12_ripe_70 : decode cX12_ripe 70 = .ok (.istore 4, 2) := by decide +kernel
theorem dX12_ripe_72 : decode cX12_ripe 72 = .ok (.aload_n 0, 1) := by decide +kernel
theorem dX12_ripe_73 : decode cX12_ripe 73 = .ok (.invokevirtual 308, 3) := by decide +kernel
theorem dX12_ripe_76 : decode cX12_ripe 76 = .ok (.iinc 5 1, 3) := by decide +kernel
theorem dX12_ripe_79 : decode cX12_ripe 79 = .ok (.goto (-46), 3) := by decide +kernel
theorem dX12_ripe_82 : decode cX12_ripe 82 = .ok (.iload_n 2, 1) := by decide +kernel
theorem dX12_ripe_83 : decode cX12_ripe 83 = .ok (.ifCond .eq 8, 3) := by decide +kernel
theorem dX12_ripe_86 : decode cX12_ripe 86 = .ok (.iload 4, 2) := by decide +kernel
theorem dX12_ripe_88 : decode cX12_ripe 88 = .ok (.goto 4, 3) := by decide +kernel
theorem dX12_ripe_91 : decode cX12_ripe 91 = .ok (.iload_n 3, 1) := by decide +kernel
theorem dX12_ripe_92 : decode cX12_ripe 92 = .ok (.ireturn, 1) := by decide +kernel
theorem dX12_spies_0 : decode cX12_spies 0 = .ok (.aload_n 0, 1) := by decide +kernel
theorem dX12_spies_1 : decode cX12_spies 1 = .ok (.iconst 0, 1) := by decide +kernel
theorem dX12_spies_2 : decode cX12_spies 2 = .ok (.putfield 3, 3) := by decide +kernel
theorem dX12_spies_5 : decode cX12_spies 5 = .ok (.iconst 0, 1) := by decide +kernel
theorem dX12_spies_6 : decode cX12_spies 6 = .ok (.istore_n 2, 1) := by decide +kernel
theorem dX12_spies_7 : decode cX12_spies 7 = .ok (.iconst 0, 1) := by decide +kernel
theorem dX12_spies_8 : decode cX12_spies 8 = .ok (.istore_n 3, 1) := by decide +kernel
theorem dX12_spies_9 : decode cX12_spies 9 = .ok (.iload_n 3, 1) := by decide +kernel
theorem dX12_spies_10 : decode cX12_spies 10 = .ok (.aload_n 0, 1) := by decide +kernel
theorem dX12_spies_11 : decode cX12_spies 11 = .ok (.invokevirtual 74, 3) := by decide +kernel
theorem dX12_spies_14 : decode cX12_spies 14 = .ok (.if_icmp .ge 32, 3) := by decide +kernel
theorem dX12_spies_17 : decode cX12_spies 17 = .ok (.aload_n 0, 1) := by decide +kernel
theorem dX12_spies_18 : decode cX12_spies 18 = .ok (.iload_n 3, 1) := by decide +kernel
theorem dX12_spies_19 : decode cX12_spies 19 = .ok (.invokevirtual 311, 3) := by decide +kernel
theorem dX12_spies_22 : decode cX12_spies 22 = .ok (.iload_n 2, 1) := by decide +kernel
theorem dX12_spies_23 : decode cX12_spies 23 = .ok (.aload_n 0, 1) := by decide +kernel
theorem dX12_spies_24 : decode cX12_spies 24 = .ok (.invokevirtual 318, 3) := by decide +kernel
theorem dX12_spies_27 : decode cX12_spies 27 = .ok (.iload_n 1, 1) := by decide +kernel
theorem dX12_spies_28 : decode cX12_spies 28 = .ok (.if_icmp .ne 9, 3) := by decide +kernel
theorem dX12_spies_31 : decode cX12_spies 31 = .ok (.iconst 1, 1) := by decide +kernel
theorem dX12_spies_32 : decode cX12_spies 32 = .ok (.iload_n 3, 1) := by decide +kernel
theorem dX12_spies_33 : decode cX12_spies 33 = .ok (.ishl, 1) := by decide +kernel
theorem dX12_spies_34 : decode cX12_spies 34 = .ok (.goto 4, 3) := by decide +kernel
theorem dX12_spies_37 : decode cX12_spies 37 = .ok (.iconst 0, 1) := by decide +kernel
theorem dX12_spies_38 : decode cX12_spies 38 = .ok (.ior, 1) := by decide +kernel
theorem dX12_spies_39 : decode cX12_spies 39 = .ok (.istore_n 2, 1) := by decide +kernel
theorem dX12_spies_40 : decode cX12_spies 40 = .ok (.iinc 3 1, 3) := by decide +kernel
theorem dX12_spies_43 : decode cX12_spies 43 = .ok (.goto (-34), 3) := by decide +kernel
theorem dX12_spies_46 : decode cX12_spies 46 = .ok (.iload_n 2, 1) := by decide +kernel
theorem dX12_spies_47 : decode cX12_spies 47 = .ok (.ireturn, 1) := by decide +kernel
theorem dX12_guess_0 : decode cX12_guess 0 = .ok (.aload_n 0, 1) := by decide +kernel
theorem dX12_guess_1 : decode cX12_guess 1 = .ok (.iconst 0, 1) := by decide +kernel
theorem dX12_guess_2 : decode cX12_guess 2 = .ok (.putfield 3, 3) := by decide +kernel
theorem dX12_guess_5 : decode cX12_guess 5 = .ok (.aload_n 0, 1) := by decide +kernel
theorem dX12_guess_6 : decode cX12_guess 6 = .ok (.aload_n 0, 1) := by decide +kernel
theorem dX12_guess_7 : decode cX12_guess 7 = .ok (.iload_n 1, 1) := by decide +kernel
theorem dX12_guess_8 : decode cX12_guess 8 = .ok (.invokevirtual 82, 3) := by decide +kernel
theorem dX12_guess_11 : decode cX12_guess 11 = .ok (.iconst 1, 1) := by decide +kernel
theorem dX12_guess_12 : decode cX12_guess 12 = .ok (.invokevirtual 254, 3) := by decide +kernel
theorem dX12_guess_15 : decode cX12_guess 15 = .ok (.ifCond .eq 5, 3) := by decide +kernel
theorem dX12_guess_18 : decode cX12_guess 18 = .ok (.iconst 0, 1) := by decide +kernel
theorem dX12_guess_19 : decode cX12_guess 19 = .ok (.ireturn, 1) := by decide +kernel
theorem dX12_guess_20 : decode cX12_guess 20 = .ok (.aload_n 0, 1) := by decide +kernel
theorem dX12_guess_21 : decode cX12_guess 21 = .ok (.iload_n 1, 1) := by decide +kernel
theorem dX12_guess_22 : decode cX12_guess 22 = .ok (.invokevirtual 311, 3) := by decide +kernel
theorem dX12_guess_25 : decode cX12_guess 25 = .ok (.iconst 0, 1) := by decide +kernel
theorem dX12_guess_26 : decode cX12_guess 26 = .ok (.istore_n 2, 1) := by decide +kernel
theorem dX12_guess_27 : decode cX12_guess 27 = .ok (.iconst 0, 1) := by decide +kernel
theorem dX12_guess_28 : decode cX12_guess 28 = .ok (.istore_n 3, 1) := by decide +kernel
theorem dX12_guess_29 : decode cX12_guess 29 = .ok (.iload_n 3, 1) := by decide +kernel
theorem dX12_guess_30 : decode cX12_guess 30 = .ok (.bipush 12, 2) := by decide +kernel
theorem dX12_guess_32 : decode cX12_guess 32 = .ok (.if_icmp .ge 43, 3) := by decide +kernel
theorem dX12_guess_35 : decode cX12_guess 35 = .ok (.iload_n 2, 1) := by decide +kernel
theorem dX12_guess_36 : decode cX12_guess 36 = .ok (.aload_n 0, 1) := by decide +kernel
theorem dX12_guess_37 : decode cX12_guess 37 = .ok (.getfield 13, 3) := by decide +kernel
theorem dX12_guess_40 : decode cX12_guess 40 = .ok (.bipush 8, 2) := by decide +kernel
theorem dX12_guess_42 : decode cX12_guess 42 = .ok (.iload_n 3, 1) := by decide +kernel
theorem dX12_guess_43 : decode cX12_guess 43 = .ok (.iadd, 1) := by decide +kernel
theorem dX12_guess_44 : decode cX12_guess 44 = .ok (.iaload, 1) := by decide +kernel
theorem dX12_guess_45 : decode cX12_guess 45 = .ok (.aload_n 0, 1) := by decide +kernel
theorem dX12_guess_46 : decode cX12_guess 46 = .ok (.getfield 13, 3) := by decide +kernel
theorem dX12_guess_49 : decode cX12_guess 49 = .ok (.bipush 8, 2) := by decide +kernel
theorem dX12_guess_51 : decode cX12_guess 51 = .ok (.aload_n 0, 1) := by decide +kernel
theorem dX12_guess_52 : decode cX12_guess 52 = .ok (.invokevirtual 321, 3) := by decide +kernel
theorem dX12_guess_55 : decode cX12_guess 55 = .ok (.iadd, 1) := by decide +kernel
theorem dX12_guess_56 : decode cX12_guess 56 = .ok (.iaload, 1) := by decide +kernel
theorem dX12_guess_57 : decode cX12_guess 57 = .ok (.if_icmp .ne 9, 3) := by decide +kernel
theorem dX12_guess_60 : decode cX12_guess 60 = .ok (.iconst 1, 1) := by decide +kernel
theorem dX12_guess_61 : decode cX12_guess 61 = .ok (.iload_n 3, 1) := by decide +kernel
theorem dX12_guess_62 : decode cX12_guess 62 = .ok (.ishl, 1) := by decide +kernel
theorem dX12_guess_63 : decode cX12_guess 63 = .ok (.goto 4, 3) := by decide +kernel
theorem dX12_guess_66 : decode cX12_guess 66 = .ok (.iconst 0, 1) := by decide +kernel
theorem dX12_guess_67 : decode cX12_guess 67 = .ok (.ior, 1) := by decide +kernel
theorem dX12_guess_68 : decode cX12_guess 68 = .ok (.istore_n 2, 1) := by decide +kernel
theorem dX12_guess_69 : decode cX12_guess 69 = .ok (.iinc 3 1, 3) := by decide +kernel
theorem dX12_guess_72 : decode cX12_guess 72 = .ok (.goto (-43), 3) := by decide +kernel
theorem dX12_guess_75 : decode cX12_guess 75 = .ok (.iload_n 2, 1) := by decide +kernel
theorem dX12_guess_76 : decode cX12_guess 76 = .ok (.ireturn, 1) := by decide +kernel
theorem dX12_postageOf_0 : decode cX12_postageOf 0 = .ok (.aload_n 0, 1) := by decide +kernel
theorem dX12_postageOf_1 : decode cX12_postageOf 1 = .ok (.iload_n 1, 1) := by decide +kernel
theorem dX12_postageOf_2 : decode cX12_postageOf 2 = .ok (.iload_n 2, 1) := by decide +kernel
theorem dX12_postageOf_3 : decode cX12_postageOf 3 = .ok (.invokevirtual 359, 3) := by decide +kernel
theorem dX12_postageOf_6 : decode cX12_postageOf 6 = .ok (.aload_n 0, 1) := by decide +kernel
theorem dX12_postageOf_7 : decode cX12_postageOf 7 = .ok (.invokevirtual 318, 3) := by decide +kernel
theorem dX12_postageOf_10 : decode cX12_postageOf 10 = .ok (.bipush 9, 2) := by decide +kernel
theorem dX12_postageOf_12 : decode cX12_postageOf 12 = .ok (.iadd, 1) := by decide +kernel
theorem dX12_postageOf_13 : decode cX12_postageOf 13 = .ok (.bipush 10, 2) := by decide +kernel
theorem dX12_postageOf_15 : decode cX12_postageOf 15 = .ok (.idiv, 1) := by decide +kernel
theorem dX12_postageOf_16 : decode cX12_postageOf 16 = .ok (.iconst 2, 1) := by decide +kernel
theorem dX12_postageOf_17 : decode cX12_postageOf 17 = .ok (.aload_n 0, 1) := by decide +kernel
theorem dX12_postageOf_18 : decode cX12_postageOf 18 = .ok (.invokevirtual 407, 3) := by decide +kernel
theorem dX12_postageOf_21 : decode cX12_postageOf 21 = .ok (.invokestatic 384, 3) := by decide +kernel
theorem dX12_postageOf_24 : decode cX12_postageOf 24 = .ok (.imul, 1) := by decide +kernel
theorem dX12_postageOf_25 : decode cX12_postageOf 25 = .ok (.iadd, 1) := by decide +kernel
theorem dX12_postageOf_26 : decode cX12_postageOf 26 = .ok (.ireturn, 1) := by decide +kernel
theorem dX12_postage_0 : decode cX12_postage 0 = .ok (.aload_n 0, 1) := by decide +kernel
theorem dX12_postage_1 : decode cX12_postage 1 = .ok (.iconst 0, 1) := by decide +kernel
theorem dX12_postage_2 : decode cX12_postage 2 = .ok (.putfield 3, 3) := by decide +kernel
theorem dX12_postage_5 : decode cX12_postage 5 = .ok (.aload_n 0, 1) := by decide +kernel
theorem dX12_postage_6 : decode cX12_postage 6 = .ok (.aload_n 0, 1) := by decide +kernel
theorem dX12_postage_7 : decode cX12_postage 7 = .ok (.iload_n 1, 1) := by decide +kernel
theorem dX12_postage_8 : decode cX12_postage 8 = .ok (.invokevirtual 82, 3) := by decide +kernel
theorem dX12_postage_11 : decode cX12_postage 11 = .ok (.iconst 1, 1) := by decide +kernel
theorem dX12_postage_12 : decode cX12_postage 12 = .ok (.invokevirtual 254, 3) := by decide +kernel
theorem dX12_postage_15 : decode cX12_postage 15 = .ok (.ifCond .ne 34, 3) := by decide +kernel
theorem dX12_postage_18 : decode cX12_postage 18 = .ok (.aload_n 0, 1) := by decide +kernel
theorem dX12_postage_19 : decode cX12_postage 19 = .ok (.iload_n 2, 1) := by decide +kernel
theorem dX12_postage_20 : decode cX12_postage 20 = .ok (.iload_n 3, 1) := by decide +kernel
theorem dX12_postage_21 : decode cX12_postage 21 = .ok (.ifCond .eq 7, 3) := by decide +kernel
theorem dX12_postage_24 : decode cX12_postage 24 = .ok (.iconst 1, 1) := by decide +kernel
theorem dX12_postage_25 : decode cX12_postage 25 = .ok (.goto 4, 3) := by decide +kernel
theorem dX12_postage_28 : decode cX12_postage 28 = .ok (.iconst 0, 1) := by decide +kernel
theorem dX12_postage_29 : decode cX12_postage 29 = .ok (.bipush 40, 2) := by decide +kernel
theorem dX12_postage_31 : decode cX12_postage 31 = .ok (.invokestatic 78, 3) := by decide +kernel
theorem dX12_postage_34 : decode cX12_postage 34 = .ok (.ifCond .ne 7, 3) := by decide +kernel
theorem dX12_postage_37 : decode cX12_postage 37 = .ok (.iconst 1, 1) := by decide +kernel
theorem dX12_postage_38 : decode cX12_postage 38 = .ok (.goto 4, 3) := by decide +kernel
theorem dX12_postage_41 : decode cX12_postage 41 = .ok (.iconst 0, 1) := by decide +kernel
theorem dX12_postage_42 : decode cX12_postage 42 = .ok (.iconst 2, 1) := by decide +kernel
theorem dX12_postage_43 : decode cX12_postage 43 = .ok (.invokevirtual 254, 3) := by decide +kernel
theorem dX12_postage_46 : decode cX12_postage 46 = .ok (.ifCond .eq 5, 3) := by decide +kernel
theorem dX12_postage_49 : decode cX12_postage 49 = .ok (.iconst 0, 1) := by decide +kernel
theorem dX12_postage_50 : decode cX12_postage 50 = .ok (.ireturn, 1) := by decide +kernel
theorem dX12_postage_51 : decode cX12_postage 51 = .ok (.aload_n 0, 1) := by decide +kernel
theorem dX12_postage_52 : decode cX12_postage 52 = .ok (.iload_n 1, 1) := by decide +kernel
theorem dX12_postage_53 : decode cX12_postage 53 = .ok (.iload_n 2, 1) := by decide +kernel
theorem dX12_postage_54 : decode cX12_postage 54 = .ok (.invokevirtual 413, 3) := by decide +kernel
theorem dX12_postage_57 : decode cX12_postage 57 = .ok (.iload_n 3, 1) := by decide +kernel
theorem dX12_postage_58 : decode cX12_postage 58 = .ok (.ifCond .eq 14, 3) := by decide +kernel
theorem dX12_postage_61 : decode cX12_postage 61 = .ok (.aload_n 0, 1) := by decide +kernel
theorem dX12_postage_62 : decode cX12_postage 62 = .ok (.iload_n 1, 1) := by decide +kernel
theorem dX12_postage_63 : decode cX12_postage 63 = .ok (.iload_n 2, 1) := by decide +kernel
theorem dX12_postage_64 : decode cX12_postage 64 = .ok (.iconst 1, 1) := by decide +kernel
theorem dX12_postage_65 : decode cX12_postage 65 = .ok (.isub, 1) := by decide +kernel
theorem dX12_postage_66 : decode cX12_postage 66 = .ok (.invokevirtual 413, 3) := by decide +kernel
theorem dX12_postage_69 : decode cX12_postage 69 = .ok (.goto 4, 3) := by decide +kernel
theorem dX12_postage_72 : decode cX12_postage 72 = .ok (.iconst 0, 1) := by decide +kernel
theorem dX12_postage_73 : decode cX12_postage 73 = .ok (.isub, 1) := by decide +kernel
theorem dX12_postage_74 : decode cX12_postage 74 = .ok (.ireturn, 1) := by decide +kernel
theorem dX12_forkOf_0 : decode cX12_forkOf 0 = .ok (.aload_n 0, 1) := by decide +kernel
theorem dX12_forkOf_1 : decode cX12_forkOf 1 = .ok (.iload_n 1, 1) := by decide +kernel
theorem dX12_forkOf_2 : decode cX12_forkOf 2 = .ok (.invokevirtual 311, 3) := by decide +kernel
theorem dX12_forkOf_5 : decode cX12_forkOf 5 = .ok (.iconst 0, 1) := by decide +kernel
theorem dX12_forkOf_6 : decode cX12_forkOf 6 = .ok (.istore 4, 2) := by decide +kernel
theorem dX12_forkOf_8 : decode cX12_forkOf 8 = .ok (.iconst 0, 1) := by decide +kernel
theorem dX12_forkOf_9 : decode cX12_forkOf 9 = .ok (.istore 5, 2) := by decide +kernel
theorem dX12_forkOf_11 : decode cX12_forkOf 11 = .ok (.iload 5, 2) := by decide +kernel
theorem dX12_forkOf_13 : decode cX12_forkOf 13 = .ok (.iload_n 2, 1) := by decide +kernel
theorem dX12_forkOf_14 : decode cX12_forkOf 14 = .ok (.if_icmp .ge 71, 3) := by decide +kernel
theorem dX12_forkOf_17 : decode cX12_forkOf 17 = .ok (.aload_n 0, 1) := by decide +kernel
theorem dX12_forkOf_18 : decode cX12_forkOf 18 = .ok (.getfield 257, 3) := by decide +kernel
theorem dX12_forkOf_21 : decode cX12_forkOf 21 = .ok (.istore 6, 2) := by decide +kernel
theorem dX12_forkOf_23 : decode cX12_forkOf 23 = .ok (.aload_n 0, 1) := by decide +kernel
theorem dX12_forkOf_24 : decode cX12_forkOf 24 = .ok (.invokevirtual 300, 3) := by decide +kernel
theorem dX12_forkOf_27 : decode cX12_forkOf 27 = .ok (.iload 4, 2) := by decide +kernel
theorem dX12_forkOf_29 : decode cX12_forkOf 29 = .ok (.ifCond .ne 23, 3) := by decide +kernel
theorem dX12_forkOf_32 : decode cX12_forkOf 32 = .ok (.aload_n 0, 1) := by decide +kernel
theorem dX12_forkOf_33 : decode cX12_forkOf 33 = .ok (.getfield 257, 3) := by decide +kernel
theorem dX12_forkOf_36 : decode cX12_forkOf 36 = .ok (.iload 6, 2) := by decide +kernel
theorem dX12_forkOf_38 : decode cX12_forkOf 38 = .ok (.if_icmp .le 14, 3) := by decide +kernel
theorem dX12_forkOf_41 : decode cX12_forkOf 41 = .ok (.aload_n 0, 1) := by decide +kernel
theorem dX12_forkOf_42 : decode cX12_forkOf 42 = .ok (.getfield 42, 3) := by decide +kernel
theorem dX12_forkOf_45 : decode cX12_forkOf 45 = .ok (.iload 6, 2) := by decide +kernel
theorem dX12_forkOf_47 : decode cX12_forkOf 47 = .ok (.iload_n 3, 1) := by decide +kernel
theorem dX12_forkOf_48 : decode cX12_forkOf 48 = .ok (.iastore, 1) := by decide +kernel
theorem dX12_forkOf_49 : decode cX12_forkOf 49 = .ok (.iconst 1, 1) := by decide +kernel
theorem dX12_forkOf_50 : decode cX12_forkOf 50 = .ok (.istore 4, 2) := by decide +kernel
theorem dX12_forkOf_52 : decode cX12_forkOf 52 = .ok (.aload_n 0, 1) := by decide +kernel
theorem dX12_forkOf_53 : decode cX12_forkOf 53 = .ok (.getfield 269, 3) := by decide +kernel
theorem dX12_forkOf_56 : decode cX12_forkOf 56 = .ok (.ifCond .eq 7, 3) := by decide +kernel
theorem dX12_forkOf_59 : decode cX12_forkOf 59 = .ok (.aload_n 0, 1) := by decide +kernel
theorem dX12_forkOf_60 : decode cX12_forkOf 60 = .ok (.invokevirtual 300, 3) := by decide +kernel
theorem dX12_forkOf_63 : decode cX12_forkOf 63 = .ok (.aload_n 0, 1) := by decide +kernel
theorem dX12_forkOf_64 : decode cX12_forkOf 64 = .ok (.sipush 9999, 3) := by decide +kernel
theorem dX12_forkOf_67 : decode cX12_forkOf 67 = .ok (.aload_n 0, 1) := by decide +kernel
theorem dX12_forkOf_68 : decode cX12_forkOf 68 = .ok (.getfield 262, 3) := by decide +kernel
theorem dX12_forkOf_71 : decode cX12_forkOf 71 = .ok (.iconst 1, 1) := by decide +kernel
theorem dX12_forkOf_72 : decode cX12_forkOf 72 = .ok (.iadd, 1) := by decide +kernel
theorem dX12_forkOf_73 : decode cX12_forkOf 73 = .ok (.invokestatic 303, 3) := by decide +kernel
theorem dX12_forkOf_76 : decode cX12_forkOf 76 = .ok (.putfield 262, 3) := by decide +kernel
theorem dX12_forkOf_79 : decode cX12_forkOf 79 = .ok (.iinc 5 1, 3) := by decide +kernel
theorem dX12_forkOf_82 : decode cX12_forkOf 82 = .ok (.goto (-71), 3) := by decide +kernel
theorem dX12_forkOf_85 : decode cX12_forkOf 85 = .ok (.aload_n 0, 1) := by decide +kernel
theorem dX12_forkOf_86 : decode cX12_forkOf 86 = .ok (.invokevirtual 321, 3) := by decide +kernel
theorem dX12_forkOf_89 : decode cX12_forkOf 89 = .ok (.ireturn, 1) := by decide +kernel
theorem dX12_forks_0 : decode cX12_forks 0 = .ok (.aload_n 0, 1) := by decide +kernel
theorem dX12_forks_1 : decode cX12_forks 1 = .ok (.iconst 0, 1) := by decide +kernel
theorem dX12_forks_2 : decode cX12_forks 2 = .ok (.putfield 3, 3) := by decide +kernel
theorem dX12_forks_5 : decode cX12_forks 5 = .ok (.aload_n 0, 1) := by decide +kernel
theorem dX12_forks_6 : decode cX12_forks 6 = .ok (.aload_n 0, 1) := by decide +kernel
theorem dX12_forks_7 : decode cX12_forks 7 = .ok (.iload_n 1, 1) := by decide +kernel
theorem dX12_forks_8 : decode cX12_forks 8 = .ok (.invokevirtual 82, 3) := by decide +kernel
theorem dX12_forks_11 : decode cX12_forks 11 = .ok (.iconst 1, 1) := by decide +kernel
theorem dX12_forks_12 : decode cX12_forks 12 = .ok (.invokevirtual 254, 3) := by decide +kernel
theorem dX12_forks_15 : decode cX12_forks 15 = .ok (.ifCond .ne 26, 3) := by decide +kernel
theorem dX12_forks_18 : decode cX12_forks 18 = .ok (.aload_n 0, 1) := by decide +kernel
theorem dX12_forks_19 : decode cX12_forks 19 = .ok (.iload_n 2, 1) := by decide +kernel
theorem dX12_forks_20 : decode cX12_forks 20 = .ok (.iconst 1, 1) := by decide +kernel
theorem dX12_forks_21 : decode cX12_forks 21 = .ok (.bipush 40, 2) := by decide +kernel
theorem dX12_forks_23 : decode cX12_forks 23 = .ok (.invokestatic 78, 3) := by decide +kernel
theorem dX12_forks_26 : decode cX12_forks 26 = .ok (.ifCond .ne 7, 3) := by decide +kernel
theorem dX12_forks_29 : decode cX12_forks 29 = .ok (.iconst 1, 1) := by decide +kernel
theorem dX12_forks_30 : decode cX12_forks 30 = .ok (.goto 4, 3) := by decide +kernel
theorem dX12_forks_33 : decode cX12_forks 33 = .ok (.iconst 0, 1) := by decide +kernel
theorem dX12_forks_34 : decode cX12_forks 34 = .ok (.iconst 2, 1) := by decide +kernel
theorem dX12_forks_35 : decode cX12_forks 35 = .ok (.invokevirtual 254, 3) := by decide +kernel
theorem dX12_forks_38 : decode cX12_forks 38 = .ok (.ifCond .eq 5, 3) := by decide +kernel
theorem dX12_forks_41 : decode cX12_forks 41 = .ok (.iconst 0, 1) := by decide +kernel
theorem dX12_forks_42 : decode cX12_forks 42 = .ok (.ireturn, 1) := by decide +kernel
theorem dX12_forks_43 : decode cX12_forks 43 = .ok (.iconst 0, 1) := by decide +kernel
theorem dX12_forks_44 : decode cX12_forks 44 = .ok (.istore_n 3, 1) := by decide +kernel
theorem dX12_forks_45 : decode cX12_forks 45 = .ok (.iconst 0, 1) := by decide +kernel
theorem dX12_forks_46 : decode cX12_forks 46 = .ok (.istore 4, 2) := by decide +kernel
theorem dX12_forks_48 : decode cX12_forks 48 = .ok (.iload 4, 2) := by decide +kernel
theorem dX12_forks_50 : decode cX12_forks 50 = .ok (.bipush 12, 2) := by decide +kernel
theorem dX12_forks_52 : decode cX12_forks 52 = .ok (.if_icmp .ge 22, 3) := by decide +kernel
theorem dX12_forks_55 : decode cX12_forks 55 = .ok (.iload_n 3, 1) := by decide +kernel
theorem dX12_forks_56 : decode cX12_forks 56 = .ok (.iconst 1, 1) := by decide +kernel
theorem dX12_forks_57 : decode cX12_forks 57 = .ok (.aload_n 0, 1) := by decide +kernel
theorem dX12_forks_58 : decode cX12_forks 58 = .ok (.iload_n 1, 1) := by decide +kernel
theorem dX12_forks_59 : decode cX12_forks 59 = .ok (.iload_n 2, 1) := by decide +kernel
theorem dX12_forks_60 : decode cX12_forks 60 = .ok (.iload 4, 2) := by decide +kernel
theorem dX12_forks_62 : decode cX12_forks 62 = .ok (.invokevirtual 416, 3) := by decide +kernel
theorem dX12_forks_65 : decode cX12_forks 65 = .ok (.ishl, 1) := by decide +kernel
theorem dX12_forks_66 : decode cX12_forks 66 = .ok (.ior, 1) := by decide +kernel
theorem dX12_forks_67 : decode cX12_forks 67 = .ok (.istore_n 3, 1) := by decide +kernel
theorem dX12_forks_68 : decode cX12_forks 68 = .ok (.iinc 4 1, 3) := by decide +kernel
theorem dX12_forks_71 : decode cX12_forks 71 = .ok (.goto (-23), 3) := by decide +kernel
theorem dX12_forks_74 : decode cX12_forks 74 = .ok (.iload_n 3, 1) := by decide +kernel
theorem dX12_forks_75 : decode cX12_forks 75 = .ok (.ireturn, 1) := by decide +kernel
theorem dX12_lengthOf_0 : decode cX12_lengthOf 0 = .ok (.iconst 0, 1) := by decide +kernel
theorem dX12_lengthOf_1 : decode cX12_lengthOf 1 = .ok (.istore_n 2, 1) := by decide +kernel
theorem dX12_lengthOf_2 : decode cX12_lengthOf 2 = .ok (.iconst 0, 1) := by decide +kernel
theorem dX12_lengthOf_3 : decode cX12_lengthOf 3 = .ok (.istore_n 3, 1) := by decide +kernel
theorem dX12_lengthOf_4 : decode cX12_lengthOf 4 = .ok (.iload_n 3, 1) := by decide +kernel
theorem dX12_lengthOf_5 : decode cX12_lengthOf 5 = .ok (.aload_n 0, 1) := by decide +kernel
theorem dX12_lengthOf_6 : decode cX12_lengthOf 6 = .ok (.invokevirtual 74, 3) := by decide +kernel
theorem dX12_lengthOf_9 : decode cX12_lengthOf 9 = .ok (.if_icmp .ge 30, 3) := by decide +kernel
theorem dX12_lengthOf_12 : decode cX12_lengthOf 12 = .ok (.iload_n 2, 1) := by decide +kernel
theorem dX12_lengthOf_13 : decode cX12_lengthOf 13 = .ok (.iload_n 1, 1) := by decide +kernel
theorem dX12_lengthOf_14 : decode cX12_lengthOf 14 = .ok (.iload_n 3, 1) := by decide +kernel
theorem dX12_lengthOf_15 : decode cX12_lengthOf 15 = .ok (.invokestatic 420, 3) := by decide +kernel
theorem dX12_lengthOf_18 : decode cX12_lengthOf 18 = .ok (.ifCond .eq 12, 3) := by decide +kernel
theorem dX12_lengthOf_21 : decode cX12_lengthOf 21 = .ok (.aload_n 0, 1) := by decide +kernel
theorem dX12_lengthOf_22 : decode cX12_lengthOf 22 = .ok (.getfield 51, 3) := by decide +kernel
theorem dX12_lengthOf_25 : decode cX12_lengthOf 25 = .ok (.iload_n 3, 1) := by decide +kernel
theorem dX12_lengthOf_26 : decode cX12_lengthOf 26 = .ok (.iaload, 1) := by decide +kernel
theorem dX12_lengthOf_27 : decode cX12_lengthOf 27 = .ok (.goto 4, 3) := by decide +kernel
theorem dX12_lengthOf_30 : decode cX12_lengthOf 30 = .ok (.iconst 0, 1) := by decide +kernel
theorem dX12_lengthOf_31 : decode cX12_lengthOf 31 = .ok (.iadd, 1) := by decide +kernel
theorem dX12_lengthOf_32 : decode cX12_lengthOf 32 = .ok (.istore_n 2, 1) := by decide +kernel
theorem dX12_lengthOf_33 : decode cX12_lengthOf 33 = .ok (.iinc 3 1, 3) := by decide +kernel
theorem dX12_lengthOf_36 : decode cX12_lengthOf 36 = .ok (.goto (-32), 3) := by decide +kernel
theorem dX12_lengthOf_39 : decode cX12_lengthOf 39 = .ok (.iload_n 2, 1) := by decide +kernel
theorem dX12_lengthOf_40 : decode cX12_lengthOf 40 = .ok (.ireturn, 1) := by decide +kernel
theorem dX12_fewestOf_0 : decode cX12_fewestOf 0 = .ok (.sipush 1000, 3) := by decide +kernel
theorem dX12_fewestOf_3 : decode cX12_fewestOf 3 = .ok (.istore_n 3, 1) := by decide +kernel
theorem dX12_fewestOf_4 : decode cX12_fewestOf 4 = .ok (.iload_n 1, 1) := by decide +kernel
theorem dX12_fewestOf_5 : decode cX12_fewestOf 5 = .ok (.istore 4, 2) := by decide +kernel
theorem dX12_fewestOf_7 : decode cX12_fewestOf 7 = .ok (.iload 4, 2) := by decide +kernel
theorem dX12_fewestOf_9 : decode cX12_fewestOf 9 = .ok (.ifCond .le 42, 3) := by decide +kernel
theorem dX12_fewestOf_12 : decode cX12_fewestOf 12 = .ok (.aload_n 0, 1) := by decide +kernel
theorem dX12_fewestOf_13 : decode cX12_fewestOf 13 = .ok (.iload 4, 2) := by decide +kernel
theorem dX12_fewestOf_15 : decode cX12_fewestOf 15 = .ok (.invokevirtual 423, 3) := by decide +kernel
theorem dX12_fewestOf_18 : decode cX12_fewestOf 18 = .ok (.iload_n 2, 1) := by decide +kernel
theorem dX12_fewestOf_19 : decode cX12_fewestOf 19 = .ok (.if_icmp .gt 21, 3) := by decide +kernel
theorem dX12_fewestOf_22 : decode cX12_fewestOf 22 = .ok (.iload_n 3, 1) := by decide +kernel
theorem dX12_fewestOf_23 : decode cX12_fewestOf 23 = .ok (.iconst 1, 1) := by decide +kernel
theorem dX12_fewestOf_24 : decode cX12_fewestOf 24 = .ok (.aload_n 0, 1) := by decide +kernel
theorem dX12_fewestOf_25 : decode cX12_fewestOf 25 = .ok (.getfield 54, 3) := by decide +kernel
theorem dX12_fewestOf_28 : decode cX12_fewestOf 28 = .ok (.iload_n 1, 1) := by decide +kernel
theorem dX12_fewestOf_29 : decode cX12_fewestOf 29 = .ok (.iload 4, 2) := by decide +kernel
theorem dX12_fewestOf_31 : decode cX12_fewestOf 31 = .ok (.iconst (-1), 1) := by decide +kernel
theorem dX12_fewestOf_32 : decode cX12_fewestOf 32 = .ok (.ixor, 1) := by decide +kernel
theorem dX12_fewestOf_33 : decode cX12_fewestOf 33 = .ok (.iand, 1) := by decide +kernel
theorem dX12_fewestOf_34 : decode cX12_fewestOf 34 = .ok (.iaload, 1) := by decide +kernel
theorem dX12_fewestOf_35 : decode cX12_fewestOf 35 = .ok (.iadd, 1) := by decide +kernel
theorem dX12_fewestOf_36 : decode cX12_fewestOf 36 = .ok (.invokestatic 303, 3) := by decide +kernel
theorem dX12_fewestOf_39 : decode cX12_fewestOf 39 = .ok (.istore_n 3, 1) := by decide +kernel
theorem dX12_fewestOf_40 : decode cX12_fewestOf 40 = .ok (.iload 4, 2) := by decide +kernel
theorem dX12_fewestOf_42 : decode cX12_fewestOf 42 = .ok (.iconst 1, 1) := by decide +kernel
theorem dX12_fewestOf_43 : decode cX12_fewestOf 43 = .ok (.isub, 1) := by decide +kernel
theorem dX12_fewestOf_44 : decode cX12_fewestOf 44 = .ok (.iload_n 1, 1) := by decide +kernel
theorem dX12_fewestOf_45 : decode cX12_fewestOf 45 = .ok (.iand, 1) := by decide +kernel
theorem dX12_fewestOf_46 : decode cX12_fewestOf 46 = .ok (.istore 4, 2) := by decide +kernel
theorem dX12_fewestOf_48 : decode cX12_fewestOf 48 = .ok (.goto (-41), 3) := by decide +kernel
theorem dX12_fewestOf_51 : decode cX12_fewestOf 51 = .ok (.iload_n 3, 1) := by decide +kernel
theorem dX12_fewestOf_52 : decode cX12_fewestOf 52 = .ok (.ireturn, 1) := by decide +kernel
theorem dX12_shelves_0 : decode cX12_shelves 0 = .ok (.aload_n 0, 1) := by decide +kernel
theorem dX12_shelves_1 : decode cX12_shelves 1 = .ok (.iconst 0, 1) := by decide +kernel
theorem dX12_shelves_2 : decode cX12_shelves 2 = .ok (.putfield 3, 3) := by decide +kernel
theorem dX12_shelves_5 : decode cX12_shelves 5 = .ok (.aload_n 0, 1) := by decide +kernel
theorem dX12_shelves_6 : decode cX12_shelves 6 = .ok (.iload_n 1, 1) := by decide +kernel
theorem dX12_shelves_7 : decode cX12_shelves 7 = .ok (.iconst 1, 1) := by decide +kernel
theorem dX12_shelves_8 : decode cX12_shelves 8 = .ok (.bipush 99, 2) := by decide +kernel
theorem dX12_shelves_10 : decode cX12_shelves 10 = .ok (.invokestatic 78, 3) := by decide +kernel
theorem dX12_shelves_13 : decode cX12_shelves 13 = .ok (.ifCond .eq 10, 3) := by decide +kernel
theorem dX12_shelves_16 : decode cX12_shelves 16 = .ok (.iload_n 2, 1) := by decide +kernel
theorem dX12_shelves_17 : decode cX12_shelves 17 = .ok (.invokestatic 356, 3) := by decide +kernel
theorem dX12_shelves_20 : decode cX12_shelves 20 = .ok (.ifCond .eq 7, 3) := by decide +kernel
theorem dX12_shelves_23 : decode cX12_shelves 23 = .ok (.iconst 1, 1) := by decide +kernel
theorem dX12_shelves_24 : decode cX12_shelves 24 = .ok (.goto 4, 3) := by decide +kernel
theorem dX12_shelves_27 : decode cX12_shelves 27 = .ok (.iconst 0, 1) := by decide +kernel
theorem dX12_shelves_28 : decode cX12_shelves 28 = .ok (.iconst 1, 1) := by decide +kernel
theorem dX12_shelves_29 : decode cX12_shelves 29 = .ok (.invokevirtual 254, 3) := by decide +kernel
theorem dX12_shelves_32 : decode cX12_shelves 32 = .ok (.ifCond .eq 5, 3) := by decide +kernel
theorem dX12_shelves_35 : decode cX12_shelves 35 = .ok (.iconst 0, 1) := by decide +kernel
theorem dX12_shelves_36 : decode cX12_shelves 36 = .ok (.ireturn, 1) := by decide +kernel
theorem dX12_shelves_37 : decode cX12_shelves 37 = .ok (.iconst 0, 1) := by decide +kernel
theorem dX12_shelves_38 : decode cX12_shelves 38 = .ok (.istore 4, 2) := by decide +kernel
theorem dX12_shelves_40 : decode cX12_shelves 40 = .ok (.iload 4, 2) := by decide +kernel
theorem dX12_shelves_42 : decode cX12_shelves 42 = .ok (.aload_n 0, 1) := by decide +kernel
theorem dX12_shelves_43 : decode cX12_shelves 43 = .ok (.invokevirtual 74, 3) := by decide +kernel
theorem dX12_shelves_46 : decode cX12_shelves 46 = .ok (.if_icmp .ge 27, 3) := by decide +kernel
theorem dX12_shelves_49 : decode cX12_shelves 49 = .ok (.aload_n 0, 1) := by decide +kernel
theorem dX12_shelves_50 : decode cX12_shelves 50 = .ok (.iload 4, 2) := by decide +kernel
theorem dX12_shelves_52 : decode cX12_shelves 52 = .ok (.iload_n 2, 1) := by decide +kernel
theorem dX12_shelves_53 : decode cX12_shelves 53 = .ok (.invokevirtual 359, 3) := by decide +kernel
theorem dX12_shelves_56 : decode cX12_shelves 56 = .ok (.aload_n 0, 1) := by decide +kernel
theorem dX12_shelves_57 : decode cX12_shelves 57 = .ok (.getfield 51, 3) := by decide +kernel
theorem dX12_shelves_60 : decode cX12_shelves 60 = .ok (.iload 4, 2) := by decide +kernel
theorem dX12_shelves_62 : decode cX12_shelves 62 = .ok (.aload_n 0, 1) := by decide +kernel
theorem dX12_shelves_63 : decode cX12_shelves 63 = .ok (.getfield 257, 3) := by decide +kernel
theorem dX12_shelves_66 : decode cX12_shelves 66 = .ok (.iastore, 1) := by decide +kernel
theorem dX12_shelves_67 : decode cX12_shelves 67 = .ok (.iinc 4 1, 3) := by decide +kernel
theorem dX12_shelves_70 : decode cX12_shelves 70 = .ok (.goto (-30), 3) := by decide +kernel
theorem dX12_shelves_73 : decode cX12_shelves 73 = .ok (.iconst 0, 1) := by decide +kernel
theorem dX12_shelves_74 : decode cX12_shelves 74 = .ok (.istore 4, 2) := by decide +kernel
theorem dX12_shelves_76 : decode cX12_shelves 76 = .ok (.iconst 0, 1) := by decide +kernel
theorem dX12_shelves_77 : decode cX12_shelves 77 = .ok (.istore 5, 2) := by decide +kernel
theorem dX12_shelves_79 : decode cX12_shelves 79 = .ok (.iload 5, 2) := by decide +kernel
theorem dX12_shelves_81 : decode cX12_shelves 81 = .ok (.iconst 1, 1) := by decide +kernel
theorem dX12_shelves_82 : decode cX12_shelves 82 = .ok (.aload_n 0, 1) := by decide +kernel
theorem dX12_shelves_83 : decode cX12_shelves 83 = .ok (.invokevirtual 74, 3) := by decide +kernel
theorem dX12_shelves_86 : decode cX12_shelves 86 = .ok (.ishl, 1) := by decide +kernel
theorem dX12_shelves_87 : decode cX12_shelves 87 = .ok (.if_icmp .ge 59, 3) := by decide +kernel
theorem dX12_shelves_90 : decode cX12_shelves 90 = .ok (.aload_n 0, 1) := by decide +kernel
theorem dX12_shelves_91 : decode cX12_shelves 91 = .ok (.getfield 54, 3) := by decide +kernel
theorem dX12_shelves_94 : decode cX12_shelves 94 = .ok (.iload 5, 2) := by decide +kernel
theorem dX12_shelves_96 : decode cX12_shelves 96 = .ok (.iload 5, 2) := by decide +kernel
theorem dX12_shelves_98 : decode cX12_shelves 98 = .ok (.ifCond .ne 7, 3) := by decide +kernel
theorem dX12_shelves_101 : decode cX12_shelves 101 = .ok (.iconst 0, 1) := by decide +kernel
theorem dX12_shelves_102 : decode cX12_shelves 102 = .ok (.goto 10, 3) := by decide +kernel
theorem dX12_shelves_105 : decode cX12_shelves 105 = .ok (.aload_n 0, 1) := by decide +kernel
theorem dX12_shelves_106 : decode cX12_shelves 106 = .ok (.iload 5, 2) := by decide +kernel
theorem dX12_shelves_108 : decode cX12_shelves 108 = .ok (.iload_n 1, 1) := by decide +kernel
theorem dX12_shelves_109 : decode cX12_shelves 109 = .ok (.invokevirtual 426, 3) := by decide +kernel
theorem dX12_shelves_112 : decode cX12_shelves 112 = .ok (.iastore, 1) := by decide +kernel
theorem dX12_shelves_113 : decode cX12_shelves 113 = .ok (.aload_n 0, 1) := by decide +kernel
theorem dX12_shelves_114 : decode cX12_shelves 114 = .ok (.iload 5, 2) := by decide +kernel
theorem dX12_shelves_116 : decode cX12_shelves 116 = .ok (.invokevirtual 423, 3) := by decide +kernel
theorem dX12_shelves_119 : decode cX12_shelves 119 = .ok (.iload_n 1, 1) := by decide +kernel
theorem dX12_shelves_120 : decode cX12_shelves 120 = .ok (.if_icmp .gt 16, 3) := by decide +kernel
theorem dX12_shelves_123 : decode cX12_shelves 123 = .ok (.iload 4, 2) := by decide +kernel
theorem dX12_shelves_125 : decode cX12_shelves 125 = .ok (.iload 5, 2) := by decide +kernel
theorem dX12_shelves_127 : decode cX12_shelves 127 = .ok (.invokestatic 384, 3) := by decide +kernel
theorem dX12_shelves_130 : decode cX12_shelves 130 = .ok (.invokestatic 401, 3) := by decide +kernel
theorem dX12_shelves_133 : decode cX12_shelves 133 = .ok (.goto 5, 3) := by decide +kernel
theorem dX12_shelves_136 : decode cX12_shelves 136 = .ok (.iload 4, 2) := by decide +kernel
theorem dX12_shelves_138 : decode cX12_shelves 138 = .ok (.istore 4, 2) := by decide +kernel
theorem dX12_shelves_140 : decode cX12_shelves 140 = .ok (.iinc 5 1, 3) := by decide +kernel
theorem dX12_shelves_143 : decode cX12_shelves 143 = .ok (.goto (-64), 3) := by decide +kernel
theorem dX12_shelves_146 : decode cX12_shelves 146 = .ok (.aload_n 0, 1) := by decide +kernel
theorem dX12_shelves_147 : decode cX12_shelves 147 = .ok (.getfield 54, 3) := by decide +kernel
theorem dX12_shelves_150 : decode cX12_shelves 150 = .ok (.iconst 1, 1) := by decide +kernel
theorem dX12_shelves_151 : decode cX12_shelves 151 = .ok (.aload_n 0, 1) := by decide +kernel
theorem dX12_shelves_152 : decode cX12_shelves 152 = .ok (.invokevirtual 74, 3) := by decide +kernel
theorem dX12_shelves_155 : decode cX12_shelves 155 = .ok (.ishl, 1) := by decide +kernel
theorem dX12_shelves_156 : decode cX12_shelves 156 = .ok (.iconst 1, 1) := by decide +kernel
theorem dX12_shelves_157 : decode cX12_shelves 157 = .ok (.isub, 1) := by decide +kernel
theorem dX12_shelves_158 : decode cX12_shelves 158 = .ok (.iaload, 1) := by decide +kernel
theorem dX12_shelves_159 : decode cX12_shelves 159 = .ok (.istore 5, 2) := by decide +kernel
theorem dX12_shelves_161 : decode cX12_shelves 161 = .ok (.iload_n 3, 1) := by decide +kernel
theorem dX12_shelves_162 : decode cX12_shelves 162 = .ok (.ifCond .eq 8, 3) := by decide +kernel
theorem dX12_shelves_165 : decode cX12_shelves 165 = .ok (.iload 4, 2) := by decide +kernel
theorem dX12_shelves_167 : decode cX12_shelves 167 = .ok (.goto 17, 3) := by decide +kernel
theorem dX12_shelves_170 : decode cX12_shelves 170 = .ok (.iload 5, 2) := by decide +kernel
theorem dX12_shelves_172 : decode cX12_shelves 172 = .ok (.sipush 1000, 3) := by decide +kernel
theorem dX12_shelves_175 : decode cX12_shelves 175 = .ok (.if_icmp .lt 7, 3) := by decide +kernel
theorem dX12_shelves_178 : decode cX12_shelves 178 = .ok (.iconst (-1), 1) := by decide +kernel
theorem dX12_shelves_179 : decode cX12_shelves 179 = .ok (.goto 5, 3) := by decide +kernel
theorem dX12_shelves_182 : decode cX12_shelves 182 = .ok (.iload 5, 2) := by decide +kernel
theorem dX12_shelves_184 : decode cX12_shelves 184 = .ok (.ireturn, 1) := by decide +kernel
theorem dX12_tempers_0 : decode cX12_tempers 0 = .ok (.aload_n 0, 1) := by decide +kernel
theorem dX12_tempers_1 : decode cX12_tempers 1 = .ok (.iconst 0, 1) := by decide +kernel
theorem dX12_tempers_2 : decode cX12_tempers 2 = .ok (.putfield 3, 3) := by decide +kernel
theorem dX12_tempers_5 : decode cX12_tempers 5 = .ok (.aload_n 0, 1) := by decide +kernel
theorem dX12_tempers_6 : decode cX12_tempers 6 = .ok (.aload_n 0, 1) := by decide +kernel
theorem dX12_tempers_7 : decode cX12_tempers 7 = .ok (.iload_n 1, 1) := by decide +kernel
theorem dX12_tempers_8 : decode cX12_tempers 8 = .ok (.invokevirtual 82, 3) := by decide +kernel
theorem dX12_tempers_11 : decode cX12_tempers 11 = .ok (.ifCond .ne 15, 3) := by decide +kernel
theorem dX12_tempers_14 : decode cX12_tempers 14 = .ok (.iload_n 3, 1) := by decide +kernel
theorem dX12_tempers_15 : decode cX12_tempers 15 = .ok (.iconst (-1), 1) := by decide +kernel
theorem dX12_tempers_16 : decode cX12_tempers 16 = .ok (.if_icmp .eq 14, 3) := by decide +kernel
theorem dX12_tempers_19 : decode cX12_tempers 19 = .ok (.iload_n 3, 1) := by decide +kernel
theorem dX12_tempers_20 : decode cX12_tempers 20 = .ok (.invokestatic 327, 3) := by decide +kernel
theorem dX12_tempers_23 : decode cX12_tempers 23 = .ok (.ifCond .eq 7, 3) := by decide +kernel
theorem dX12_tempers_26 : decode cX12_tempers 26 = .ok (.iconst 1, 1) := by decide +kernel
theorem dX12_tempers_27 : decode cX12_tempers 27 = .ok (.goto 4, 3) := by decide +kernel
theorem dX12_tempers_30 : decode cX12_tempers 30 = .ok (.iconst 0, 1) := by decide +kernel
theorem dX12_tempers_31 : decode cX12_tempers 31 = .ok (.iconst 1, 1) := by decide +kernel
theorem dX12_tempers_32 : decode cX12_tempers 32 = .ok (.invokevirtual 254, 3) := by decide +kernel
theorem dX12_tempers_35 : decode cX12_tempers 35 = .ok (.ifCond .ne 15, 3) := by decide +kernel
theorem dX12_tempers_38 : decode cX12_tempers 38 = .ok (.aload_n 0, 1) := by decide +kernel
theorem dX12_tempers_39 : decode cX12_tempers 39 = .ok (.iload_n 2, 1) := by decide +kernel
theorem dX12_tempers_40 : decode cX12_tempers 40 = .ok (.invokestatic 356, 3) := by decide +kernel
theorem dX12_tempers_43 : decode cX12_tempers 43 = .ok (.iconst 2, 1) := by decide +kernel
theorem dX12_tempers_44 : decode cX12_tempers 44 = .ok (.invokevirtual 254, 3) := by decide +kernel
theorem dX12_tempers_47 : decode cX12_tempers 47 = .ok (.ifCond .eq 5, 3) := by decide +kernel
theorem dX12_tempers_50 : decode cX12_tempers 50 = .ok (.iconst 0, 1) := by decide +kernel
theorem dX12_tempers_51 : decode cX12_tempers 51 = .ok (.ireturn, 1) := by decide +kernel
theorem dX12_tempers_52 : decode cX12_tempers 52 = .ok (.iconst 0, 1) := by decide +kernel
theorem dX12_tempers_53 : decode cX12_tempers 53 = .ok (.istore 4, 2) := by decide +kernel
theorem dX12_tempers_55 : decode cX12_tempers 55 = .ok (.iload 4, 2) := by decide +kernel
theorem dX12_tempers_57 : decode cX12_tempers 57 = .ok (.bipush 12, 2) := by decide +kernel
theorem dX12_tempers_59 : decode cX12_tempers 59 = .ok (.if_icmp .ge 17, 3) := by decide +kernel
theorem dX12_tempers_62 : decode cX12_tempers 62 = .ok (.aload_n 0, 1) := by decide +kernel
theorem dX12_tempers_63 : decode cX12_tempers 63 = .ok (.getfield 57, 3) := by decide +kernel
theorem dX12_tempers_66 : decode cX12_tempers 66 = .ok (.iload 4, 2) := by decide +kernel
theorem dX12_tempers_68 : decode cX12_tempers 68 = .ok (.iconst 0, 1) := by decide +kernel
theorem dX12_tempers_69 : decode cX12_tempers 69 = .ok (.iastore, 1) := by decide +kernel
theorem dX12_tempers_70 : decode cX12_tempers 70 = .ok (.iinc 4 1, 3) := by decide +kernel
theorem dX12_tempers_73 : decode cX12_tempers 73 = .ok (.goto (-18), 3) := by decide +kernel
theorem dX12_tempers_76 : decode cX12_tempers 76 = .ok (.iconst 0, 1) := by decide +kernel
theorem dX12_tempers_77 : decode cX12_tempers 77 = .ok (.istore 4, 2) := by decide +kernel
theorem dX12_tempers_79 : decode cX12_tempers 79 = .ok (.iload 4, 2) := by decide +kernel
theorem dX12_tempers_81 : decode cX12_tempers 81 = .ok (.bipush 10, 2) := by decide +kernel
theorem dX12_tempers_83 : decode cX12_tempers 83 = .ok (.if_icmp .ge 38, 3) := by decide +kernel
theorem dX12_tempers_86 : decode cX12_tempers 86 = .ok (.aload_n 0, 1) := by decide +kernel
theorem dX12_tempers_87 : decode cX12_tempers 87 = .ok (.iload_n 1, 1) := by decide +kernel
theorem dX12_tempers_88 : decode cX12_tempers 88 = .ok (.invokevirtual 311, 3) := by decide +kernel
theorem dX12_tempers_91 : decode cX12_tempers 91 = .ok (.aload_n 0, 1) := by decide +kernel
theorem dX12_tempers_92 : decode cX12_tempers 92 = .ok (.iload 4, 2) := by decide +kernel
theorem dX12_tempers_94 : decode cX12_tempers 94 = .ok (.putfield 260, 3) := by decide +kernel
theorem dX12_tempers_97 : decode cX12_tempers 97 = .ok (.aload_n 0, 1) := by decide +kernel
theorem dX12_tempers_98 : decode cX12_tempers 98 = .ok (.iload_n 2, 1) := by decide +kernel
theorem dX12_tempers_99 : decode cX12_tempers 99 = .ok (.invokevirtual 315, 3) := by decide +kernel
theorem dX12_tempers_102 : decode cX12_tempers 102 = .ok (.aload_n 0, 1) := by decide +kernel
theorem dX12_tempers_103 : decode cX12_tempers 103 = .ok (.getfield 57, 3) := by decide +kernel
theorem dX12_tempers_106 : decode cX12_tempers 106 = .ok (.aload_n 0, 1) := by decide +kernel
theorem dX12_tempers_107 : decode cX12_tempers 107 = .ok (.invokevirtual 321, 3) := by decide +kernel
theorem dX12_tempers_110 : decode cX12_tempers 110 = .ok (.dup2, 1) := by decide +kernel
theorem dX12_tempers_111 : decode cX12_tempers 111 = .ok (.iaload, 1) := by decide +kernel
theorem dX12_tempers_112 : decode cX12_tempers 112 = .ok (.iconst 1, 1) := by decide +kernel
theorem dX12_tempers_113 : decode cX12_tempers 113 = .ok (.iadd, 1) := by decide +kernel
theorem dX12_tempers_114 : decode cX12_tempers 114 = .ok (.iastore, 1) := by decide +kernel
theorem dX12_tempers_115 : decode cX12_tempers 115 = .ok (.iinc 4 1, 3) := by decide +kernel
theorem dX12_tempers_118 : decode cX12_tempers 118 = .ok (.goto (-39), 3) := by decide +kernel
theorem dX12_tempers_121 : decode cX12_tempers 121 = .ok (.iload_n 3, 1) := by decide +kernel
theorem dX12_tempers_122 : decode cX12_tempers 122 = .ok (.iconst (-1), 1) := by decide +kernel
theorem dX12_tempers_123 : decode cX12_tempers 123 = .ok (.if_icmp .eq 10, 3) := by decide +kernel
theorem dX12_tempers_126 : decode cX12_tempers 126 = .ok (.aload_n 0, 1) := by decide +kernel
theorem dX12_tempers_127 : decode cX12_tempers 127 = .ok (.getfield 57, 3) := by decide +kernel
theorem dX12_tempers_130 : decode cX12_tempers 130 = .ok (.iload_n 3, 1) := by decide +kernel
theorem dX12_tempers_131 : decode cX12_tempers 131 = .ok (.iaload, 1) := by decide +kernel
theorem dX12_tempers_132 : decode cX12_tempers 132 = .ok (.ireturn, 1) := by decide +kernel
theorem dX12_tempers_133 : decode cX12_tempers 133 = .ok (.iconst 0, 1) := by decide +kernel
theorem dX12_tempers_134 : decode cX12_tempers 134 = .ok (.istore 4, 2) := by decide +kernel
theorem dX12_tempers_136 : decode cX12_tempers 136 = .ok (.iconst 1, 1) := by decide +kernel
theorem dX12_tempers_137 : decode cX12_tempers 137 = .ok (.istore 5, 2) := by decide +kernel
theorem dX12_tempers_139 : decode cX12_tempers 139 = .ok (.iload 5, 2) := by decide +kernel
theorem dX12_tempers_141 : decode cX12_tempers 141 = .ok (.bipush 12, 2) := by decide +kernel
theorem dX12_tempers_143 : decode cX12_tempers 143 = .ok (.if_icmp .ge 35, 3) := by decide +kernel
theorem dX12_tempers_146 : decode cX12_tempers 146 = .ok (.aload_n 0, 1) := by decide +kernel
theorem dX12_tempers_147 : decode cX12_tempers 147 = .ok (.getfield 57, 3) := by decide +kernel
theorem dX12_tempers_150 : decode cX12_tempers 150 = .ok (.iload 5, 2) := by decide +kernel
theorem dX12_tempers_152 : decode cX12_tempers 152 = .ok (.iaload, 1) := by decide +kernel
theorem dX12_tempers_153 : decode cX12_tempers 153 = .ok (.aload_n 0, 1) := by decide +kernel
theorem dX12_tempers_154 : decode cX12_tempers 154 = .ok (.getfield 57, 3) := by decide +kernel
theorem dX12_tempers_157 : decode cX12_tempers 157 = .ok (.iload 4, 2) := by decide +kernel
theorem dX12_tempers_159 : decode cX12_tempers 159 = .ok (.iaload, 1) := by decide +kernel
theorem dX12_tempers_160 : decode cX12_tempers 160 = .ok (.if_icmp .le 8, 3) := by decide +kernel
theorem dX12_tempers_163 : decode cX12_tempers 163 = .ok (.iload 5, 2) := by decide +kernel
theorem dX12_tempers_165 : decode cX12_tempers 165 = .ok (.goto 5, 3) := by decide +kernel
theorem dX12_tempers_168 : decode cX12_tempers 168 = .ok (.iload 4, 2) := by decide +kernel
theorem dX12_tempers_170 : decode cX12_tempers 170 = .ok (.istore 4, 2) := by decide +kernel
theorem dX12_tempers_172 : decode cX12_tempers 172 = .ok (.iinc 5 1, 3) := by decide +kernel
theorem dX12_tempers_175 : decode cX12_tempers 175 = .ok (.goto (-36), 3) := by decide +kernel
theorem dX12_tempers_178 : decode cX12_tempers 178 = .ok (.iload 4, 2) := by decide +kernel
theorem dX12_tempers_180 : decode cX12_tempers 180 = .ok (.ireturn, 1) := by decide +kernel
theorem dX12_allLines_0 : decode cX12_allLines 0 = .ok (.iconst 0, 1) := by decide +kernel
theorem dX12_allLines_1 : decode cX12_allLines 1 = .ok (.istore_n 1, 1) := by decide +kernel
theorem dX12_allLines_2 : decode cX12_allLines 2 = .ok (.iconst 0, 1) := by decide +kernel
theorem dX12_allLines_3 : decode cX12_allLines 3 = .ok (.istore_n 2, 1) := by decide +kernel
theorem dX12_allLines_4 : decode cX12_allLines 4 = .ok (.iload_n 2, 1) := by decide +kernel
theorem dX12_allLines_5 : decode cX12_allLines 5 = .ok (.aload_n 0, 1) := by decide +kernel
theorem dX12_allLines_6 : decode cX12_allLines 6 = .ok (.invokevirtual 74, 3) := by decide +kernel
theorem dX12_allLines_9 : decode cX12_allLines 9 = .ok (.if_icmp .ge 17, 3) := by decide +kernel
theorem dX12_allLines_12 : decode cX12_allLines 12 = .ok (.iload_n 1, 1) := by decide +kernel
theorem dX12_allLines_13 : decode cX12_allLines 13 = .ok (.aload_n 0, 1) := by decide +kernel
theorem dX12_allLines_14 : decode cX12_allLines 14 = .ok (.iload_n 2, 1) := by decide +kernel
theorem dX12_allLines_15 : decode cX12_allLines 15 = .ok (.invokevirtual 86, 3) := by decide +kernel
theorem dX12_allLines_18 : decode cX12_allLines 18 = .ok (.iadd, 1) := by decide +kernel
theorem dX12_allLines_19 : decode cX12_allLines 19 = .ok (.istore_n 1, 1) := by decide +kernel
theorem dX12_allLines_20 : decode cX12_allLines 20 = .ok (.iinc 2 1, 3) := by decide +kernel
theorem dX12_allLines_23 : decode cX12_allLines 23 = .ok (.goto (-19), 3) := by decide +kernel
theorem dX12_allLines_26 : decode cX12_allLines 26 = .ok (.iload_n 1, 1) := by decide +kernel
theorem dX12_allLines_27 : decode cX12_allLines 27 = .ok (.ireturn, 1) := by decide +kernel
theorem dX12_keepsAll_0 : decode cX12_keepsAll 0 = .ok (.iconst 0, 1) := by decide +kernel
theorem dX12_keepsAll_1 : decode cX12_keepsAll 1 = .ok (.istore_n 1, 1) := by decide +kernel
theorem dX12_keepsAll_2 : decode cX12_keepsAll 2 = .ok (.iload_n 1, 1) := by decide +kernel
theorem dX12_keepsAll_3 : decode cX12_keepsAll 3 = .ok (.sipush 460, 3) := by decide +kernel
theorem dX12_keepsAll_6 : decode cX12_keepsAll 6 = .ok (.if_icmp .ge 21, 3) := by decide +kernel
theorem dX12_keepsAll_9 : decode cX12_keepsAll 9 = .ok (.aload_n 0, 1) := by decide +kernel
theorem dX12_keepsAll_10 : decode cX12_keepsAll 10 = .ok (.getfield 23, 3) := by decide +kernel
theorem dX12_keepsAll_13 : decode cX12_keepsAll 13 = .ok (.iload_n 1, 1) := by decide +kernel
theorem dX12_keepsAll_14 : decode cX12_keepsAll 14 = .ok (.aload_n 0, 1) := by decide +kernel
theorem dX12_keepsAll_15 : decode cX12_keepsAll 15 = .ok (.getfield 13, 3) := by decide +kernel
theorem dX12_keepsAll_18 : decode cX12_keepsAll 18 = .ok (.iload_n 1, 1) := by decide +kernel
theorem dX12_keepsAll_19 : decode cX12_keepsAll 19 = .ok (.iaload, 1) := by decide +kernel
theorem dX12_keepsAll_20 : decode cX12_keepsAll 20 = .ok (.iastore, 1) := by decide +kernel
theorem dX12_keepsAll_21 : decode cX12_keepsAll 21 = .ok (.iinc 1 1, 3) := by decide +kernel
theorem dX12_keepsAll_24 : decode cX12_keepsAll 24 = .ok (.goto (-22), 3) := by decide +kernel
theorem dX12_keepsAll_27 : decode cX12_keepsAll 27 = .ok (.return_, 1) := by decide +kernel
theorem dX12_bringsBack_0 : decode cX12_bringsBack 0 = .ok (.iconst 0, 1) := by decide +kernel
theorem dX12_bringsBack_1 : decode cX12_bringsBack 1 = .ok (.istore_n 1, 1) := by decide +kernel
theorem dX12_bringsBack_2 : decode cX12_bringsBack 2 = .ok (.iload_n 1, 1) := by decide +kernel
theorem dX12_bringsBack_3 : decode cX12_bringsBack 3 = .ok (.sipush 460, 3) := by decide +kernel
theorem dX12_bringsBack_6 : decode cX12_bringsBack 6 = .ok (.if_icmp .ge 21, 3) := by decide +kernel
theorem dX12_bringsBack_9 : decode cX12_bringsBack 9 = .ok (.aload_n 0, 1) := by decide +kernel
theorem dX12_bringsBack_10 : decode cX12_bringsBack 10 = .ok (.getfield 13, 3) := by decide +kernel
theorem dX12_bringsBack_13 : decode cX12_bringsBack 13 = .ok (.iload_n 1, 1) := by decide +kernel
theorem dX12_bringsBack_14 : decode cX12_bringsBack 14 = .ok (.aload_n 0, 1) := by decide +kernel
theorem dX12_bringsBack_15 : decode cX12_bringsBack 15 = .ok (.getfield 23, 3) := by decide +kernel
theorem dX12_bringsBack_18 : decode cX12_bringsBack 18 = .ok (.iload_n 1, 1) := by decide +kernel
theorem dX12_bringsBack_19 : decode cX12_bringsBack 19 = .ok (.iaload, 1) := by decide +kernel
theorem dX12_bringsBack_20 : decode cX12_bringsBack 20 = .ok (.iastore, 1) := by decide +kernel
theorem dX12_bringsBack_21 : decode cX12_bringsBack 21 = .ok (.iinc 1 1, 3) := by decide +kernel
theorem dX12_bringsBack_24 : decode cX12_bringsBack 24 = .ok (.goto (-22), 3) := by decide +kernel
theorem dX12_bringsBack_27 : decode cX12_bringsBack 27 = .ok (.return_, 1) := by decide +kernel
theorem dX12_trial_0 : decode cX12_trial 0 = .ok (.aload_n 0, 1) := by decide +kernel
theorem dX12_trial_1 : decode cX12_trial 1 = .ok (.iconst 0, 1) := by decide +kernel
theorem dX12_trial_2 : decode cX12_trial 2 = .ok (.putfield 3, 3) := by decide +kernel
theorem dX12_trial_5 : decode cX12_trial 5 = .ok (.aload_n 0, 1) := by decide +kernel
theorem dX12_trial_6 : decode cX12_trial 6 = .ok (.iload_n 2, 1) := by decide +kernel
theorem dX12_trial_7 : decode cX12_trial 7 = .ok (.iconst (-1), 1) := by decide +kernel
theorem dX12_trial_8 : decode cX12_trial 8 = .ok (.if_icmp .eq 15, 3) := by decide +kernel
theorem dX12_trial_11 : decode cX12_trial 11 = .ok (.aload_n 0, 1) := by decide +kernel
theorem dX12_trial_12 : decode cX12_trial 12 = .ok (.iload_n 2, 1) := by decide +kernel
theorem dX12_trial_13 : decode cX12_trial 13 = .ok (.invokevirtual 82, 3) := by decide +kernel
theorem dX12_trial_16 : decode cX12_trial 16 = .ok (.ifCond .eq 7, 3) := by decide +kernel
theorem dX12_trial_19 : decode cX12_trial 19 = .ok (.iconst 1, 1) := by decide +kernel
theorem dX12_trial_20 : decode cX12_trial 20 = .ok (.goto 4, 3) := by decide +kernel
theorem dX12_trial_23 : decode cX12_trial 23 = .ok (.iconst 0, 1) := by decide +kernel
theorem dX12_trial_24 : decode cX12_trial 24 = .ok (.iconst 1, 1) := by decide +kernel
theorem dX12_trial_25 : decode cX12_trial 25 = .ok (.invokevirtual 254, 3) := by decide +kernel
theorem dX12_trial_28 : decode cX12_trial 28 = .ok (.ifCond .ne 15, 3) := by decide +kernel
theorem dX12_trial_31 : decode cX12_trial 31 = .ok (.aload_n 0, 1) := by decide +kernel
theorem dX12_trial_32 : decode cX12_trial 32 = .ok (.iload_n 1, 1) := by decide +kernel
theorem dX12_trial_33 : decode cX12_trial 33 = .ok (.invokestatic 356, 3) := by decide +kernel
theorem dX12_trial_36 : decode cX12_trial 36 = .ok (.iconst 2, 1) := by decide +kernel
theorem dX12_trial_37 : decode cX12_trial 37 = .ok (.invokevirtual 254, 3) := by decide +kernel
theorem dX12_trial_40 : decode cX12_trial 40 = .ok (.ifCond .eq 5, 3) := by decide +kernel
theorem dX12_trial_43 : decode cX12_trial 43 = .ok (.iconst 0, 1) := by decide +kernel
theorem dX12_trial_44 : decode cX12_trial 44 = .ok (.ireturn, 1) := by decide +kernel
theorem dX12_trial_45 : decode cX12_trial 45 = .ok (.aload_n 0, 1) := by decide +kernel
theorem dX12_trial_46 : decode cX12_trial 46 = .ok (.invokevirtual 429, 3) := by decide +kernel
theorem dX12_trial_49 : decode cX12_trial 49 = .ok (.iconst 0, 1) := by decide +kernel
theorem dX12_trial_50 : decode cX12_trial 50 = .ok (.istore_n 3, 1) := by decide +kernel
theorem dX12_trial_51 : decode cX12_trial 51 = .ok (.iload_n 3, 1) := by decide +kernel
theorem dX12_trial_52 : decode cX12_trial 52 = .ok (.iload_n 1, 1) := by decide +kernel
theorem dX12_trial_53 : decode cX12_trial 53 = .ok (.if_icmp .ge 14, 3) := by decide +kernel
theorem dX12_trial_56 : decode cX12_trial 56 = .ok (.aload_n 0, 1) := by decide +kernel
theorem dX12_trial_57 : decode cX12_trial 57 = .ok (.invokevirtual 353, 3) := by decide +kernel
theorem dX12_trial_60 : decode cX12_trial 60 = .ok (.pop, 1) := by decide +kernel
theorem dX12_trial_61 : decode cX12_trial 61 = .ok (.iinc 3 1, 3) := by decide +kernel
theorem dX12_trial_64 : decode cX12_trial 64 = .ok (.goto (-13), 3) := by decide +kernel
theorem dX12_trial_67 : decode cX12_trial 67 = .ok (.iload_n 2, 1) := by decide +kernel
theorem dX12_trial_68 : decode cX12_trial 68 = .ok (.iconst (-1), 1) := by decide +kernel
theorem dX12_trial_69 : decode cX12_trial 69 = .ok (.if_icmp .ne 10, 3) := by decide +kernel
theorem dX12_trial_72 : decode cX12_trial 72 = .ok (.aload_n 0, 1) := by decide +kernel
theorem dX12_trial_73 : decode cX12_trial 73 = .ok (.invokevirtual 432, 3) := by decide +kernel
theorem dX12_trial_76 : decode cX12_trial 76 = .ok (.goto 15, 3) := by decide +kernel
theorem dX12_trial_79 : decode cX12_trial 79 = .ok (.aload_n 0, 1) := by decide +kernel
theorem dX12_trial_80 : decode cX12_trial 80 = .ok (.iload_n 2, 1) := by decide +kernel
theorem dX12_trial_81 : decode cX12_trial 81 = .ok (.aload_n 0, 1) := by decide +kernel
theorem dX12_trial_82 : decode cX12_trial 82 = .ok (.iload_n 2, 1) := by decide +kernel
theorem dX12_trial_83 : decode cX12_trial 83 = .ok (.invokevirtual 86, 3) := by decide +kernel
theorem dX12_trial_86 : decode cX12_trial 86 = .ok (.iconst 1, 1) := by decide +kernel
theorem dX12_trial_87 : decode cX12_trial 87 = .ok (.isub, 1) := by decide +kernel
theorem dX12_trial_88 : decode cX12_trial 88 = .ok (.invokevirtual 286, 3) := by decide +kernel
theorem dX12_trial_91 : decode cX12_trial 91 = .ok (.istore_n 3, 1) := by decide +kernel
theorem dX12_trial_92 : decode cX12_trial 92 = .ok (.aload_n 0, 1) := by decide +kernel
theorem dX12_trial_93 : decode cX12_trial 93 = .ok (.invokevirtual 435, 3) := by decide +kernel
theorem dX12_trial_96 : decode cX12_trial 96 = .ok (.iload_n 3, 1) := by decide +kernel
theorem dX12_trial_97 : decode cX12_trial 97 = .ok (.ireturn, 1) := by decide +kernel
theorem dX12_span_0 : decode cX12_span 0 = .ok (.aload_n 0, 1) := by decide +kernel
theorem dX12_span_1 : decode cX12_span 1 = .ok (.iconst 0, 1) := by decide +kernel
theorem dX12_span_2 : decode cX12_span 2 = .ok (.putfield 3, 3) := by decide +kernel
theorem dX12_span_5 : decode cX12_span 5 = .ok (.aload_n 0, 1) := by decide +kernel
theorem dX12_span_6 : decode cX12_span 6 = .ok (.iload_n 1, 1) := by decide +kernel
theorem dX12_span_7 : decode cX12_span 7 = .ok (.invokestatic 356, 3) := by decide +kernel
theorem dX12_span_10 : decode cX12_span 10 = .ok (.iconst 1, 1) := by decide +kernel
theorem dX12_span_11 : decode cX12_span 11 = .ok (.invokevirtual 254, 3) := by decide +kernel
theorem dX12_span_14 : decode cX12_span 14 = .ok (.ifCond .eq 5, 3) := by decide +kernel
theorem dX12_span_17 : decode cX12_span 17 = .ok (.iconst 0, 1) := by decide +kernel
theorem dX12_span_18 : decode cX12_span 18 = .ok (.ireturn, 1) := by decide +kernel
theorem dX12_span_19 : decode cX12_span 19 = .ok (.aload_n 0, 1) := by decide +kernel
theorem dX12_span_20 : decode cX12_span 20 = .ok (.invokevirtual 429, 3) := by decide +kernel
theorem dX12_span_23 : decode cX12_span 23 = .ok (.iconst (-1), 1) := by decide +kernel
theorem dX12_span_24 : decode cX12_span 24 = .ok (.istore_n 3, 1) := by decide +kernel
theorem dX12_span_25 : decode cX12_span 25 = .ok (.iconst 1, 1) := by decide +kernel
theorem dX12_span_26 : decode cX12_span 26 = .ok (.istore 4, 2) := by decide +kernel
theorem dX12_span_28 : decode cX12_span 28 = .ok (.iload 4, 2) := by decide +kernel
theorem dX12_span_30 : decode cX12_span 30 = .ok (.bipush 6, 2) := by decide +kernel
theorem dX12_span_32 : decode cX12_span 32 = .ok (.if_icmp .gt 77, 3) := by decide +kernel
theorem dX12_span_35 : decode cX12_span 35 = .ok (.aload_n 0, 1) := by decide +kernel
theorem dX12_span_36 : decode cX12_span 36 = .ok (.getfield 13, 3) := by decide +kernel
theorem dX12_span_39 : decode cX12_span 39 = .ok (.bipush 7, 2) := by decide +kernel
theorem dX12_span_41 : decode cX12_span 41 = .ok (.iload 4, 2) := by decide +kernel
theorem dX12_span_43 : decode cX12_span 43 = .ok (.iastore, 1) := by decide +kernel
theorem dX12_span_44 : decode cX12_span 44 = .ok (.iconst 0, 1) := by decide +kernel
theorem dX12_span_45 : decode cX12_span 45 = .ok (.istore 5, 2) := by decide +kernel
theorem dX12_span_47 : decode cX12_span 47 = .ok (.iload 5, 2) := by decide +kernel
theorem dX12_span_49 : decode cX12_span 49 = .ok (.iload_n 1, 1) := by decide +kernel
theorem dX12_span_50 : decode cX12_span 50 = .ok (.if_icmp .ge 14, 3) := by decide +kernel
theorem dX12_span_53 : decode cX12_span 53 = .ok (.aload_n 0, 1) := by decide +kernel
theorem dX12_span_54 : decode cX12_span 54 = .ok (.invokevirtual 353, 3) := by decide +kernel
theorem dX12_span_57 : decode cX12_span 57 = .ok (.pop, 1) := by decide +kernel
theorem dX12_span_58 : decode cX12_span 58 = .ok (.iinc 5 1, 3) := by decide +kernel
theorem dX12_span_61 : decode cX12_span 61 = .ok (.goto (-14), 3) := by decide +kernel
theorem dX12_span_64 : decode cX12_span 64 = .ok (.aload_n 0, 1) := by decide +kernel
theorem dX12_span_65 : decode cX12_span 65 = .ok (.invokevirtual 432, 3) := by decide +kernel
theorem dX12_span_68 : decode cX12_span 68 = .ok (.istore 5, 2) := by decide +kernel
theorem dX12_span_70 : decode cX12_span 70 = .ok (.aload_n 0, 1) := by decide +kernel
theorem dX12_span_71 : decode cX12_span 71 = .ok (.invokevirtual 435, 3) := by decide +kernel
theorem dX12_span_74 : decode cX12_span 74 = .ok (.iload_n 3, 1) := by decide +kernel
theorem dX12_span_75 : decode cX12_span 75 = .ok (.ifCond .ge 8, 3) := by decide +kernel
theorem dX12_span_78 : decode cX12_span 78 = .ok (.iload 5, 2) := by decide +kernel
theorem dX12_span_80 : decode cX12_span 80 = .ok (.goto 22, 3) := by decide +kernel
theorem dX12_span_83 : decode cX12_span 83 = .ok (.iload_n 2, 1) := by decide +kernel
theorem dX12_span_84 : decode cX12_span 84 = .ok (.ifCond .eq 12, 3) := by decide +kernel
theorem dX12_span_87 : decode cX12_span 87 = .ok (.iload_n 3, 1) := by decide +kernel
theorem dX12_span_88 : decode cX12_span 88 = .ok (.iload 5, 2) := by decide +kernel
theorem dX12_span_90 : decode cX12_span 90 = .ok (.invokestatic 401, 3) := by decide +kernel
theorem dX12_span_93 : decode cX12_span 93 = .ok (.goto 9, 3) := by decide +kernel
theorem dX12_span_96 : decode cX12_span 96 = .ok (.iload_n 3, 1) := by decide +kernel
theorem dX12_span_97 : decode cX12_span 97 = .ok (.iload 5, 2) := by decide +kernel
theorem dX12_span_99 : decode cX12_span 99 = .ok (.invokestatic 303, 3) := by decide +kernel
theorem dX12_span_102 : decode cX12_span 102 = .ok (.istore_n 3, 1) := by decide +kernel
theorem dX12_span_103 : decode cX12_span 103 = .ok (.iinc 4 1, 3) := by decide +kernel
theorem dX12_span_106 : decode cX12_span 106 = .ok (.goto (-78), 3) := by decide +kernel
theorem dX12_span_109 : decode cX12_span 109 = .ok (.iload_n 3, 1) := by decide +kernel
theorem dX12_span_110 : decode cX12_span 110 = .ok (.ireturn, 1) := by decide +kernel
theorem dX12_cameIn_0 : decode cX12_cameIn 0 = .ok (.iconst 0, 1) := by decide +kernel
theorem dX12_cameIn_1 : decode cX12_cameIn 1 = .ok (.istore_n 3, 1) := by decide +kernel
theorem dX12_cameIn_2 : decode cX12_cameIn 2 = .ok (.iconst 0, 1) := by decide +kernel
theorem dX12_cameIn_3 : decode cX12_cameIn 3 = .ok (.istore 4, 2) := by decide +kernel
theorem dX12_cameIn_5 : decode cX12_cameIn 5 = .ok (.iload 4, 2) := by decide +kernel
theorem dX12_cameIn_7 : decode cX12_cameIn 7 = .ok (.aload_n 0, 1) := by decide +kernel
theorem dX12_cameIn_8 : decode cX12_cameIn 8 = .ok (.iload_n 1, 1) := by decide +kernel
theorem dX12_cameIn_9 : decode cX12_cameIn 9 = .ok (.invokevirtual 86, 3) := by decide +kernel
theorem dX12_cameIn_12 : decode cX12_cameIn 12 = .ok (.if_icmp .ge 31, 3) := by decide +kernel
theorem dX12_cameIn_15 : decode cX12_cameIn 15 = .ok (.iload_n 3, 1) := by decide +kernel
theorem dX12_cameIn_16 : decode cX12_cameIn 16 = .ok (.aload_n 0, 1) := by decide +kernel
theorem dX12_cameIn_17 : decode cX12_cameIn 17 = .ok (.iload_n 1, 1) := by decide +kernel
theorem dX12_cameIn_18 : decode cX12_cameIn 18 = .ok (.bipush 29, 2) := by decide +kernel
theorem dX12_cameIn_20 : decode cX12_cameIn 20 = .ok (.iload 4, 2) := by decide +kernel
theorem dX12_cameIn_22 : decode cX12_cameIn 22 = .ok (.iadd, 1) := by decide +kernel
theorem dX12_cameIn_23 : decode cX12_cameIn 23 = .ok (.invokevirtual 71, 3) := by decide +kernel
theorem dX12_cameIn_26 : decode cX12_cameIn 26 = .ok (.iload_n 2, 1) := by decide +kernel
theorem dX12_cameIn_27 : decode cX12_cameIn 27 = .ok (.if_icmp .ne 7, 3) := by decide +kernel
theorem dX12_cameIn_30 : decode cX12_cameIn 30 = .ok (.iconst 1, 1) := by decide +kernel
theorem dX12_cameIn_31 : decode cX12_cameIn 31 = .ok (.goto 4, 3) := by decide +kernel
theorem dX12_cameIn_34 : decode cX12_cameIn 34 = .ok (.iconst 0, 1) := by decide +kernel
theorem dX12_cameIn_35 : decode cX12_cameIn 35 = .ok (.iadd, 1) := by decide +kernel
theorem dX12_cameIn_36 : decode cX12_cameIn 36 = .ok (.istore_n 3, 1) := by decide +kernel
theorem dX12_cameIn_37 : decode cX12_cameIn 37 = .ok (.iinc 4 1, 3) := by decide +kernel
theorem dX12_cameIn_40 : decode cX12_cameIn 40 = .ok (.goto (-35), 3) := by decide +kernel
theorem dX12_cameIn_43 : decode cX12_cameIn 43 = .ok (.iload_n 3, 1) := by decide +kernel
theorem dX12_cameIn_44 : decode cX12_cameIn 44 = .ok (.ireturn, 1) := by decide +kernel
theorem dX12_latest_0 : decode cX12_latest 0 = .ok (.aload_n 0, 1) := by decide +kernel
theorem dX12_latest_1 : decode cX12_latest 1 = .ok (.iconst 0, 1) := by decide +kernel
theorem dX12_latest_2 : decode cX12_latest 2 = .ok (.putfield 3, 3) := by decide +kernel
theorem dX12_latest_5 : decode cX12_latest 5 = .ok (.iconst (-1), 1) := by decide +kernel
theorem dX12_latest_6 : decode cX12_latest 6 = .ok (.istore_n 2, 1) := by decide +kernel
theorem dX12_latest_7 : decode cX12_latest 7 = .ok (.iconst 0, 1) := by decide +kernel
theorem dX12_latest_8 : decode cX12_latest 8 = .ok (.istore_n 3, 1) := by decide +kernel
theorem dX12_latest_9 : decode cX12_latest 9 = .ok (.iload_n 3, 1) := by decide +kernel
theorem dX12_latest_10 : decode cX12_latest 10 = .ok (.aload_n 0, 1) := by decide +kernel
theorem dX12_latest_11 : decode cX12_latest 11 = .ok (.invokevirtual 74, 3) := by decide +kernel
theorem dX12_latest_14 : decode cX12_latest 14 = .ok (.if_icmp .ge 39, 3) := by decide +kernel
theorem dX12_latest_17 : decode cX12_latest 17 = .ok (.aload_n 0, 1) := by decide +kernel
theorem dX12_latest_18 : decode cX12_latest 18 = .ok (.iload_n 3, 1) := by decide +kernel
theorem dX12_latest_19 : decode cX12_latest 19 = .ok (.iload_n 1, 1) := by decide +kernel
theorem dX12_latest_20 : decode cX12_latest 20 = .ok (.invokevirtual 438, 3) := by decide +kernel
theorem dX12_latest_23 : decode cX12_latest 23 = .ok (.ifCond .le 24, 3) := by decide +kernel
theorem dX12_latest_26 : decode cX12_latest 26 = .ok (.iload_n 2, 1) := by decide +kernel
theorem dX12_latest_27 : decode cX12_latest 27 = .ok (.ifCond .lt 18, 3) := by decide +kernel
theorem dX12_latest_30 : decode cX12_latest 30 = .ok (.aload_n 0, 1) := by decide +kernel
theorem dX12_latest_31 : decode cX12_latest 31 = .ok (.iload_n 3, 1) := by decide +kernel
theorem dX12_latest_32 : decode cX12_latest 32 = .ok (.iload_n 1, 1) := by decide +kernel
theorem dX12_latest_33 : decode cX12_latest 33 = .ok (.invokevirtual 438, 3) := by decide +kernel
theorem dX12_latest_36 : decode cX12_latest 36 = .ok (.aload_n 0, 1) := by decide +kernel
theorem dX12_latest_37 : decode cX12_latest 37 = .ok (.iload_n 2, 1) := by decide +kernel
theorem dX12_latest_38 : decode cX12_latest 38 = .ok (.iload_n 1, 1) := by decide +kernel
theorem dX12_latest_39 : decode cX12_latest 39 = .ok (.invokevirtual 438, 3) := by decide +kernel
theorem dX12_latest_42 : decode cX12_latest 42 = .ok (.if_icmp .le 5, 3) := by decide +kernel
theorem dX12_latest_45 : decode cX12_latest 45 = .ok (.iload_n 3, 1) := by decide +kernel
theorem dX12_latest_46 : decode cX12_latest 46 = .ok (.istore_n 2, 1) := by decide +kernel
theorem dX12_latest_47 : decode cX12_latest 47 = .ok (.iinc 3 1, 3) := by decide +kernel
theorem dX12_latest_50 : decode cX12_latest 50 = .ok (.goto (-41), 3) := by decide +kernel
theorem dX12_latest_53 : decode cX12_latest 53 = .ok (.iload_n 2, 1) := by decide +kernel
theorem dX12_latest_54 : decode cX12_latest 54 = .ok (.ireturn, 1) := by decide +kernel
theorem dX12_seed_0 : decode cX12_seed 0 = .ok (.aload_n 0, 1) := by decide +kernel
theorem dX12_seed_1 : decode cX12_seed 1 = .ok (.iconst 0, 1) := by decide +kernel
theorem dX12_seed_2 : decode cX12_seed 2 = .ok (.putfield 3, 3) := by decide +kernel
theorem dX12_seed_5 : decode cX12_seed 5 = .ok (.aload_n 0, 1) := by decide +kernel
theorem dX12_seed_6 : decode cX12_seed 6 = .ok (.getfield 13, 3) := by decide +kernel
theorem dX12_seed_9 : decode cX12_seed 9 = .ok (.bipush 7, 2) := by decide +kernel
theorem dX12_seed_11 : decode cX12_seed 11 = .ok (.iaload, 1) := by decide +kernel
theorem dX12_seed_12 : decode cX12_seed 12 = .ok (.istore_n 2, 1) := by decide +kernel
theorem dX12_seed_13 : decode cX12_seed 13 = .ok (.aload_n 0, 1) := by decide +kernel
theorem dX12_seed_14 : decode cX12_seed 14 = .ok (.getfield 13, 3) := by decide +kernel
theorem dX12_seed_17 : decode cX12_seed 17 = .ok (.bipush 7, 2) := by decide +kernel
theorem dX12_seed_19 : decode cX12_seed 19 = .ok (.iload_n 1, 1) := by decide +kernel
theorem dX12_seed_20 : decode cX12_seed 20 = .ok (.iastore, 1) := by decide +kernel
theorem dX12_seed_21 : decode cX12_seed 21 = .ok (.iload_n 2, 1) := by decide +kernel
theorem dX12_seed_22 : decode cX12_seed 22 = .ok (.ireturn, 1) := by decide +kernel
theorem dX12_those_0 : decode cX12_those 0 = .ok (.iconst 0, 1) := by decide +kernel
theorem dX12_those_1 : decode cX12_those 1 = .ok (.istore_n 2, 1) := by decide +kernel
theorem dX12_those_2 : decode cX12_those 2 = .ok (.iconst 0, 1) := by decide +kernel
theorem dX12_those_3 : decode cX12_those 3 = .ok (.istore_n 3, 1) := by decide +kernel
theorem dX12_those_4 : decode cX12_those 4 = .ok (.iload_n 3, 1) := by decide +kernel
theorem dX12_those_5 : decode cX12_those 5 = .ok (.aload_n 0, 1) := by decide +kernel
theorem dX12_those_6 : decode cX12_those 6 = .ok (.invokevirtual 74, 3) := by decide +kernel
theorem dX12_those_9 : decode cX12_those 9 = .ok (.if_icmp .ge 29, 3) := by decide +kernel
theorem dX12_those_12 : decode cX12_those 12 = .ok (.iload_n 2, 1) := by decide +kernel
theorem dX12_those_13 : decode cX12_those 13 = .ok (.aload_n 0, 1) := by decide +kernel
theorem dX12_those_14 : decode cX12_those 14 = .ok (.iload_n 3, 1) := by decide +kernel
theorem dX12_those_15 : decode cX12_those 15 = .ok (.iload_n 1, 1) := by decide +kernel
theorem dX12_those_16 : decode cX12_those 16 = .ok (.invokevirtual 71, 3) := by decide +kernel
theorem dX12_those_19 : decode cX12_those 19 = .ok (.iconst 1, 1) := by decide +kernel
theorem dX12_those_20 : decode cX12_those 20 = .ok (.if_icmp .ne 9, 3) := by decide +kernel
theorem dX12_those_23 : decode cX12_those 23 = .ok (.iconst 1, 1) := by decide +kernel
theorem dX12_those_24 : decode cX12_those 24 = .ok (.iload_n 3, 1) := by decide +kernel
theorem dX12_those_25 : decode cX12_those 25 = .ok (.ishl, 1) := by decide +kernel
theorem dX12_those_26 : decode cX12_those 26 = .ok (.goto 4, 3) := by decide +kernel
theorem dX12_those_29 : decode cX12_those 29 = .ok (.iconst 0, 1) := by decide +kernel
theorem dX12_those_30 : decode cX12_those 30 = .ok (.ior, 1) := by decide +kernel
theorem dX12_those_31 : decode cX12_those 31 = .ok (.istore_n 2, 1) := by decide +kernel
theorem dX12_those_32 : decode cX12_those 32 = .ok (.iinc 3 1, 3) := by decide +kernel
theorem dX12_those_35 : decode cX12_those 35 = .ok (.goto (-31), 3) := by decide +kernel
theorem dX12_those_38 : decode cX12_those 38 = .ok (.iload_n 2, 1) := by decide +kernel
theorem dX12_those_39 : decode cX12_those 39 = .ok (.ireturn, 1) := by decide +kernel
theorem dX12_count_0 : decode cX12_count 0 = .ok (.aload_n 0, 1) := by decide +kernel
theorem dX12_count_1 : decode cX12_count 1 = .ok (.iconst 0, 1) := by decide +kernel
theorem dX12_count_2 : decode cX12_count 2 = .ok (.putfield 3, 3) := by decide +kernel
theorem dX12_count_5 : decode cX12_count 5 = .ok (.iload_n 1, 1) := by decide +kernel
theorem dX12_count_6 : decode cX12_count 6 = .ok (.tableswitch 142 0 10 #[58, 63, 68, 75, 98, 105, 112, 117, 123, 129, 137], 58) := by decide +kernel
theorem dX12_count_64 : decode cX12_count 64 = .ok (.aload_n 0, 1) := by decide +kernel
theorem dX12_count_65 : decode cX12_count 65 = .ok (.invokevirtual 74, 3) := by decide +kernel
theorem dX12_count_68 : decode cX12_count 68 = .ok (.ireturn, 1) := by decide +kernel
theorem dX12_count_69 : decode cX12_count 69 = .ok (.aload_n 0, 1) := by decide +kernel
theorem dX12_count_70 : decode cX12_count 70 = .ok (.invokevirtual 90, 3) := by decide +kernel
theorem dX12_count_73 : decode cX12_count 73 = .ok (.ireturn, 1) := by decide +kernel
theorem dX12_count_74 : decode cX12_count 74 = .ok (.aload_n 0, 1) := by decide +kernel
theorem dX12_count_75 : decode cX12_count 75 = .ok (.getfield 13, 3) := by decide +kernel
theorem dX12_count_78 : decode cX12_count 78 = .ok (.iconst 2, 1) := by decide +kernel
theorem dX12_count_79 : decode cX12_count 79 = .ok (.iaload, 1) := by decide +kernel
theorem dX12_count_80 : decode cX12_count 80 = .ok (.ireturn, 1) := by decide +kernel
theorem dX12_count_81 : decode cX12_count 81 = .ok (.aload_n 0, 1) := by decide +kernel
theorem dX12_count_82 : decode cX12_count 82 = .ok (.getfield 13, 3) := by decide +kernel
theorem dX12_count_85 : decode cX12_count 85 = .ok (.iconst 3, 1) := by decide +kernel
theorem dX12_count_86 : decode cX12_count 86 = .ok (.iaload, 1) := by decide +kernel
theorem dX12_count_87 : decode cX12_count 87 = .ok (.iconst 1, 1) := by decide +kernel
theorem dX12_count_88 : decode cX12_count 88 = .ok (.if_icmp .ne 14, 3) := by decide +kernel
theorem dX12_count_91 : decode cX12_count 91 = .ok (.aload_n 0, 1) := by decide +kernel
theorem dX12_count_92 : decode cX12_count 92 = .ok (.getfield 13, 3) := by decide +kernel
theorem dX12_count_95 : decode cX12_count 95 = .ok (.sipush 460, 3) := by decide +kernel
theorem dX12_count_98 : decode cX12_count 98 = .ok (.iaload, 1) := by decide +kernel
theorem dX12_count_99 : decode cX12_count 99 = .ok (.goto 4, 3) := by decide +kernel
theorem dX12_count_102 : decode cX12_count 102 = .ok (.iconst (-1), 1) := by decide +kernel
theorem dX12_count_103 : decode cX12_count 103 = .ok (.ireturn, 1) := by decide +kernel
theorem dX12_count_104 : decode cX12_count 104 = .ok (.aload_n 0, 1) := by decide +kernel
theorem dX12_count_105 : decode cX12_count 105 = .ok (.getfield 13, 3) := by decide +kernel
theorem dX12_count_108 : decode cX12_count 108 = .ok (.iconst 4, 1) := by decide +kernel
theorem dX12_count_109 : decode cX12_count 109 = .ok (.iaload, 1) := by decide +kernel
theorem dX12_count_110 : decode cX12_count 110 = .ok (.ireturn, 1) := by decide +kernel
theorem dX12_count_111 : decode cX12_count 111 = .ok (.aload_n 0, 1) := by decide +kernel
theorem dX12_count_112 : decode cX12_count 112 = .ok (.getfield 13, 3) := by decide +kernel
theorem dX12_count_115 : decode cX12_count 115 = .ok (.iconst 5, 1) := by decide +kernel
theorem dX12_count_116 : decode cX12_count 116 = .ok (.iaload, 1) := by decide +kernel
theorem dX12_count_117 : decode cX12_count 117 = .ok (.ireturn, 1) := by decide +kernel
theorem dX12_count_118 : decode cX12_count 118 = .ok (.aload_n 0, 1) := by decide +kernel
theorem dX12_count_119 : decode cX12_count 119 = .ok (.invokevirtual 432, 3) := by decide +kernel
theorem dX12_count_122 : decode cX12_count 122 = .ok (.ireturn, 1) := by decide +kernel
theorem dX12_count_123 : decode cX12_count 123 = .ok (.aload_n 0, 1) := by decide +kernel
theorem dX12_count_124 : decode cX12_count 124 = .ok (.iconst 3, 1) := by decide +kernel
theorem dX12_count_125 : decode cX12_count 125 = .ok (.invokevirtual 441, 3) := by decide +kernel
theorem dX12_count_128 : decode cX12_count 128 = .ok (.ireturn, 1) := by decide +kernel
theorem dX12_count_129 : decode cX12_count 129 = .ok (.aload_n 0, 1) := by decide +kernel
theorem dX12_count_130 : decode cX12_count 130 = .ok (.iconst 4, 1) := by decide +kernel
theorem dX12_count_131 : decode cX12_count 131 = .ok (.invokevirtual 441, 3) := by decide +kernel
theorem dX12_count_134 : decode cX12_count 134 = .ok (.ireturn, 1) := by decide +kernel
theorem dX12_count_135 : decode cX12_count 135 = .ok (.aload_n 0, 1) := by decide +kernel
theorem dX12_count_136 : decode cX12_count 136 = .ok (.getfield 13, 3) := by decide +kernel
theorem dX12_count_139 : decode cX12_count 139 = .ok (.bipush 6, 2) := by decide +kernel
theorem dX12_count_141 : decode cX12_count 141 = .ok (.iaload, 1) := by decide +kernel
theorem dX12_count_142 : decode cX12_count 142 = .ok (.ireturn, 1) := by decide +kernel
theorem dX12_count_143 : decode cX12_count 143 = .ok (.aload_n 0, 1) := by decide +kernel
theorem dX12_count_144 : decode cX12_count 144 = .ok (.getfield 64, 3) := by decide +kernel
theorem dX12_count_147 : decode cX12_count 147 = .ok (.ireturn, 1) := by decide +kernel
theorem dX12_count_148 : decode cX12_count 148 = .ok (.iconst (-1), 1) := by decide +kernel
theorem dX12_count_149 : decode cX12_count 149 = .ok (.ireturn, 1) := by decide +kernel
theorem dJ6_numberOfLeadingZeros_0f7a4_0 : decode cJ6_numberOfLeadingZeros_0f7a4 0 = .ok (.iload_n 0, 1) := by decide +kernel
theorem dJ6_numberOfLeadingZeros_0f7a4_1 : decode cJ6_numberOfLeadingZeros_0f7a4 1 = .ok (.ifCond .gt 14, 3) := by decide +kernel
theorem dJ6_numberOfLeadingZeros_0f7a4_4 : decode cJ6_numberOfLeadingZeros_0f7a4 4 = .ok (.iload_n 0, 1) := by decide +kernel
theorem dJ6_numberOfLeadingZeros_0f7a4_5 : decode cJ6_numberOfLeadingZeros_0f7a4 5 = .ok (.ifCond .ne 8, 3) := by decide +kernel
theorem dJ6_numberOfLeadingZeros_0f7a4_8 : decode cJ6_numberOfLeadingZeros_0f7a4 8 = .ok (.bipush 32, 2) := by decide +kernel
theorem dJ6_numberOfLeadingZeros_0f7a4_10 : decode cJ6_numberOfLeadingZeros_0f7a4 10 = .ok (.goto 4, 3) := by decide +kernel
theorem dJ6_numberOfLeadingZeros_0f7a4_13 : decode cJ6_numberOfLeadingZeros_0f7a4 13 = .ok (.iconst 0, 1) := by decide +kernel
theorem dJ6_numberOfLeadingZeros_0f7a4_14 : decode cJ6_numberOfLeadingZeros_0f7a4 14 = .ok (.ireturn, 1) := by decide +kernel
theorem dJ6_numberOfLeadingZeros_0f7a4_15 : decode cJ6_numberOfLeadingZeros_0f7a4 15 = .ok (.bipush 31, 2) := by decide +kernel
theorem dJ6_numberOfLeadingZeros_0f7a4_17 : decode cJ6_numberOfLeadingZeros_0f7a4 17 = .ok (.istore_n 1, 1) := by decide +kernel
theorem dJ6_numberOfLeadingZeros_0f7a4_18 : decode cJ6_numberOfLeadingZeros_0f7a4 18 = .ok (.iload_n 0, 1) := by decide +kernel
theorem dJ6_numberOfLeadingZeros_0f7a4_19 : decode cJ6_numberOfLeadingZeros_0f7a4 19 = .ok (.ldc_w 264, 3) := by decide +kernel
theorem dJ6_numberOfLeadingZeros_0f7a4_22 : decode cJ6_numberOfLeadingZeros_0f7a4 22 = .ok (.if_icmp .lt 11, 3) := by decide +kernel
theorem dJ6_numberOfLeadingZeros_0f7a4_25 : decode cJ6_numberOfLeadingZeros_0f7a4 25 = .ok (.iinc 1 (-16), 3) := by decide +kernel
theorem dJ6_numberOfLeadingZeros_0f7a4_28 : decode cJ6_numberOfLeadingZeros_0f7a4 28 = .ok (.iload_n 0, 1) := by decide +kernel
theorem dJ6_numberOfLeadingZeros_0f7a4_29 : decode cJ6_numberOfLeadingZeros_0f7a4 29 = .ok (.bipush 16, 2) := by decide +kernel
theorem dJ6_numberOfLeadingZeros_0f7a4_31 : decode cJ6_numberOfLeadingZeros_0f7a4 31 = .ok (.iushr, 1) := by decide +kernel
theorem dJ6_numberOfLeadingZeros_0f7a4_32 : decode cJ6_numberOfLeadingZeros_0f7a4 32 = .ok (.istore_n 0, 1) := by decide +kernel
theorem dJ6_numberOfLeadingZeros_0f7a4_33 : decode cJ6_numberOfLeadingZeros_0f7a4 33 = .ok (.iload_n 0, 1) := by decide +kernel
theorem dJ6_numberOfLeadingZeros_0f7a4_34 : decode cJ6_numberOfLeadingZeros_0f7a4 34 = .ok (.sipush 256, 3) := by decide +kernel
theorem dJ6_numberOfLeadingZeros_0f7a4_37 : decode cJ6_numberOfLeadingZeros_0f7a4 37 = .ok (.if_icmp .lt 11, 3) := by decide +kernel
theorem dJ6_numberOfLeadingZeros_0f7a4_40 : decode cJ6_numberOfLeadingZeros_0f7a4 40 = .ok (.iinc 1 (-8), 3) := by decide +kernel
theorem dJ6_numberOfLeadingZeros_0f7a4_43 : decode cJ6_numberOfLeadingZeros_0f7a4 43 = .ok (.iload_n 0, 1) := by decide +kernel
theorem dJ6_numberOfLeadingZeros_0f7a4_44 : decode cJ6_numberOfLeadingZeros_0f7a4 44 = .ok (.bipush 8, 2) := by decide +kernel
theorem dJ6_numberOfLeadingZeros_0f7a4_46 : decode cJ6_numberOfLeadingZeros_0f7a4 46 = .ok (.iushr, 1) := by decide +kernel
theorem dJ6_numberOfLeadingZeros_0f7a4_47 : decode cJ6_numberOfLeadingZeros_0f7a4 47 = .ok (.istore_n 0, 1) := by decide +kernel
theorem dJ6_numberOfLeadingZeros_0f7a4_48 : decode cJ6_numberOfLeadingZeros_0f7a4 48 = .ok (.iload_n 0, 1) := by decide +kernel
theorem dJ6_numberOfLeadingZeros_0f7a4_49 : decode cJ6_numberOfLeadingZeros_0f7a4 49 = .ok (.bipush 16, 2) := by decide +kernel
theorem dJ6_numberOfLeadingZeros_0f7a4_51 : decode cJ6_numberOfLeadingZeros_0f7a4 51 = .ok (.if_icmp .lt 10, 3) := by decide +kernel
theorem dJ6_numberOfLeadingZeros_0f7a4_54 : decode cJ6_numberOfLeadingZeros_0f7a4 54 = .ok (.iinc 1 (-4), 3) := by decide +kernel
theorem dJ6_numberOfLeadingZeros_0f7a4_57 : decode cJ6_numberOfLeadingZeros_0f7a4 57 = .ok (.iload_n 0, 1) := by decide +kernel
theorem dJ6_numberOfLeadingZeros_0f7a4_58 : decode cJ6_numberOfLeadingZeros_0f7a4 58 = .ok (.iconst 4, 1) := by decide +kernel
theorem dJ6_numberOfLeadingZeros_0f7a4_59 : decode cJ6_numberOfLeadingZeros_0f7a4 59 = .ok (.iushr, 1) := by decide +kernel
theorem dJ6_numberOfLeadingZeros_0f7a4_60 : decode cJ6_numberOfLeadingZeros_0f7a4 60 = .ok (.istore_n 0, 1) := by decide +kernel
theorem dJ6_numberOfLeadingZeros_0f7a4_61 : decode cJ6_numberOfLeadingZeros_0f7a4 61 = .ok (.iload_n 0, 1) := by decide +kernel
theorem dJ6_numberOfLeadingZeros_0f7a4_62 : decode cJ6_numberOfLeadingZeros_0f7a4 62 = .ok (.iconst 4, 1) := by decide +kernel
theorem dJ6_numberOfLeadingZeros_0f7a4_63 : decode cJ6_numberOfLeadingZeros_0f7a4 63 = .ok (.if_icmp .lt 10, 3) := by decide +kernel
theorem dJ6_numberOfLeadingZeros_0f7a4_66 : decode cJ6_numberOfLeadingZeros_0f7a4 66 = .ok (.iinc 1 (-2), 3) := by decide +kernel
theorem dJ6_numberOfLeadingZeros_0f7a4_69 : decode cJ6_numberOfLeadingZeros_0f7a4 69 = .ok (.iload_n 0, 1) := by decide +kernel
theorem dJ6_numberOfLeadingZeros_0f7a4_70 : decode cJ6_numberOfLeadingZeros_0f7a4 70 = .ok (.iconst 2, 1) := by decide +kernel
theorem dJ6_numberOfLeadingZeros_0f7a4_71 : decode cJ6_numberOfLeadingZeros_0f7a4 71 = .ok (.iushr, 1) := by decide +kernel
theorem dJ6_numberOfLeadingZeros_0f7a4_72 : decode cJ6_numberOfLeadingZeros_0f7a4 72 = .ok (.istore_n 0, 1) := by decide +kernel
theorem dJ6_numberOfLeadingZeros_0f7a4_73 : decode cJ6_numberOfLeadingZeros_0f7a4 73 = .ok (.iload_n 1, 1) := by decide +kernel
theorem dJ6_numberOfLeadingZeros_0f7a4_74 : decode cJ6_numberOfLeadingZeros_0f7a4 74 = .ok (.iload_n 0, 1) := by decide +kernel
theorem dJ6_numberOfLeadingZeros_0f7a4_75 : decode cJ6_numberOfLeadingZeros_0f7a4 75 = .ok (.iconst 1, 1) := by decide +kernel
theorem dJ6_numberOfLeadingZeros_0f7a4_76 : decode cJ6_numberOfLeadingZeros_0f7a4 76 = .ok (.iushr, 1) := by decide +kernel
theorem dJ6_numberOfLeadingZeros_0f7a4_77 : decode cJ6_numberOfLeadingZeros_0f7a4 77 = .ok (.isub, 1) := by decide +kernel
theorem dJ6_numberOfLeadingZeros_0f7a4_78 : decode cJ6_numberOfLeadingZeros_0f7a4 78 = .ok (.ireturn, 1) := by decide +kernel
theorem dJ6_bitCount_0f7a4_0 : decode cJ6_bitCount_0f7a4 0 = .ok (.iload_n 0, 1) := by decide +kernel
theorem dJ6_bitCount_0f7a4_1 : decode cJ6_bitCount_0f7a4 1 = .ok (.iload_n 0, 1) := by decide +kernel
theorem dJ6_bitCount_0f7a4_2 : decode cJ6_bitCount_0f7a4 2 = .ok (.iconst 1, 1) := by decide +kernel
theorem dJ6_bitCount_0f7a4_3 : decode cJ6_bitCount_0f7a4 3 = .ok (.iushr, 1) := by decide +kernel
theorem dJ6_bitCount_0f7a4_4 : decode cJ6_bitCount_0f7a4 4 = .ok (.ldc_w 265, 3) := by decide +kernel
theorem dJ6_bitCount_0f7a4_7 : decode cJ6_bitCount_0f7a4 7 = .ok (.iand, 1) := by decide +kernel
theorem dJ6_bitCount_0f7a4_8 : decode cJ6_bitCount_0f7a4 8 = .ok (.isub, 1) := by decide +kernel
theorem dJ6_bitCount_0f7a4_9 : decode cJ6_bitCount_0f7a4 9 = .ok (.istore_n 0, 1) := by decide +kernel
theorem dJ6_bitCount_0f7a4_10 : decode cJ6_bitCount_0f7a4 10 = .ok (.iload_n 0, 1) := by decide +kernel
theorem dJ6_bitCount_0f7a4_11 : decode cJ6_bitCount_0f7a4 11 = .ok (.ldc_w 266, 3) := by decide +kernel
theorem dJ6_bitCount_0f7a4_14 : decode cJ6_bitCount_0f7a4 14 = .ok (.iand, 1) := by decide +kernel
theorem dJ6_bitCount_0f7a4_15 : decode cJ6_bitCount_0f7a4 15 = .ok (.iload_n 0, 1) := by decide +kernel
theorem dJ6_bitCount_0f7a4_16 : decode cJ6_bitCount_0f7a4 16 = .ok (.iconst 2, 1) := by decide +kernel
theorem dJ6_bitCount_0f7a4_17 : decode cJ6_bitCount_0f7a4 17 = .ok (.iushr, 1) := by decide +kernel
theorem dJ6_bitCount_0f7a4_18 : decode cJ6_bitCount_0f7a4 18 = .ok (.ldc_w 266, 3) := by decide +kernel
theorem dJ6_bitCount_0f7a4_21 : decode cJ6_bitCount_0f7a4 21 = .ok (.iand, 1) := by decide +kernel
theorem dJ6_bitCount_0f7a4_22 : decode cJ6_bitCount_0f7a4 22 = .ok (.iadd, 1) := by decide +kernel
theorem dJ6_bitCount_0f7a4_23 : decode cJ6_bitCount_0f7a4 23 = .ok (.istore_n 0, 1) := by decide +kernel
theorem dJ6_bitCount_0f7a4_24 : decode cJ6_bitCount_0f7a4 24 = .ok (.iload_n 0, 1) := by decide +kernel
theorem dJ6_bitCount_0f7a4_25 : decode cJ6_bitCount_0f7a4 25 = .ok (.iload_n 0, 1) := by decide +kernel
theorem dJ6_bitCount_0f7a4_26 : decode cJ6_bitCount_0f7a4 26 = .ok (.iconst 4, 1) := by decide +kernel
theorem dJ6_bitCount_0f7a4_27 : decode cJ6_bitCount_0f7a4 27 = .ok (.iushr, 1) := by decide +kernel
theorem dJ6_bitCount_0f7a4_28 : decode cJ6_bitCount_0f7a4 28 = .ok (.iadd, 1) := by decide +kernel
theorem dJ6_bitCount_0f7a4_29 : decode cJ6_bitCount_0f7a4 29 = .ok (.ldc_w 267, 3) := by decide +kernel
theorem dJ6_bitCount_0f7a4_32 : decode cJ6_bitCount_0f7a4 32 = .ok (.iand, 1) := by decide +kernel
theorem dJ6_bitCount_0f7a4_33 : decode cJ6_bitCount_0f7a4 33 = .ok (.istore_n 0, 1) := by decide +kernel
theorem dJ6_bitCount_0f7a4_34 : decode cJ6_bitCount_0f7a4 34 = .ok (.iload_n 0, 1) := by decide +kernel
theorem dJ6_bitCount_0f7a4_35 : decode cJ6_bitCount_0f7a4 35 = .ok (.iload_n 0, 1) := by decide +kernel
theorem dJ6_bitCount_0f7a4_36 : decode cJ6_bitCount_0f7a4 36 = .ok (.bipush 8, 2) := by decide +kernel
theorem dJ6_bitCount_0f7a4_38 : decode cJ6_bitCount_0f7a4 38 = .ok (.iushr, 1) := by decide +kernel
theorem dJ6_bitCount_0f7a4_39 : decode cJ6_bitCount_0f7a4 39 = .ok (.iadd, 1) := by decide +kernel
theorem dJ6_bitCount_0f7a4_40 : decode cJ6_bitCount_0f7a4 40 = .ok (.istore_n 0, 1) := by decide +kernel
theorem dJ6_bitCount_0f7a4_41 : decode cJ6_bitCount_0f7a4 41 = .ok (.iload_n 0, 1) := by decide +kernel
theorem dJ6_bitCount_0f7a4_42 : decode cJ6_bitCount_0f7a4 42 = .ok (.iload_n 0, 1) := by decide +kernel
theorem dJ6_bitCount_0f7a4_43 : decode cJ6_bitCount_0f7a4 43 = .ok (.bipush 16, 2) := by decide +kernel
theorem dJ6_bitCount_0f7a4_45 : decode cJ6_bitCount_0f7a4 45 = .ok (.iushr, 1) := by decide +kernel
theorem dJ6_bitCount_0f7a4_46 : decode cJ6_bitCount_0f7a4 46 = .ok (.iadd, 1) := by decide +kernel
theorem dJ6_bitCount_0f7a4_47 : decode cJ6_bitCount_0f7a4 47 = .ok (.istore_n 0, 1) := by decide +kernel
theorem dJ6_bitCount_0f7a4_48 : decode cJ6_bitCount_0f7a4 48 = .ok (.iload_n 0, 1) := by decide +kernel
theorem dJ6_bitCount_0f7a4_49 : decode cJ6_bitCount_0f7a4 49 = .ok (.bipush 63, 2) := by decide +kernel
theorem dJ6_bitCount_0f7a4_51 : decode cJ6_bitCount_0f7a4 51 = .ok (.iand, 1) := by decide +kernel
theorem dJ6_bitCount_0f7a4_52 : decode cJ6_bitCount_0f7a4 52 = .ok (.ireturn, 1) := by decide +kernel
theorem dJ9_max_7cf53_0 : decode cJ9_max_7cf53 0 = .ok (.iload_n 0, 1) := by decide +kernel
theorem dJ9_max_7cf53_1 : decode cJ9_max_7cf53 1 = .ok (.iload_n 1, 1) := by decide +kernel
theorem dJ9_max_7cf53_2 : decode cJ9_max_7cf53 2 = .ok (.if_icmp .lt 7, 3) := by decide +kernel
theorem dJ9_max_7cf53_5 : decode cJ9_max_7cf53 5 = .ok (.iload_n 0, 1) := by decide +kernel
theorem dJ9_max_7cf53_6 : decode cJ9_max_7cf53 6 = .ok (.goto 4, 3) := by decide +kernel
theorem dJ9_max_7cf53_9 : decode cJ9_max_7cf53 9 = .ok (.iload_n 1, 1) := by decide +kernel
theorem dJ9_max_7cf53_10 : decode cJ9_max_7cf53 10 = .ok (.ireturn, 1) := by decide +kernel
theorem dJ9_min_7cf53_0 : decode cJ9_min_7cf53 0 = .ok (.iload_n 0, 1) := by decide +kernel
theorem dJ9_min_7cf53_1 : decode cJ9_min_7cf53 1 = .ok (.iload_n 1, 1) := by decide +kernel
theorem dJ9_min_7cf53_2 : decode cJ9_min_7cf53 2 = .ok (.if_icmp .gt 7, 3) := by decide +kernel
theorem dJ9_min_7cf53_5 : decode cJ9_min_7cf53 5 = .ok (.iload_n 0, 1) := by decide +kernel
theorem dJ9_min_7cf53_6 : decode cJ9_min_7cf53 6 = .ok (.goto 4, 3) := by decide +kernel
theorem dJ9_min_7cf53_9 : decode cJ9_min_7cf53 9 = .ok (.iload_n 1, 1) := by decide +kernel
theorem dJ9_min_7cf53_10 : decode cJ9_min_7cf53 10 = .ok (.ireturn, 1) := by decide +kernel
theorem dJ0_length_8abf5_0 : decode cJ0_length_8abf5 0 = .ok (.aload_n 0, 1) := by decide +kernel
theorem dJ0_length_8abf5_1 : decode cJ0_length_8abf5 1 = .ok (.getfield 9, 3) := by decide +kernel
theorem dJ0_length_8abf5_4 : decode cJ0_length_8abf5 4 = .ok (.arraylength, 1) := by decide +kernel
theorem dJ0_length_8abf5_5 : decode cJ0_length_8abf5 5 = .ok (.aload_n 0, 1) := by decide +kernel
theorem dJ0_length_8abf5_6 : decode cJ0_length_8abf5 6 = .ok (.invokevirtual 335, 3) := by decide +kernel
theorem dJ0_length_8abf5_9 : decode cJ0_length_8abf5 9 = .ok (.ishr, 1) := by decide +kernel
theorem dJ0_length_8abf5_10 : decode cJ0_length_8abf5 10 = .ok (.ireturn, 1) := by decide +kernel
theorem dJ0_charAt_5068e_0 : decode cJ0_charAt_5068e 0 = .ok (.aload_n 0, 1) := by decide +kernel
theorem dJ0_charAt_5068e_1 : decode cJ0_charAt_5068e 1 = .ok (.invokevirtual 492, 3) := by decide +kernel
theorem dJ0_charAt_5068e_4 : decode cJ0_charAt_5068e 4 = .ok (.ifCond .eq 12, 3) := by decide +kernel
theorem dJ0_charAt_5068e_7 : decode cJ0_charAt_5068e 7 = .ok (.aload_n 0, 1) := by decide +kernel
theorem dJ0_charAt_5068e_8 : decode cJ0_charAt_5068e 8 = .ok (.getfield 9, 3) := by decide +kernel
theorem dJ0_charAt_5068e_11 : decode cJ0_charAt_5068e 11 = .ok (.iload_n 1, 1) := by decide +kernel
theorem dJ0_charAt_5068e_12 : decode cJ0_charAt_5068e 12 = .ok (.invokestatic 495, 3) := by decide +kernel
theorem dJ0_charAt_5068e_15 : decode cJ0_charAt_5068e 15 = .ok (.ireturn, 1) := by decide +kernel
theorem dJ0_charAt_5068e_16 : decode cJ0_charAt_5068e 16 = .ok (.aload_n 0, 1) := by decide +kernel
theorem dJ0_charAt_5068e_17 : decode cJ0_charAt_5068e 17 = .ok (.getfield 9, 3) := by decide +kernel
theorem dJ0_charAt_5068e_20 : decode cJ0_charAt_5068e 20 = .ok (.iload_n 1, 1) := by decide +kernel
theorem dJ0_charAt_5068e_21 : decode cJ0_charAt_5068e 21 = .ok (.invokestatic 498, 3) := by decide +kernel
theorem dJ0_charAt_5068e_24 : decode cJ0_charAt_5068e 24 = .ok (.ireturn, 1) := by decide +kernel
theorem dJ0_coder_7d493_0 : decode cJ0_coder_7d493 0 = .ok (.getstatic 38, 3) := by decide +kernel
theorem dJ0_coder_7d493_3 : decode cJ0_coder_7d493 3 = .ok (.ifCond .eq 10, 3) := by decide +kernel
theorem dJ0_coder_7d493_6 : decode cJ0_coder_7d493 6 = .ok (.aload_n 0, 1) := by decide +kernel
theorem dJ0_coder_7d493_7 : decode cJ0_coder_7d493 7 = .ok (.getfield 15, 3) := by decide +kernel
theorem dJ0_coder_7d493_10 : decode cJ0_coder_7d493 10 = .ok (.goto 4, 3) := by decide +kernel
theorem dJ0_coder_7d493_13 : decode cJ0_coder_7d493 13 = .ok (.iconst 1, 1) := by decide +kernel
theorem dJ0_coder_7d493_14 : decode cJ0_coder_7d493 14 = .ok (.ireturn, 1) := by decide +kernel
theorem dJ0_isLatin1_aae02_0 : decode cJ0_isLatin1_aae02 0 = .ok (.getstatic 38, 3) := by decide +kernel
theorem dJ0_isLatin1_aae02_3 : decode cJ0_isLatin1_aae02 3 = .ok (.ifCond .eq 14, 3) := by decide +kernel
theorem dJ0_isLatin1_aae02_6 : decode cJ0_isLatin1_aae02 6 = .ok (.aload_n 0, 1) := by decide +kernel
theorem dJ0_isLatin1_aae02_7 : decode cJ0_isLatin1_aae02 7 = .ok (.getfield 15, 3) := by decide +kernel
theorem dJ0_isLatin1_aae02_10 : decode cJ0_isLatin1_aae02 10 = .ok (.ifCond .ne 7, 3) := by decide +kernel
theorem dJ0_isLatin1_aae02_13 : decode cJ0_isLatin1_aae02 13 = .ok (.iconst 1, 1) := by decide +kernel
theorem dJ0_isLatin1_aae02_14 : decode cJ0_isLatin1_aae02 14 = .ok (.goto 4, 3) := by decide +kernel
theorem dJ0_isLatin1_aae02_17 : decode cJ0_isLatin1_aae02 17 = .ok (.iconst 0, 1) := by decide +kernel
theorem dJ0_isLatin1_aae02_18 : decode cJ0_isLatin1_aae02 18 = .ok (.ireturn, 1) := by decide +kernel
theorem dJ0_checkIndex_df160_0 : decode cJ0_checkIndex_df160 0 = .ok (.iload_n 0, 1) := by decide +kernel
theorem dJ0_checkIndex_df160_1 : decode cJ0_checkIndex_df160 1 = .ok (.iload_n 1, 1) := by decide +kernel
theorem dJ0_checkIndex_df160_2 : decode cJ0_checkIndex_df160 2 = .ok (.getstatic 1053, 3) := by decide +kernel
theorem dJ0_checkIndex_df160_5 : decode cJ0_checkIndex_df160 5 = .ok (.invokestatic 1059, 3) := by decide +kernel
theorem dJ0_checkIndex_df160_8 : decode cJ0_checkIndex_df160 8 = .ok (.pop, 1) := by decide +kernel
theorem dJ0_checkIndex_df160_9 : decode cJ0_checkIndex_df160 9 = .ok (.return_, 1) := by decide +kernel
theorem dJ1_charAt_3b067_0 : decode cJ1_charAt_3b067 0 = .ok (.iload_n 1, 1) := by decide +kernel
theorem dJ1_charAt_3b067_1 : decode cJ1_charAt_3b067 1 = .ok (.aload_n 0, 1) := by decide +kernel
theorem dJ1_charAt_3b067_2 : decode cJ1_charAt_3b067 2 = .ok (.arraylength, 1) := by decide +kernel
theorem dJ1_charAt_3b067_3 : decode cJ1_charAt_3b067 3 = .ok (.invokestatic 9, 3) := by decide +kernel
theorem dJ1_charAt_3b067_6 : decode cJ1_charAt_3b067 6 = .ok (.aload_n 0, 1) := by decide +kernel
theorem dJ1_charAt_3b067_7 : decode cJ1_charAt_3b067 7 = .ok (.iload_n 1, 1) := by decide +kernel
theorem dJ1_charAt_3b067_8 : decode cJ1_charAt_3b067 8 = .ok (.baload, 1) := by decide +kernel
theorem dJ1_charAt_3b067_9 : decode cJ1_charAt_3b067 9 = .ok (.sipush 255, 3) := by decide +kernel
theorem dJ1_charAt_3b067_12 : decode cJ1_charAt_3b067 12 = .ok (.iand, 1) := by decide +kernel
theorem dJ1_charAt_3b067_13 : decode cJ1_charAt_3b067 13 = .ok (.i2c, 1) := by decide +kernel
theorem dJ1_charAt_3b067_14 : decode cJ1_charAt_3b067 14 = .ok (.ireturn, 1) := by decide +kernel
theorem dJ2_getChar_3b067_0 : decode cJ2_getChar_3b067 0 = .ok (.getstatic 44, 3) := by decide +kernel
theorem dJ2_getChar_3b067_3 : decode cJ2_getChar_3b067 3 = .ok (.ifCond .ne 25, 3) := by decide +kernel
theorem dJ2_getChar_3b067_6 : decode cJ2_getChar_3b067 6 = .ok (.iload_n 1, 1) := by decide +kernel
theorem dJ2_getChar_3b067_7 : decode cJ2_getChar_3b067 7 = .ok (.ifCond .lt 11, 3) := by decide +kernel
theorem dJ2_getChar_3b067_10 : decode cJ2_getChar_3b067 10 = .ok (.iload_n 1, 1) := by decide +kernel
theorem dJ2_getChar_3b067_11 : decode cJ2_getChar_3b067 11 = .ok (.aload_n 0, 1) := by decide +kernel
theorem dJ2_getChar_3b067_12 : decode cJ2_getChar_3b067 12 = .ok (.invokestatic 48, 3) := by decide +kernel
theorem dJ2_getChar_3b067_15 : decode cJ2_getChar_3b067 15 = .ok (.if_icmp .lt 13, 3) := by decide +kernel
theorem dJ2_getChar_3b067_18 : decode cJ2_getChar_3b067 18 = .ok (.new 52, 3) := by decide +kernel
theorem dJ2_getChar_3b067_21 : decode cJ2_getChar_3b067 21 = .ok (.dup, 1) := by decide +kernel
theorem dJ2_getChar_3b067_22 : decode cJ2_getChar_3b067 22 = .ok (.ldc 54, 2) := by decide +kernel
theorem dJ2_getChar_3b067_24 : decode cJ2_getChar_3b067 24 = .ok (.invokespecial 56, 3) := by decide +kernel
theorem dJ2_getChar_3b067_27 : decode cJ2_getChar_3b067 27 = .ok (.athrow, 1) := by decide +kernel
theorem dJ2_getChar_3b067_28 : decode cJ2_getChar_3b067 28 = .ok (.iload_n 1, 1) := by decide +kernel
theorem dJ2_getChar_3b067_29 : decode cJ2_getChar_3b067 29 = .ok (.iconst 1, 1) := by decide +kernel
theorem dJ2_getChar_3b067_30 : decode cJ2_getChar_3b067 30 = .ok (.ishl, 1) := by decide +kernel
theorem dJ2_getChar_3b067_31 : decode cJ2_getChar_3b067 31 = .ok (.istore_n 1, 1) := by decide +kernel
theorem dJ2_getChar_3b067_32 : decode cJ2_getChar_3b067 32 = .ok (.aload_n 0, 1) := by decide +kernel
theorem dJ2_getChar_3b067_33 : decode cJ2_getChar_3b067 33 = .ok (.iload_n 1, 1) := by decide +kernel
theorem dJ2_getChar_3b067_34 : decode cJ2_getChar_3b067 34 = .ok (.iinc 1 1, 3) := by decide +kernel
theorem dJ2_getChar_3b067_37 : decode cJ2_getChar_3b067 37 = .ok (.baload, 1) := by decide +kernel
theorem dJ2_getChar_3b067_38 : decode cJ2_getChar_3b067 38 = .ok (.sipush 255, 3) := by decide +kernel
theorem dJ2_getChar_3b067_41 : decode cJ2_getChar_3b067 41 = .ok (.iand, 1) := by decide +kernel
theorem dJ2_getChar_3b067_42 : decode cJ2_getChar_3b067 42 = .ok (.getstatic 59, 3) := by decide +kernel
theorem dJ2_getChar_3b067_45 : decode cJ2_getChar_3b067 45 = .ok (.ishl, 1) := by decide +kernel
theorem dJ2_getChar_3b067_46 : decode cJ2_getChar_3b067 46 = .ok (.aload_n 0, 1) := by decide +kernel
theorem dJ2_getChar_3b067_47 : decode cJ2_getChar_3b067 47 = .ok (.iload_n 1, 1) := by decide +kernel
theorem dJ2_getChar_3b067_48 : decode cJ2_getChar_3b067 48 = .ok (.baload, 1) := by decide +kernel
theorem dJ2_getChar_3b067_49 : decode cJ2_getChar_3b067 49 = .ok (.sipush 255, 3) := by decide +kernel
theorem dJ2_getChar_3b067_52 : decode cJ2_getChar_3b067 52 = .ok (.iand, 1) := by decide +kernel
theorem dJ2_getChar_3b067_53 : decode cJ2_getChar_3b067 53 = .ok (.getstatic 63, 3) := by decide +kernel
theorem dJ2_getChar_3b067_56 : decode cJ2_getChar_3b067 56 = .ok (.ishl, 1) := by decide +kernel
theorem dJ2_getChar_3b067_57 : decode cJ2_getChar_3b067 57 = .ok (.ior, 1) := by decide +kernel
theorem dJ2_getChar_3b067_58 : decode cJ2_getChar_3b067 58 = .ok (.i2c, 1) := by decide +kernel
theorem dJ2_getChar_3b067_59 : decode cJ2_getChar_3b067 59 = .ok (.ireturn, 1) := by decide +kernel
theorem dJ2_length_9d52b_0 : decode cJ2_length_9d52b 0 = .ok (.aload_n 0, 1) := by decide +kernel
theorem dJ2_length_9d52b_1 : decode cJ2_length_9d52b 1 = .ok (.arraylength, 1) := by decide +kernel
theorem dJ2_length_9d52b_2 : decode cJ2_length_9d52b 2 = .ok (.iconst 1, 1) := by decide +kernel
theorem dJ2_length_9d52b_3 : decode cJ2_length_9d52b 3 = .ok (.ishr, 1) := by decide +kernel
theorem dJ2_length_9d52b_4 : decode cJ2_length_9d52b 4 = .ok (.ireturn, 1) := by decide +kernel
theorem dJ2_charAt_3b067_0 : decode cJ2_charAt_3b067 0 = .ok (.iload_n 1, 1) := by decide +kernel
theorem dJ2_charAt_3b067_1 : decode cJ2_charAt_3b067 1 = .ok (.aload_n 0, 1) := by decide +kernel
theorem dJ2_charAt_3b067_2 : decode cJ2_charAt_3b067 2 = .ok (.invokestatic 67, 3) := by decide +kernel
theorem dJ2_charAt_3b067_5 : decode cJ2_charAt_3b067 5 = .ok (.aload_n 0, 1) := by decide +kernel
theorem dJ2_charAt_3b067_6 : decode cJ2_charAt_3b067 6 = .ok (.iload_n 1, 1) := by decide +kernel
theorem dJ2_charAt_3b067_7 : decode cJ2_charAt_3b067 7 = .ok (.invokestatic 71, 3) := by decide +kernel
theorem dJ2_charAt_3b067_10 : decode cJ2_charAt_3b067 10 = .ok (.ireturn, 1) := by decide +kernel
theorem dJ2_checkIndex_2214a_0 : decode cJ2_checkIndex_2214a 0 = .ok (.iload_n 0, 1) := by decide +kernel
theorem dJ2_checkIndex_2214a_1 : decode cJ2_checkIndex_2214a 1 = .ok (.aload_n 1, 1) := by decide +kernel
theorem dJ2_checkIndex_2214a_2 : decode cJ2_checkIndex_2214a 2 = .ok (.invokestatic 48, 3) := by decide +kernel
theorem dJ2_checkIndex_2214a_5 : decode cJ2_checkIndex_2214a 5 = .ok (.invokestatic 414, 3) := by decide +kernel
theorem dJ2_checkIndex_2214a_8 : decode cJ2_checkIndex_2214a 8 = .ok (.return_, 1) := by decide +kernel
theorem dJ3_checkIndex_8e157_0 : decode cJ3_checkIndex_8e157 0 = .ok (.iload_n 0, 1) := by decide +kernel
theorem dJ3_checkIndex_8e157_1 : decode cJ3_checkIndex_8e157 1 = .ok (.ifCond .lt 8, 3) := by decide +kernel
theorem dJ3_checkIndex_8e157_4 : decode cJ3_checkIndex_8e157 4 = .ok (.iload_n 0, 1) := by decide +kernel
theorem dJ3_checkIndex_8e157_5 : decode cJ3_checkIndex_8e157 5 = .ok (.iload_n 1, 1) := by decide +kernel
theorem dJ3_checkIndex_8e157_6 : decode cJ3_checkIndex_8e157 6 = .ok (.if_icmp .lt 10, 3) := by decide +kernel
theorem dJ3_checkIndex_8e157_9 : decode cJ3_checkIndex_8e157 9 = .ok (.aload_n 2, 1) := by decide +kernel
theorem dJ3_checkIndex_8e157_10 : decode cJ3_checkIndex_8e157 10 = .ok (.iload_n 0, 1) := by decide +kernel
theorem dJ3_checkIndex_8e157_11 : decode cJ3_checkIndex_8e157 11 = .ok (.iload_n 1, 1) := by decide +kernel
theorem dJ3_checkIndex_8e157_12 : decode cJ3_checkIndex_8e157 12 = .ok (.invokestatic 95, 3) := by decide +kernel
theorem dJ3_checkIndex_8e157_15 : decode cJ3_checkIndex_8e157 15 = .ok (.athrow, 1) := by decide +kernel
theorem dJ3_checkIndex_8e157_16 : decode cJ3_checkIndex_8e157 16 = .ok (.iload_n 0, 1) := by decide +kernel
theorem dJ3_checkIndex_8e157_17 : decode cJ3_checkIndex_8e157 17 = .ok (.ireturn, 1) := by decide +kernel
theorem dL_post_0 : decode cL_post 0 = .ok (.aload_n 1, 1) := by decide +kernel
theorem dL_post_1 : decode cL_post 1 = .ok (.iconst 0, 1) := by decide +kernel
theorem dL_post_2 : decode cL_post 2 = .ok (.aload_n 0, 1) := by decide +kernel
theorem dL_post_3 : decode cL_post 3 = .ok (.invokevirtual 7, 3) := by decide +kernel
theorem dL_post_6 : decode cL_post 6 = .ok (.i2l, 1) := by decide +kernel
theorem dL_post_7 : decode cL_post 7 = .ok (.lastore, 1) := by decide +kernel
theorem dL_post_8 : decode cL_post 8 = .ok (.goto 9, 3) := by decide +kernel
theorem dL_post_11 : decode cL_post 11 = .ok (.astore_n 2, 1) := by decide +kernel
theorem dL_post_12 : decode cL_post 12 = .ok (.iconst 1, 1) := by decide +kernel
theorem dL_post_13 : decode cL_post 13 = .ok (.ireturn, 1) := by decide +kernel
theorem dL_post_14 : decode cL_post 14 = .ok (.astore_n 2, 1) := by decide +kernel
theorem dL_post_15 : decode cL_post 15 = .ok (.iconst 2, 1) := by decide +kernel
theorem dL_post_16 : decode cL_post 16 = .ok (.ireturn, 1) := by decide +kernel
theorem dL_post_17 : decode cL_post 17 = .ok (.iconst 0, 1) := by decide +kernel
theorem dL_post_18 : decode cL_post 18 = .ok (.ireturn, 1) := by decide +kernel
theorem dL_law_0 : decode cL_law 0 = .ok (.aload_n 1, 1) := by decide +kernel
theorem dL_law_1 : decode cL_law 1 = .ok (.iconst 0, 1) := by decide +kernel
theorem dL_law_2 : decode cL_law 2 = .ok (.aload_n 0, 1) := by decide +kernel
theorem dL_law_3 : decode cL_law 3 = .ok (.invokevirtual 17, 3) := by decide +kernel
theorem dL_law_6 : decode cL_law 6 = .ok (.i2l, 1) := by decide +kernel
theorem dL_law_7 : decode cL_law 7 = .ok (.lastore, 1) := by decide +kernel
theorem dL_law_8 : decode cL_law 8 = .ok (.goto 6, 3) := by decide +kernel
theorem dL_law_11 : decode cL_law 11 = .ok (.astore_n 2, 1) := by decide +kernel
theorem dL_law_12 : decode cL_law 12 = .ok (.iconst 1, 1) := by decide +kernel
theorem dL_law_13 : decode cL_law 13 = .ok (.ireturn, 1) := by decide +kernel
theorem dL_law_14 : decode cL_law 14 = .ok (.iconst 0, 1) := by decide +kernel
theorem dL_law_15 : decode cL_law 15 = .ok (.ireturn, 1) := by decide +kernel
theorem dL_letter_0 : decode cL_letter 0 = .ok (.aload_n 3, 1) := by decide +kernel
theorem dL_letter_1 : decode cL_letter 1 = .ok (.iconst 0, 1) := by decide +kernel
theorem dL_letter_2 : decode cL_letter 2 = .ok (.aload_n 0, 1) := by decide +kernel
theorem dL_letter_3 : decode cL_letter 3 = .ok (.iload_n 1, 1) := by decide +kernel
theorem dL_letter_4 : decode cL_letter 4 = .ok (.iload_n 2, 1) := by decide +kernel
theorem dL_letter_5 : decode cL_letter 5 = .ok (.invokevirtual 20, 3) := by decide +kernel
theorem dL_letter_8 : decode cL_letter 8 = .ok (.i2l, 1) := by decide +kernel
theorem dL_letter_9 : decode cL_letter 9 = .ok (.lastore, 1) := by decide +kernel
theorem dL_letter_10 : decode cL_letter 10 = .ok (.goto 11, 3) := by decide +kernel
theorem dL_letter_13 : decode cL_letter 13 = .ok (.astore 4, 2) := by decide +kernel
theorem dL_letter_15 : decode cL_letter 15 = .ok (.iconst 1, 1) := by decide +kernel
theorem dL_letter_16 : decode cL_letter 16 = .ok (.ireturn, 1) := by decide +kernel
theorem dL_letter_17 : decode cL_letter 17 = .ok (.astore 4, 2) := by decide +kernel
theorem dL_letter_19 : decode cL_letter 19 = .ok (.iconst 2, 1) := by decide +kernel
theorem dL_letter_20 : decode cL_letter 20 = .ok (.ireturn, 1) := by decide +kernel
theorem dL_letter_21 : decode cL_letter 21 = .ok (.iconst 0, 1) := by decide +kernel
theorem dL_letter_22 : decode cL_letter 22 = .ok (.ireturn, 1) := by decide +kernel
theorem dL_line_0 : decode cL_line 0 = .ok (.aload 4, 2) := by decide +kernel
theorem dL_line_2 : decode cL_line 2 = .ok (.iconst 0, 1) := by decide +kernel
theorem dL_line_3 : decode cL_line 3 = .ok (.aload_n 0, 1) := by decide +kernel
theorem dL_line_4 : decode cL_line 4 = .ok (.iload_n 1, 1) := by decide +kernel
theorem dL_line_5 : decode cL_line 5 = .ok (.iload_n 2, 1) := by decide +kernel
theorem dL_line_6 : decode cL_line 6 = .ok (.iload_n 3, 1) := by decide +kernel
theorem dL_line_7 : decode cL_line 7 = .ok (.invokevirtual 28, 3) := by decide +kernel
theorem dL_line_10 : decode cL_line 10 = .ok (.i2l, 1) := by decide +kernel
theorem dL_line_11 : decode cL_line 11 = .ok (.lastore, 1) := by decide +kernel
theorem dL_line_12 : decode cL_line 12 = .ok (.goto 7, 3) := by decide +kernel
theorem dL_line_15 : decode cL_line 15 = .ok (.astore 5, 2) := by decide +kernel
theorem dL_line_17 : decode cL_line 17 = .ok (.iconst 1, 1) := by decide +kernel
theorem dL_line_18 : decode cL_line 18 = .ok (.ireturn, 1) := by decide +kernel
theorem dL_line_19 : decode cL_line 19 = .ok (.iconst 0, 1) := by decide +kernel
theorem dL_line_20 : decode cL_line 20 = .ok (.ireturn, 1) := by decide +kernel
theorem dL_words_0 : decode cL_words 0 = .ok (.aload_n 2, 1) := by decide +kernel
theorem dL_words_1 : decode cL_words 1 = .ok (.iconst 0, 1) := by decide +kernel
theorem dL_words_2 : decode cL_words 2 = .ok (.aload_n 0, 1) := by decide +kernel
theorem dL_words_3 : decode cL_words 3 = .ok (.iload_n 1, 1) := by decide +kernel
theorem dL_words_4 : decode cL_words 4 = .ok (.invokevirtual 32, 3) := by decide +kernel
theorem dL_words_7 : decode cL_words 7 = .ok (.i2l, 1) := by decide +kernel
theorem dL_words_8 : decode cL_words 8 = .ok (.lastore, 1) := by decide +kernel
theorem dL_words_9 : decode cL_words 9 = .ok (.goto 6, 3) := by decide +kernel
theorem dL_words_12 : decode cL_words 12 = .ok (.astore_n 3, 1) := by decide +kernel
theorem dL_words_13 : decode cL_words 13 = .ok (.iconst 1, 1) := by decide +kernel
theorem dL_words_14 : decode cL_words 14 = .ok (.ireturn, 1) := by decide +kernel
theorem dL_words_15 : decode cL_words 15 = .ok (.iconst 0, 1) := by decide +kernel
theorem dL_words_16 : decode cL_words 16 = .ok (.ireturn, 1) := by decide +kernel
theorem dL_promise_0 : decode cL_promise 0 = .ok (.aload_n 3, 1) := by decide +kernel
theorem dL_promise_1 : decode cL_promise 1 = .ok (.iconst 0, 1) := by decide +kernel
theorem dL_promise_2 : decode cL_promise 2 = .ok (.aload_n 0, 1) := by decide +kernel
theorem dL_promise_3 : decode cL_promise 3 = .ok (.iload_n 1, 1) := by decide +kernel
theorem dL_promise_4 : decode cL_promise 4 = .ok (.iload_n 2, 1) := by decide +kernel
theorem dL_promise_5 : decode cL_promise 5 = .ok (.invokevirtual 36, 3) := by decide +kernel
theorem dL_promise_8 : decode cL_promise 8 = .ok (.i2l, 1) := by decide +kernel
theorem dL_promise_9 : decode cL_promise 9 = .ok (.lastore, 1) := by decide +kernel
theorem dL_promise_10 : decode cL_promise 10 = .ok (.goto 7, 3) := by decide +kernel
theorem dL_promise_13 : decode cL_promise 13 = .ok (.astore 4, 2) := by decide +kernel
theorem dL_promise_15 : decode cL_promise 15 = .ok (.iconst 1, 1) := by decide +kernel
theorem dL_promise_16 : decode cL_promise 16 = .ok (.ireturn, 1) := by decide +kernel
theorem dL_promise_17 : decode cL_promise 17 = .ok (.iconst 0, 1) := by decide +kernel
theorem dL_promise_18 : decode cL_promise 18 = .ok (.ireturn, 1) := by decide +kernel
theorem dL_season_0 : decode cL_season 0 = .ok (.aload_n 2, 1) := by decide +kernel
theorem dL_season_1 : decode cL_season 1 = .ok (.iconst 0, 1) := by decide +kernel
theorem dL_season_2 : decode cL_season 2 = .ok (.aload_n 0, 1) := by decide +kernel
theorem dL_season_3 : decode cL_season 3 = .ok (.iload_n 1, 1) := by decide +kernel
theorem dL_season_4 : decode cL_season 4 = .ok (.invokevirtual 40, 3) := by decide +kernel
theorem dL_season_7 : decode cL_season 7 = .ok (.i2l, 1) := by decide +kernel
theorem dL_season_8 : decode cL_season 8 = .ok (.lastore, 1) := by decide +kernel
theorem dL_season_9 : decode cL_season 9 = .ok (.goto 6, 3) := by decide +kernel
theorem dL_season_12 : decode cL_season 12 = .ok (.astore_n 3, 1) := by decide +kernel
theorem dL_season_13 : decode cL_season 13 = .ok (.iconst 1, 1) := by decide +kernel
theorem dL_season_14 : decode cL_season 14 = .ok (.ireturn, 1) := by decide +kernel
theorem dL_season_15 : decode cL_season 15 = .ok (.iconst 0, 1) := by decide +kernel
theorem dL_season_16 : decode cL_season 16 = .ok (.ireturn, 1) := by decide +kernel
theorem dL_write_0 : decode cL_write 0 = .ok (.aload_n 3, 1) := by decide +kernel
theorem dL_write_1 : decode cL_write 1 = .ok (.iconst 0, 1) := by decide +kernel
theorem dL_write_2 : decode cL_write 2 = .ok (.aload_n 0, 1) := by decide +kernel
theorem dL_write_3 : decode cL_write 3 = .ok (.iload_n 1, 1) := by decide +kernel
theorem dL_write_4 : decode cL_write 4 = .ok (.iload_n 2, 1) := by decide +kernel
theorem dL_write_5 : decode cL_write 5 = .ok (.invokevirtual 43, 3) := by decide +kernel
theorem dL_write_8 : decode cL_write 8 = .ok (.i2l, 1) := by decide +kernel
theorem dL_write_9 : decode cL_write 9 = .ok (.lastore, 1) := by decide +kernel
theorem dL_write_10 : decode cL_write 10 = .ok (.goto 11, 3) := by decide +kernel
theorem dL_write_13 : decode cL_write 13 = .ok (.astore 4, 2) := by decide +kernel
theorem dL_write_15 : decode cL_write 15 = .ok (.iconst 1, 1) := by decide +kernel
theorem dL_write_16 : decode cL_write 16 = .ok (.ireturn, 1) := by decide +kernel
theorem dL_write_17 : decode cL_write 17 = .ok (.astore 4, 2) := by decide +kernel
theorem dL_write_19 : decode cL_write 19 = .ok (.iconst 2, 1) := by decide +kernel
theorem dL_write_20 : decode cL_write 20 = .ok (.ireturn, 1) := by decide +kernel
theorem dL_write_21 : decode cL_write 21 = .ok (.iconst 0, 1) := by decide +kernel
theorem dL_write_22 : decode cL_write 22 = .ok (.ireturn, 1) := by decide +kernel
theorem dL_open_0 : decode cL_open 0 = .ok (.aload_n 3, 1) := by decide +kernel
theorem dL_open_1 : decode cL_open 1 = .ok (.iconst 0, 1) := by decide +kernel
theorem dL_open_2 : decode cL_open 2 = .ok (.aload_n 0, 1) := by decide +kernel
theorem dL_open_3 : decode cL_open 3 = .ok (.iload_n 1, 1) := by decide +kernel
theorem dL_open_4 : decode cL_open 4 = .ok (.iload_n 2, 1) := by decide +kernel
theorem dL_open_5 : decode cL_open 5 = .ok (.invokevirtual 46, 3) := by decide +kernel
theorem dL_open_8 : decode cL_open 8 = .ok (.ifCond .eq 7, 3) := by decide +kernel
theorem dL_open_11 : decode cL_open 11 = .ok (.lconst 1, 1) := by decide +kernel
theorem dL_open_12 : decode cL_open 12 = .ok (.goto 4, 3) := by decide +kernel
theorem dL_open_15 : decode cL_open 15 = .ok (.lconst 0, 1) := by decide +kernel
theorem dL_open_16 : decode cL_open 16 = .ok (.lastore, 1) := by decide +kernel
theorem dL_open_17 : decode cL_open 17 = .ok (.goto 7, 3) := by decide +kernel
theorem dL_open_20 : decode cL_open 20 = .ok (.astore 4, 2) := by decide +kernel
theorem dL_open_22 : decode cL_open 22 = .ok (.iconst 1, 1) := by decide +kernel
theorem dL_open_23 : decode cL_open 23 = .ok (.ireturn, 1) := by decide +kernel
theorem dL_open_24 : decode cL_open 24 = .ok (.iconst 0, 1) := by decide +kernel
theorem dL_open_25 : decode cL_open 25 = .ok (.ireturn, 1) := by decide +kernel
theorem dL_copy_0 : decode cL_copy 0 = .ok (.aload_n 2, 1) := by decide +kernel
theorem dL_copy_1 : decode cL_copy 1 = .ok (.iconst 0, 1) := by decide +kernel
theorem dL_copy_2 : decode cL_copy 2 = .ok (.aload_n 0, 1) := by decide +kernel
theorem dL_copy_3 : decode cL_copy 3 = .ok (.iload_n 1, 1) := by decide +kernel
theorem dL_copy_4 : decode cL_copy 4 = .ok (.invokevirtual 50, 3) := by decide +kernel
theorem dL_copy_7 : decode cL_copy 7 = .ok (.i2l, 1) := by decide +kernel
theorem dL_copy_8 : decode cL_copy 8 = .ok (.lastore, 1) := by decide +kernel
theorem dL_copy_9 : decode cL_copy 9 = .ok (.goto 9, 3) := by decide +kernel
theorem dL_copy_12 : decode cL_copy 12 = .ok (.astore_n 3, 1) := by decide +kernel
theorem dL_copy_13 : decode cL_copy 13 = .ok (.iconst 1, 1) := by decide +kernel
theorem dL_copy_14 : decode cL_copy 14 = .ok (.ireturn, 1) := by decide +kernel
theorem dL_copy_15 : decode cL_copy 15 = .ok (.astore_n 3, 1) := by decide +kernel
theorem dL_copy_16 : decode cL_copy 16 = .ok (.iconst 2, 1) := by decide +kernel
theorem dL_copy_17 : decode cL_copy 17 = .ok (.ireturn, 1) := by decide +kernel
theorem dL_copy_18 : decode cL_copy 18 = .ok (.iconst 0, 1) := by decide +kernel
theorem dL_copy_19 : decode cL_copy 19 = .ok (.ireturn, 1) := by decide +kernel
theorem dL_prune_0 : decode cL_prune 0 = .ok (.aload_n 3, 1) := by decide +kernel
theorem dL_prune_1 : decode cL_prune 1 = .ok (.iconst 0, 1) := by decide +kernel
theorem dL_prune_2 : decode cL_prune 2 = .ok (.aload_n 0, 1) := by decide +kernel
theorem dL_prune_3 : decode cL_prune 3 = .ok (.iload_n 1, 1) := by decide +kernel
theorem dL_prune_4 : decode cL_prune 4 = .ok (.iload_n 2, 1) := by decide +kernel
theorem dL_prune_5 : decode cL_prune 5 = .ok (.invokevirtual 53, 3) := by decide +kernel
theorem dL_prune_8 : decode cL_prune 8 = .ok (.i2l, 1) := by decide +kernel
theorem dL_prune_9 : decode cL_prune 9 = .ok (.lastore, 1) := by decide +kernel
theorem dL_prune_10 : decode cL_prune 10 = .ok (.goto 11, 3) := by decide +kernel
theorem dL_prune_13 : decode cL_prune 13 = .ok (.astore 4, 2) := by decide +kernel
theorem dL_prune_15 : decode cL_prune 15 = .ok (.iconst 1, 1) := by decide +kernel
theorem dL_prune_16 : decode cL_prune 16 = .ok (.ireturn, 1) := by decide +kernel
theorem dL_prune_17 : decode cL_prune 17 = .ok (.astore 4, 2) := by decide +kernel
theorem dL_prune_19 : decode cL_prune 19 = .ok (.iconst 2, 1) := by decide +kernel
theorem dL_prune_20 : decode cL_prune 20 = .ok (.ireturn, 1) := by decide +kernel
theorem dL_prune_21 : decode cL_prune 21 = .ok (.iconst 0, 1) := by decide +kernel
theorem dL_prune_22 : decode cL_prune 22 = .ok (.ireturn, 1) := by decide +kernel
theorem dL_cut_0 : decode cL_cut 0 = .ok (.aload_n 3, 1) := by decide +kernel
theorem dL_cut_1 : decode cL_cut 1 = .ok (.iconst 0, 1) := by decide +kernel
theorem dL_cut_2 : decode cL_cut 2 = .ok (.aload_n 0, 1) := by decide +kernel
theorem dL_cut_3 : decode cL_cut 3 = .ok (.iload_n 1, 1) := by decide +kernel
theorem dL_cut_4 : decode cL_cut 4 = .ok (.iload_n 2, 1) := by decide +kernel
theorem dL_cut_5 : decode cL_cut 5 = .ok (.invokevirtual 56, 3) := by decide +kernel
theorem dL_cut_8 : decode cL_cut 8 = .ok (.i2l, 1) := by decide +kernel
theorem dL_cut_9 : decode cL_cut 9 = .ok (.lastore, 1) := by decide +kernel
theorem dL_cut_10 : decode cL_cut 10 = .ok (.goto 11, 3) := by decide +kernel
theorem dL_cut_13 : decode cL_cut 13 = .ok (.astore 4, 2) := by decide +kernel
theorem dL_cut_15 : decode cL_cut 15 = .ok (.iconst 1, 1) := by decide +kernel
theorem dL_cut_16 : decode cL_cut 16 = .ok (.ireturn, 1) := by decide +kernel
theorem dL_cut_17 : decode cL_cut 17 = .ok (.astore 4, 2) := by decide +kernel
theorem dL_cut_19 : decode cL_cut 19 = .ok (.iconst 2, 1) := by decide +kernel
theorem dL_cut_20 : decode cL_cut 20 = .ok (.ireturn, 1) := by decide +kernel
theorem dL_cut_21 : decode cL_cut 21 = .ok (.iconst 0, 1) := by decide +kernel
theorem dL_cut_22 : decode cL_cut 22 = .ok (.ireturn, 1) := by decide +kernel
theorem dL_heat_0 : decode cL_heat 0 = .ok (.aload_n 3, 1) := by decide +kernel
theorem dL_heat_1 : decode cL_heat 1 = .ok (.iconst 0, 1) := by decide +kernel
theorem dL_heat_2 : decode cL_heat 2 = .ok (.aload_n 0, 1) := by decide +kernel
theorem dL_heat_3 : decode cL_heat 3 = .ok (.iload_n 1, 1) := by decide +kernel
theorem dL_heat_4 : decode cL_heat 4 = .ok (.iload_n 2, 1) := by decide +kernel
theorem dL_heat_5 : decode cL_heat 5 = .ok (.invokevirtual 61, 3) := by decide +kernel
theorem dL_heat_8 : decode cL_heat 8 = .ok (.ifCond .eq 7, 3) := by decide +kernel
theorem dL_heat_11 : decode cL_heat 11 = .ok (.lconst 1, 1) := by decide +kernel
theorem dL_heat_12 : decode cL_heat 12 = .ok (.goto 4, 3) := by decide +kernel
theorem dL_heat_15 : decode cL_heat 15 = .ok (.lconst 0, 1) := by decide +kernel
theorem dL_heat_16 : decode cL_heat 16 = .ok (.lastore, 1) := by decide +kernel
theorem dL_heat_17 : decode cL_heat 17 = .ok (.goto 7, 3) := by decide +kernel
theorem dL_heat_20 : decode cL_heat 20 = .ok (.astore 4, 2) := by decide +kernel
theorem dL_heat_22 : decode cL_heat 22 = .ok (.iconst 1, 1) := by decide +kernel
theorem dL_heat_23 : decode cL_heat 23 = .ok (.ireturn, 1) := by decide +kernel
theorem dL_heat_24 : decode cL_heat 24 = .ok (.iconst 0, 1) := by decide +kernel
theorem dL_heat_25 : decode cL_heat 25 = .ok (.ireturn, 1) := by decide +kernel
theorem dL_burn_0 : decode cL_burn 0 = .ok (.aload_n 2, 1) := by decide +kernel
theorem dL_burn_1 : decode cL_burn 1 = .ok (.iconst 0, 1) := by decide +kernel
theorem dL_burn_2 : decode cL_burn 2 = .ok (.aload_n 0, 1) := by decide +kernel
theorem dL_burn_3 : decode cL_burn 3 = .ok (.iload_n 1, 1) := by decide +kernel
theorem dL_burn_4 : decode cL_burn 4 = .ok (.invokevirtual 64, 3) := by decide +kernel
theorem dL_burn_7 : decode cL_burn 7 = .ok (.i2l, 1) := by decide +kernel
theorem dL_burn_8 : decode cL_burn 8 = .ok (.lastore, 1) := by decide +kernel
theorem dL_burn_9 : decode cL_burn 9 = .ok (.goto 6, 3) := by decide +kernel
theorem dL_burn_12 : decode cL_burn 12 = .ok (.astore_n 3, 1) := by decide +kernel
theorem dL_burn_13 : decode cL_burn 13 = .ok (.iconst 1, 1) := by decide +kernel
theorem dL_burn_14 : decode cL_burn 14 = .ok (.ireturn, 1) := by decide +kernel
theorem dL_burn_15 : decode cL_burn 15 = .ok (.iconst 0, 1) := by decide +kernel
theorem dL_burn_16 : decode cL_burn 16 = .ok (.ireturn, 1) := by decide +kernel
theorem dL_weeks_0 : decode cL_weeks 0 = .ok (.aload_n 2, 1) := by decide +kernel
theorem dL_weeks_1 : decode cL_weeks 1 = .ok (.iconst 0, 1) := by decide +kernel
theorem dL_weeks_2 : decode cL_weeks 2 = .ok (.aload_n 0, 1) := by decide +kernel
theorem dL_weeks_3 : decode cL_weeks 3 = .ok (.iload_n 1, 1) := by decide +kernel
theorem dL_weeks_4 : decode cL_weeks 4 = .ok (.invokevirtual 67, 3) := by decide +kernel
theorem dL_weeks_7 : decode cL_weeks 7 = .ok (.i2l, 1) := by decide +kernel
theorem dL_weeks_8 : decode cL_weeks 8 = .ok (.lastore, 1) := by decide +kernel
theorem dL_weeks_9 : decode cL_weeks 9 = .ok (.goto 6, 3) := by decide +kernel
theorem dL_weeks_12 : decode cL_weeks 12 = .ok (.astore_n 3, 1) := by decide +kernel
theorem dL_weeks_13 : decode cL_weeks 13 = .ok (.iconst 1, 1) := by decide +kernel
theorem dL_weeks_14 : decode cL_weeks 14 = .ok (.ireturn, 1) := by decide +kernel
theorem dL_weeks_15 : decode cL_weeks 15 = .ok (.iconst 0, 1) := by decide +kernel
theorem dL_weeks_16 : decode cL_weeks 16 = .ok (.ireturn, 1) := by decide +kernel
theorem dL_ahead_0 : decode cL_ahead 0 = .ok (.aload 4, 2) := by decide +kernel
theorem dL_ahead_2 : decode cL_ahead 2 = .ok (.iconst 0, 1) := by decide +kernel
theorem dL_ahead_3 : decode cL_ahead 3 = .ok (.aload_n 0, 1) := by decide +kernel
theorem dL_ahead_4 : decode cL_ahead 4 = .ok (.iload_n 1, 1) := by decide +kernel
theorem dL_ahead_5 : decode cL_ahead 5 = .ok (.iload_n 2, 1) := by decide +kernel
theorem dL_ahead_6 : decode cL_ahead 6 = .ok (.iload_n 3, 1) := by decide +kernel
theorem dL_ahead_7 : decode cL_ahead 7 = .ok (.invokevirtual 70, 3) := by decide +kernel
theorem dL_ahead_10 : decode cL_ahead 10 = .ok (.i2l, 1) := by decide +kernel
theorem dL_ahead_11 : decode cL_ahead 11 = .ok (.lastore, 1) := by decide +kernel
theorem dL_ahead_12 : decode cL_ahead 12 = .ok (.goto 15, 3) := by decide +kernel
theorem dL_ahead_15 : decode cL_ahead 15 = .ok (.astore 5, 2) := by decide +kernel
theorem dL_ahead_17 : decode cL_ahead 17 = .ok (.iconst 1, 1) := by decide +kernel
theorem dL_ahead_18 : decode cL_ahead 18 = .ok (.ireturn, 1) := by decide +kernel
theorem dL_ahead_19 : decode cL_ahead 19 = .ok (.astore 5, 2) := by decide +kernel
theorem dL_ahead_21 : decode cL_ahead 21 = .ok (.iconst 2, 1) := by decide +kernel
theorem dL_ahead_22 : decode cL_ahead 22 = .ok (.ireturn, 1) := by decide +kernel
theorem dL_ahead_23 : decode cL_ahead 23 = .ok (.astore 5, 2) := by decide +kernel
theorem dL_ahead_25 : decode cL_ahead 25 = .ok (.iconst 3, 1) := by decide +kernel
theorem dL_ahead_26 : decode cL_ahead 26 = .ok (.ireturn, 1) := by decide +kernel
theorem dL_ahead_27 : decode cL_ahead 27 = .ok (.iconst 0, 1) := by decide +kernel
theorem dL_ahead_28 : decode cL_ahead 28 = .ok (.ireturn, 1) := by decide +kernel
theorem dL_says_0 : decode cL_says 0 = .ok (.aload 4, 2) := by decide +kernel
theorem dL_says_2 : decode cL_says 2 = .ok (.iconst 0, 1) := by decide +kernel
theorem dL_says_3 : decode cL_says 3 = .ok (.aload_n 0, 1) := by decide +kernel
theorem dL_says_4 : decode cL_says 4 = .ok (.iload_n 1, 1) := by decide +kernel
theorem dL_says_5 : decode cL_says 5 = .ok (.iload_n 2, 1) := by decide +kernel
theorem dL_says_6 : decode cL_says 6 = .ok (.iload_n 3, 1) := by decide +kernel
theorem dL_says_7 : decode cL_says 7 = .ok (.invokevirtual 74, 3) := by decide +kernel
theorem dL_says_10 : decode cL_says 10 = .ok (.i2l, 1) := by decide +kernel
theorem dL_says_11 : decode cL_says 11 = .ok (.lastore, 1) := by decide +kernel
theorem dL_says_12 : decode cL_says 12 = .ok (.goto 7, 3) := by decide +kernel
theorem dL_says_15 : decode cL_says 15 = .ok (.astore 5, 2) := by decide +kernel
theorem dL_says_17 : decode cL_says 17 = .ok (.iconst 1, 1) := by decide +kernel
theorem dL_says_18 : decode cL_says 18 = .ok (.ireturn, 1) := by decide +kernel
theorem dL_says_19 : decode cL_says 19 = .ok (.iconst 0, 1) := by decide +kernel
theorem dL_says_20 : decode cL_says 20 = .ok (.ireturn, 1) := by decide +kernel
theorem dL_stops_0 : decode cL_stops 0 = .ok (.aload_n 2, 1) := by decide +kernel
theorem dL_stops_1 : decode cL_stops 1 = .ok (.iconst 0, 1) := by decide +kernel
theorem dL_stops_2 : decode cL_stops 2 = .ok (.aload_n 0, 1) := by decide +kernel
theorem dL_stops_3 : decode cL_stops 3 = .ok (.iload_n 1, 1) := by decide +kernel
theorem dL_stops_4 : decode cL_stops 4 = .ok (.invokevirtual 77, 3) := by decide +kernel
theorem dL_stops_7 : decode cL_stops 7 = .ok (.i2l, 1) := by decide +kernel
theorem dL_stops_8 : decode cL_stops 8 = .ok (.lastore, 1) := by decide +kernel
theorem dL_stops_9 : decode cL_stops 9 = .ok (.goto 6, 3) := by decide +kernel
theorem dL_stops_12 : decode cL_stops 12 = .ok (.astore_n 3, 1) := by decide +kernel
theorem dL_stops_13 : decode cL_stops 13 = .ok (.iconst 1, 1) := by decide +kernel
theorem dL_stops_14 : decode cL_stops 14 = .ok (.ireturn, 1) := by decide +kernel
theorem dL_stops_15 : decode cL_stops 15 = .ok (.iconst 0, 1) := by decide +kernel
theorem dL_stops_16 : decode cL_stops 16 = .ok (.ireturn, 1) := by decide +kernel
theorem dL_stays_0 : decode cL_stays 0 = .ok (.aload_n 3, 1) := by decide +kernel
theorem dL_stays_1 : decode cL_stays 1 = .ok (.iconst 0, 1) := by decide +kernel
theorem dL_stays_2 : decode cL_stays 2 = .ok (.aload_n 0, 1) := by decide +kernel
theorem dL_stays_3 : decode cL_stays 3 = .ok (.iload_n 1, 1) := by decide +kernel
theorem dL_stays_4 : decode cL_stays 4 = .ok (.iload_n 2, 1) := by decide +kernel
theorem dL_stays_5 : decode cL_stays 5 = .ok (.invokevirtual 80, 3) := by decide +kernel
theorem dL_stays_8 : decode cL_stays 8 = .ok (.i2l, 1) := by decide +kernel
theorem dL_stays_9 : decode cL_stays 9 = .ok (.lastore, 1) := by decide +kernel
theorem dL_stays_10 : decode cL_stays 10 = .ok (.goto 7, 3) := by decide +kernel
theorem dL_stays_13 : decode cL_stays 13 = .ok (.astore 4, 2) := by decide +kernel
theorem dL_stays_15 : decode cL_stays 15 = .ok (.iconst 1, 1) := by decide +kernel
theorem dL_stays_16 : decode cL_stays 16 = .ok (.ireturn, 1) := by decide +kernel
theorem dL_stays_17 : decode cL_stays 17 = .ok (.iconst 0, 1) := by decide +kernel
theorem dL_stays_18 : decode cL_stays 18 = .ok (.ireturn, 1) := by decide +kernel
theorem dL_send_0 : decode cL_send 0 = .ok (.aload 6, 2) := by decide +kernel
theorem dL_send_2 : decode cL_send 2 = .ok (.iconst 0, 1) := by decide +kernel
theorem dL_send_3 : decode cL_send 3 = .ok (.aload_n 0, 1) := by decide +kernel
theorem dL_send_4 : decode cL_send 4 = .ok (.iload_n 1, 1) := by decide +kernel
theorem dL_send_5 : decode cL_send 5 = .ok (.iload_n 2, 1) := by decide +kernel
theorem dL_send_6 : decode cL_send 6 = .ok (.iload_n 3, 1) := by decide +kernel
theorem dL_send_7 : decode cL_send 7 = .ok (.iload 4, 2) := by decide +kernel
theorem dL_send_9 : decode cL_send 9 = .ok (.iload 5, 2) := by decide +kernel
theorem dL_send_11 : decode cL_send 11 = .ok (.invokevirtual 83, 3) := by decide +kernel
theorem dL_send_14 : decode cL_send 14 = .ok (.i2l, 1) := by decide +kernel
theorem dL_send_15 : decode cL_send 15 = .ok (.lastore, 1) := by decide +kernel
theorem dL_send_16 : decode cL_send 16 = .ok (.goto 11, 3) := by decide +kernel
theorem dL_send_19 : decode cL_send 19 = .ok (.astore 7, 2) := by decide +kernel
theorem dL_send_21 : decode cL_send 21 = .ok (.iconst 1, 1) := by decide +kernel
theorem dL_send_22 : decode cL_send 22 = .ok (.ireturn, 1) := by decide +kernel
theorem dL_send_23 : decode cL_send 23 = .ok (.astore 7, 2) := by decide +kernel
theorem dL_send_25 : decode cL_send 25 = .ok (.iconst 2, 1) := by decide +kernel
theorem dL_send_26 : decode cL_send 26 = .ok (.ireturn, 1) := by decide +kernel
theorem dL_send_27 : decode cL_send 27 = .ok (.iconst 0, 1) := by decide +kernel
theorem dL_send_28 : decode cL_send 28 = .ok (.ireturn, 1) := by decide +kernel
theorem dL_cuts_0 : decode cL_cuts 0 = .ok (.aload 5, 2) := by decide +kernel
theorem dL_cuts_2 : decode cL_cuts 2 = .ok (.iconst 0, 1) := by decide +kernel
theorem dL_cuts_3 : decode cL_cuts 3 = .ok (.aload_n 0, 1) := by decide +kernel
theorem dL_cuts_4 : decode cL_cuts 4 = .ok (.iload_n 1, 1) := by decide +kernel
theorem dL_cuts_5 : decode cL_cuts 5 = .ok (.iload_n 2, 1) := by decide +kernel
theorem dL_cuts_6 : decode cL_cuts 6 = .ok (.iload_n 3, 1) := by decide +kernel
theorem dL_cuts_7 : decode cL_cuts 7 = .ok (.iload 4, 2) := by decide +kernel
theorem dL_cuts_9 : decode cL_cuts 9 = .ok (.invokevirtual 87, 3) := by decide +kernel
theorem dL_cuts_12 : decode cL_cuts 12 = .ok (.i2l, 1) := by decide +kernel
theorem dL_cuts_13 : decode cL_cuts 13 = .ok (.lastore, 1) := by decide +kernel
theorem dL_cuts_14 : decode cL_cuts 14 = .ok (.goto 11, 3) := by decide +kernel
theorem dL_cuts_17 : decode cL_cuts 17 = .ok (.astore 6, 2) := by decide +kernel
theorem dL_cuts_19 : decode cL_cuts 19 = .ok (.iconst 1, 1) := by decide +kernel
theorem dL_cuts_20 : decode cL_cuts 20 = .ok (.ireturn, 1) := by decide +kernel
theorem dL_cuts_21 : decode cL_cuts 21 = .ok (.astore 6, 2) := by decide +kernel
theorem dL_cuts_23 : decode cL_cuts 23 = .ok (.iconst 2, 1) := by decide +kernel
theorem dL_cuts_24 : decode cL_cuts 24 = .ok (.ireturn, 1) := by decide +kernel
theorem dL_cuts_25 : decode cL_cuts 25 = .ok (.iconst 0, 1) := by decide +kernel
theorem dL_cuts_26 : decode cL_cuts 26 = .ok (.ireturn, 1) := by decide +kernel
theorem dL_out_0 : decode cL_out 0 = .ok (.aload 5, 2) := by decide +kernel
theorem dL_out_2 : decode cL_out 2 = .ok (.iconst 0, 1) := by decide +kernel
theorem dL_out_3 : decode cL_out 3 = .ok (.aload_n 0, 1) := by decide +kernel
theorem dL_out_4 : decode cL_out 4 = .ok (.iload_n 1, 1) := by decide +kernel
theorem dL_out_5 : decode cL_out 5 = .ok (.iload_n 2, 1) := by decide +kernel
theorem dL_out_6 : decode cL_out 6 = .ok (.iload_n 3, 1) := by decide +kernel
theorem dL_out_7 : decode cL_out 7 = .ok (.iload 4, 2) := by decide +kernel
theorem dL_out_9 : decode cL_out 9 = .ok (.invokevirtual 91, 3) := by decide +kernel
theorem dL_out_12 : decode cL_out 12 = .ok (.i2l, 1) := by decide +kernel
theorem dL_out_13 : decode cL_out 13 = .ok (.lastore, 1) := by decide +kernel
theorem dL_out_14 : decode cL_out 14 = .ok (.goto 11, 3) := by decide +kernel
theorem dL_out_17 : decode cL_out 17 = .ok (.astore 6, 2) := by decide +kernel
theorem dL_out_19 : decode cL_out 19 = .ok (.iconst 1, 1) := by decide +kernel
theorem dL_out_20 : decode cL_out 20 = .ok (.ireturn, 1) := by decide +kernel
theorem dL_out_21 : decode cL_out 21 = .ok (.astore 6, 2) := by decide +kernel
theorem dL_out_23 : decode cL_out 23 = .ok (.iconst 2, 1) := by decide +kernel
theorem dL_out_24 : decode cL_out 24 = .ok (.ireturn, 1) := by decide +kernel
theorem dL_out_25 : decode cL_out 25 = .ok (.iconst 0, 1) := by decide +kernel
theorem dL_out_26 : decode cL_out 26 = .ok (.ireturn, 1) := by decide +kernel
theorem dL_astray_0 : decode cL_astray 0 = .ok (.aload_n 2, 1) := by decide +kernel
theorem dL_astray_1 : decode cL_astray 1 = .ok (.iconst 0, 1) := by decide +kernel
theorem dL_astray_2 : decode cL_astray 2 = .ok (.aload_n 0, 1) := by decide +kernel
theorem dL_astray_3 : decode cL_astray 3 = .ok (.iload_n 1, 1) := by decide +kernel
theorem dL_astray_4 : decode cL_astray 4 = .ok (.invokevirtual 94, 3) := by decide +kernel
theorem dL_astray_7 : decode cL_astray 7 = .ok (.i2l, 1) := by decide +kernel
theorem dL_astray_8 : decode cL_astray 8 = .ok (.lastore, 1) := by decide +kernel
theorem dL_astray_9 : decode cL_astray 9 = .ok (.goto 6, 3) := by decide +kernel
theorem dL_astray_12 : decode cL_astray 12 = .ok (.astore_n 3, 1) := by decide +kernel
theorem dL_astray_13 : decode cL_astray 13 = .ok (.iconst 1, 1) := by decide +kernel
theorem dL_astray_14 : decode cL_astray 14 = .ok (.ireturn, 1) := by decide +kernel
theorem dL_astray_15 : decode cL_astray 15 = .ok (.iconst 0, 1) := by decide +kernel
theorem dL_astray_16 : decode cL_astray 16 = .ok (.ireturn, 1) := by decide +kernel
theorem dL_written_0 : decode cL_written 0 = .ok (.aload_n 2, 1) := by decide +kernel
theorem dL_written_1 : decode cL_written 1 = .ok (.iconst 0, 1) := by decide +kernel
theorem dL_written_2 : decode cL_written 2 = .ok (.aload_n 0, 1) := by decide +kernel
theorem dL_written_3 : decode cL_written 3 = .ok (.iload_n 1, 1) := by decide +kernel
theorem dL_written_4 : decode cL_written 4 = .ok (.invokevirtual 97, 3) := by decide +kernel
theorem dL_written_7 : decode cL_written 7 = .ok (.i2l, 1) := by decide +kernel
theorem dL_written_8 : decode cL_written 8 = .ok (.lastore, 1) := by decide +kernel
theorem dL_written_9 : decode cL_written 9 = .ok (.goto 6, 3) := by decide +kernel
theorem dL_written_12 : decode cL_written 12 = .ok (.astore_n 3, 1) := by decide +kernel
theorem dL_written_13 : decode cL_written 13 = .ok (.iconst 1, 1) := by decide +kernel
theorem dL_written_14 : decode cL_written 14 = .ok (.ireturn, 1) := by decide +kernel
theorem dL_written_15 : decode cL_written 15 = .ok (.iconst 0, 1) := by decide +kernel
theorem dL_written_16 : decode cL_written 16 = .ok (.ireturn, 1) := by decide +kernel
theorem dL_senseless_0 : decode cL_senseless 0 = .ok (.aload_n 2, 1) := by decide +kernel
theorem dL_senseless_1 : decode cL_senseless 1 = .ok (.iconst 0, 1) := by decide +kernel
theorem dL_senseless_2 : decode cL_senseless 2 = .ok (.aload_n 0, 1) := by decide +kernel
theorem dL_senseless_3 : decode cL_senseless 3 = .ok (.iload_n 1, 1) := by decide +kernel
theorem dL_senseless_4 : decode cL_senseless 4 = .ok (.invokevirtual 100, 3) := by decide +kernel
theorem dL_senseless_7 : decode cL_senseless 7 = .ok (.i2l, 1) := by decide +kernel
theorem dL_senseless_8 : decode cL_senseless 8 = .ok (.lastore, 1) := by decide +kernel
theorem dL_senseless_9 : decode cL_senseless 9 = .ok (.goto 6, 3) := by decide +kernel
theorem dL_senseless_12 : decode cL_senseless 12 = .ok (.astore_n 3, 1) := by decide +kernel
theorem dL_senseless_13 : decode cL_senseless 13 = .ok (.iconst 1, 1) := by decide +kernel
theorem dL_senseless_14 : decode cL_senseless 14 = .ok (.ireturn, 1) := by decide +kernel
theorem dL_senseless_15 : decode cL_senseless 15 = .ok (.iconst 0, 1) := by decide +kernel
theorem dL_senseless_16 : decode cL_senseless 16 = .ok (.ireturn, 1) := by decide +kernel
theorem dL_meet_0 : decode cL_meet 0 = .ok (.aload 4, 2) := by decide +kernel
theorem dL_meet_2 : decode cL_meet 2 = .ok (.iconst 0, 1) := by decide +kernel
theorem dL_meet_3 : decode cL_meet 3 = .ok (.aload_n 0, 1) := by decide +kernel
theorem dL_meet_4 : decode cL_meet 4 = .ok (.iload_n 1, 1) := by decide +kernel
theorem dL_meet_5 : decode cL_meet 5 = .ok (.iload_n 2, 1) := by decide +kernel
theorem dL_meet_6 : decode cL_meet 6 = .ok (.iload_n 3, 1) := by decide +kernel
theorem dL_meet_7 : decode cL_meet 7 = .ok (.invokevirtual 103, 3) := by decide +kernel
theorem dL_meet_10 : decode cL_meet 10 = .ok (.i2l, 1) := by decide +kernel
theorem dL_meet_11 : decode cL_meet 11 = .ok (.lastore, 1) := by decide +kernel
theorem dL_meet_12 : decode cL_meet 12 = .ok (.goto 11, 3) := by decide +kernel
theorem dL_meet_15 : decode cL_meet 15 = .ok (.astore 5, 2) := by decide +kernel
theorem dL_meet_17 : decode cL_meet 17 = .ok (.iconst 1, 1) := by decide +kernel
theorem dL_meet_18 : decode cL_meet 18 = .ok (.ireturn, 1) := by decide +kernel
theorem dL_meet_19 : decode cL_meet 19 = .ok (.astore 5, 2) := by decide +kernel
theorem dL_meet_21 : decode cL_meet 21 = .ok (.iconst 2, 1) := by decide +kernel
theorem dL_meet_22 : decode cL_meet 22 = .ok (.ireturn, 1) := by decide +kernel
theorem dL_meet_23 : decode cL_meet 23 = .ok (.iconst 0, 1) := by decide +kernel
theorem dL_meet_24 : decode cL_meet 24 = .ok (.ireturn, 1) := by decide +kernel
theorem dL_part_0 : decode cL_part 0 = .ok (.aload_n 3, 1) := by decide +kernel
theorem dL_part_1 : decode cL_part 1 = .ok (.iconst 0, 1) := by decide +kernel
theorem dL_part_2 : decode cL_part 2 = .ok (.aload_n 0, 1) := by decide +kernel
theorem dL_part_3 : decode cL_part 3 = .ok (.iload_n 1, 1) := by decide +kernel
theorem dL_part_4 : decode cL_part 4 = .ok (.iload_n 2, 1) := by decide +kernel
theorem dL_part_5 : decode cL_part 5 = .ok (.invokevirtual 106, 3) := by decide +kernel
theorem dL_part_8 : decode cL_part 8 = .ok (.i2l, 1) := by decide +kernel
theorem dL_part_9 : decode cL_part 9 = .ok (.lastore, 1) := by decide +kernel
theorem dL_part_10 : decode cL_part 10 = .ok (.goto 11, 3) := by decide +kernel
theorem dL_part_13 : decode cL_part 13 = .ok (.astore 4, 2) := by decide +kernel
theorem dL_part_15 : decode cL_part 15 = .ok (.iconst 1, 1) := by decide +kernel
theorem dL_part_16 : decode cL_part 16 = .ok (.ireturn, 1) := by decide +kernel
theorem dL_part_17 : decode cL_part 17 = .ok (.astore 4, 2) := by decide +kernel
theorem dL_part_19 : decode cL_part 19 = .ok (.iconst 2, 1) := by decide +kernel
theorem dL_part_20 : decode cL_part 20 = .ok (.ireturn, 1) := by decide +kernel
theorem dL_part_21 : decode cL_part 21 = .ok (.iconst 0, 1) := by decide +kernel
theorem dL_part_22 : decode cL_part 22 = .ok (.ireturn, 1) := by decide +kernel
theorem dL_bound_0 : decode cL_bound 0 = .ok (.aload_n 3, 1) := by decide +kernel
theorem dL_bound_1 : decode cL_bound 1 = .ok (.iconst 0, 1) := by decide +kernel
theorem dL_bound_2 : decode cL_bound 2 = .ok (.aload_n 0, 1) := by decide +kernel
theorem dL_bound_3 : decode cL_bound 3 = .ok (.iload_n 1, 1) := by decide +kernel
theorem dL_bound_4 : decode cL_bound 4 = .ok (.iload_n 2, 1) := by decide +kernel
theorem dL_bound_5 : decode cL_bound 5 = .ok (.invokevirtual 109, 3) := by decide +kernel
theorem dL_bound_8 : decode cL_bound 8 = .ok (.i2l, 1) := by decide +kernel
theorem dL_bound_9 : decode cL_bound 9 = .ok (.lastore, 1) := by decide +kernel
theorem dL_bound_10 : decode cL_bound 10 = .ok (.goto 11, 3) := by decide +kernel
theorem dL_bound_13 : decode cL_bound 13 = .ok (.astore 4, 2) := by decide +kernel
theorem dL_bound_15 : decode cL_bound 15 = .ok (.iconst 1, 1) := by decide +kernel
theorem dL_bound_16 : decode cL_bound 16 = .ok (.ireturn, 1) := by decide +kernel
theorem dL_bound_17 : decode cL_bound 17 = .ok (.astore 4, 2) := by decide +kernel
theorem dL_bound_19 : decode cL_bound 19 = .ok (.iconst 2, 1) := by decide +kernel
theorem dL_bound_20 : decode cL_bound 20 = .ok (.ireturn, 1) := by decide +kernel
theorem dL_bound_21 : decode cL_bound 21 = .ok (.iconst 0, 1) := by decide +kernel
theorem dL_bound_22 : decode cL_bound 22 = .ok (.ireturn, 1) := by decide +kernel
theorem dL_when_0 : decode cL_when 0 = .ok (.aload_n 3, 1) := by decide +kernel
theorem dL_when_1 : decode cL_when 1 = .ok (.iconst 0, 1) := by decide +kernel
theorem dL_when_2 : decode cL_when 2 = .ok (.aload_n 0, 1) := by decide +kernel
theorem dL_when_3 : decode cL_when 3 = .ok (.iload_n 1, 1) := by decide +kernel
theorem dL_when_4 : decode cL_when 4 = .ok (.iload_n 2, 1) := by decide +kernel
theorem dL_when_5 : decode cL_when 5 = .ok (.invokevirtual 112, 3) := by decide +kernel
theorem dL_when_8 : decode cL_when 8 = .ok (.i2l, 1) := by decide +kernel
theorem dL_when_9 : decode cL_when 9 = .ok (.lastore, 1) := by decide +kernel
theorem dL_when_10 : decode cL_when 10 = .ok (.goto 7, 3) := by decide +kernel
theorem dL_when_13 : decode cL_when 13 = .ok (.astore 4, 2) := by decide +kernel
theorem dL_when_15 : decode cL_when 15 = .ok (.iconst 1, 1) := by decide +kernel
theorem dL_when_16 : decode cL_when 16 = .ok (.ireturn, 1) := by decide +kernel
theorem dL_when_17 : decode cL_when 17 = .ok (.iconst 0, 1) := by decide +kernel
theorem dL_when_18 : decode cL_when 18 = .ok (.ireturn, 1) := by decide +kernel
theorem dL_soonest_0 : decode cL_soonest 0 = .ok (.aload_n 2, 1) := by decide +kernel
theorem dL_soonest_1 : decode cL_soonest 1 = .ok (.iconst 0, 1) := by decide +kernel
theorem dL_soonest_2 : decode cL_soonest 2 = .ok (.aload_n 0, 1) := by decide +kernel
theorem dL_soonest_3 : decode cL_soonest 3 = .ok (.iload_n 1, 1) := by decide +kernel
theorem dL_soonest_4 : decode cL_soonest 4 = .ok (.invokevirtual 115, 3) := by decide +kernel
theorem dL_soonest_7 : decode cL_soonest 7 = .ok (.i2l, 1) := by decide +kernel
theorem dL_soonest_8 : decode cL_soonest 8 = .ok (.lastore, 1) := by decide +kernel
theorem dL_soonest_9 : decode cL_soonest 9 = .ok (.goto 6, 3) := by decide +kernel
theorem dL_soonest_12 : decode cL_soonest 12 = .ok (.astore_n 3, 1) := by decide +kernel
theorem dL_soonest_13 : decode cL_soonest 13 = .ok (.iconst 1, 1) := by decide +kernel
theorem dL_soonest_14 : decode cL_soonest 14 = .ok (.ireturn, 1) := by decide +kernel
theorem dL_soonest_15 : decode cL_soonest 15 = .ok (.iconst 0, 1) := by decide +kernel
theorem dL_soonest_16 : decode cL_soonest 16 = .ok (.ireturn, 1) := by decide +kernel
theorem dL_guess_0 : decode cL_guess 0 = .ok (.aload_n 2, 1) := by decide +kernel
theorem dL_guess_1 : decode cL_guess 1 = .ok (.iconst 0, 1) := by decide +kernel
theorem dL_guess_2 : decode cL_guess 2 = .ok (.aload_n 0, 1) := by decide +kernel
theorem dL_guess_3 : decode cL_guess 3 = .ok (.iload_n 1, 1) := by decide +kernel
theorem dL_guess_4 : decode cL_guess 4 = .ok (.invokevirtual 118, 3) := by decide +kernel
theorem dL_guess_7 : decode cL_guess 7 = .ok (.i2l, 1) := by decide +kernel
theorem dL_guess_8 : decode cL_guess 8 = .ok (.lastore, 1) := by decide +kernel
theorem dL_guess_9 : decode cL_guess 9 = .ok (.goto 6, 3) := by decide +kernel
theorem dL_guess_12 : decode cL_guess 12 = .ok (.astore_n 3, 1) := by decide +kernel
theorem dL_guess_13 : decode cL_guess 13 = .ok (.iconst 1, 1) := by decide +kernel
theorem dL_guess_14 : decode cL_guess 14 = .ok (.ireturn, 1) := by decide +kernel
theorem dL_guess_15 : decode cL_guess 15 = .ok (.iconst 0, 1) := by decide +kernel
theorem dL_guess_16 : decode cL_guess 16 = .ok (.ireturn, 1) := by decide +kernel
theorem dL_postage_0 : decode cL_postage 0 = .ok (.aload 4, 2) := by decide +kernel
theorem dL_postage_2 : decode cL_postage 2 = .ok (.iconst 0, 1) := by decide +kernel
theorem dL_postage_3 : decode cL_postage 3 = .ok (.aload_n 0, 1) := by decide +kernel
theorem dL_postage_4 : decode cL_postage 4 = .ok (.iload_n 1, 1) := by decide +kernel
theorem dL_postage_5 : decode cL_postage 5 = .ok (.iload_n 2, 1) := by decide +kernel
theorem dL_postage_6 : decode cL_postage 6 = .ok (.iload_n 3, 1) := by decide +kernel
theorem dL_postage_7 : decode cL_postage 7 = .ok (.invokevirtual 121, 3) := by decide +kernel
theorem dL_postage_10 : decode cL_postage 10 = .ok (.i2l, 1) := by decide +kernel
theorem dL_postage_11 : decode cL_postage 11 = .ok (.lastore, 1) := by decide +kernel
theorem dL_postage_12 : decode cL_postage 12 = .ok (.goto 11, 3) := by decide +kernel
theorem dL_postage_15 : decode cL_postage 15 = .ok (.astore 5, 2) := by decide +kernel
theorem dL_postage_17 : decode cL_postage 17 = .ok (.iconst 1, 1) := by decide +kernel
theorem dL_postage_18 : decode cL_postage 18 = .ok (.ireturn, 1) := by decide +kernel
theorem dL_postage_19 : decode cL_postage 19 = .ok (.astore 5, 2) := by decide +kernel
theorem dL_postage_21 : decode cL_postage 21 = .ok (.iconst 2, 1) := by decide +kernel
theorem dL_postage_22 : decode cL_postage 22 = .ok (.ireturn, 1) := by decide +kernel
theorem dL_postage_23 : decode cL_postage 23 = .ok (.iconst 0, 1) := by decide +kernel
theorem dL_postage_24 : decode cL_postage 24 = .ok (.ireturn, 1) := by decide +kernel
theorem dL_forks_0 : decode cL_forks 0 = .ok (.aload_n 3, 1) := by decide +kernel
theorem dL_forks_1 : decode cL_forks 1 = .ok (.iconst 0, 1) := by decide +kernel
theorem dL_forks_2 : decode cL_forks 2 = .ok (.aload_n 0, 1) := by decide +kernel
theorem dL_forks_3 : decode cL_forks 3 = .ok (.iload_n 1, 1) := by decide +kernel
theorem dL_forks_4 : decode cL_forks 4 = .ok (.iload_n 2, 1) := by decide +kernel
theorem dL_forks_5 : decode cL_forks 5 = .ok (.invokevirtual 124, 3) := by decide +kernel
theorem dL_forks_8 : decode cL_forks 8 = .ok (.i2l, 1) := by decide +kernel
theorem dL_forks_9 : decode cL_forks 9 = .ok (.lastore, 1) := by decide +kernel
theorem dL_forks_10 : decode cL_forks 10 = .ok (.goto 11, 3) := by decide +kernel
theorem dL_forks_13 : decode cL_forks 13 = .ok (.astore 4, 2) := by decide +kernel
theorem dL_forks_15 : decode cL_forks 15 = .ok (.iconst 1, 1) := by decide +kernel
theorem dL_forks_16 : decode cL_forks 16 = .ok (.ireturn, 1) := by decide +kernel
theorem dL_forks_17 : decode cL_forks 17 = .ok (.astore 4, 2) := by decide +kernel
theorem dL_forks_19 : decode cL_forks 19 = .ok (.iconst 2, 1) := by decide +kernel
theorem dL_forks_20 : decode cL_forks 20 = .ok (.ireturn, 1) := by decide +kernel
theorem dL_forks_21 : decode cL_forks 21 = .ok (.iconst 0, 1) := by decide +kernel
theorem dL_forks_22 : decode cL_forks 22 = .ok (.ireturn, 1) := by decide +kernel
theorem dL_ripe_0 : decode cL_ripe 0 = .ok (.aload_n 3, 1) := by decide +kernel
theorem dL_ripe_1 : decode cL_ripe 1 = .ok (.iconst 0, 1) := by decide +kernel
theorem dL_ripe_2 : decode cL_ripe 2 = .ok (.aload_n 0, 1) := by decide +kernel
theorem dL_ripe_3 : decode cL_ripe 3 = .ok (.iload_n 1, 1) := by decide +kernel
theorem dL_ripe_4 : decode cL_ripe 4 = .ok (.iload_n 2, 1) := by decide +kernel
theorem dL_ripe_5 : decode cL_ripe 5 = .ok (.invokevirtual 127, 3) := by decide +kernel
theorem dL_ripe_8 : decode cL_ripe 8 = .ok (.i2l, 1) := by decide +kernel
theorem dL_ripe_9 : decode cL_ripe 9 = .ok (.lastore, 1) := by decide +kernel
theorem dL_ripe_10 : decode cL_ripe 10 = .ok (.goto 7, 3) := by decide +kernel
theorem dL_ripe_13 : decode cL_ripe 13 = .ok (.astore 4, 2) := by decide +kernel
theorem dL_ripe_15 : decode cL_ripe 15 = .ok (.iconst 1, 1) := by decide +kernel
theorem dL_ripe_16 : decode cL_ripe 16 = .ok (.ireturn, 1) := by decide +kernel
theorem dL_ripe_17 : decode cL_ripe 17 = .ok (.iconst 0, 1) := by decide +kernel
theorem dL_ripe_18 : decode cL_ripe 18 = .ok (.ireturn, 1) := by decide +kernel
theorem dL_has_0 : decode cL_has 0 = .ok (.aload_n 2, 1) := by decide +kernel
theorem dL_has_1 : decode cL_has 1 = .ok (.iconst 0, 1) := by decide +kernel
theorem dL_has_2 : decode cL_has 2 = .ok (.aload_n 0, 1) := by decide +kernel
theorem dL_has_3 : decode cL_has 3 = .ok (.iload_n 1, 1) := by decide +kernel
theorem dL_has_4 : decode cL_has 4 = .ok (.invokevirtual 130, 3) := by decide +kernel
theorem dL_has_7 : decode cL_has 7 = .ok (.i2l, 1) := by decide +kernel
theorem dL_has_8 : decode cL_has 8 = .ok (.lastore, 1) := by decide +kernel
theorem dL_has_9 : decode cL_has 9 = .ok (.goto 6, 3) := by decide +kernel
theorem dL_has_12 : decode cL_has 12 = .ok (.astore_n 3, 1) := by decide +kernel
theorem dL_has_13 : decode cL_has 13 = .ok (.iconst 1, 1) := by decide +kernel
theorem dL_has_14 : decode cL_has 14 = .ok (.ireturn, 1) := by decide +kernel
theorem dL_has_15 : decode cL_has 15 = .ok (.iconst 0, 1) := by decide +kernel
theorem dL_has_16 : decode cL_has 16 = .ok (.ireturn, 1) := by decide +kernel
theorem dL_echo_0 : decode cL_echo 0 = .ok (.aload_n 2, 1) := by decide +kernel
theorem dL_echo_1 : decode cL_echo 1 = .ok (.iconst 0, 1) := by decide +kernel
theorem dL_echo_2 : decode cL_echo 2 = .ok (.aload_n 0, 1) := by decide +kernel
theorem dL_echo_3 : decode cL_echo 3 = .ok (.iload_n 1, 1) := by decide +kernel
theorem dL_echo_4 : decode cL_echo 4 = .ok (.invokevirtual 133, 3) := by decide +kernel
theorem dL_echo_7 : decode cL_echo 7 = .ok (.i2l, 1) := by decide +kernel
theorem dL_echo_8 : decode cL_echo 8 = .ok (.lastore, 1) := by decide +kernel
theorem dL_echo_9 : decode cL_echo 9 = .ok (.goto 6, 3) := by decide +kernel
theorem dL_echo_12 : decode cL_echo 12 = .ok (.astore_n 3, 1) := by decide +kernel
theorem dL_echo_13 : decode cL_echo 13 = .ok (.iconst 1, 1) := by decide +kernel
theorem dL_echo_14 : decode cL_echo 14 = .ok (.ireturn, 1) := by decide +kernel
theorem dL_echo_15 : decode cL_echo 15 = .ok (.iconst 0, 1) := by decide +kernel
theorem dL_echo_16 : decode cL_echo 16 = .ok (.ireturn, 1) := by decide +kernel
theorem dL_common_0 : decode cL_common 0 = .ok (.aload_n 3, 1) := by decide +kernel
theorem dL_common_1 : decode cL_common 1 = .ok (.iconst 0, 1) := by decide +kernel
theorem dL_common_2 : decode cL_common 2 = .ok (.aload_n 0, 1) := by decide +kernel
theorem dL_common_3 : decode cL_common 3 = .ok (.iload_n 1, 1) := by decide +kernel
theorem dL_common_4 : decode cL_common 4 = .ok (.iload_n 2, 1) := by decide +kernel
theorem dL_common_5 : decode cL_common 5 = .ok (.invokevirtual 136, 3) := by decide +kernel
theorem dL_common_8 : decode cL_common 8 = .ok (.i2l, 1) := by decide +kernel
theorem dL_common_9 : decode cL_common 9 = .ok (.lastore, 1) := by decide +kernel
theorem dL_common_10 : decode cL_common 10 = .ok (.goto 11, 3) := by decide +kernel
theorem dL_common_13 : decode cL_common 13 = .ok (.astore 4, 2) := by decide +kernel
theorem dL_common_15 : decode cL_common 15 = .ok (.iconst 1, 1) := by decide +kernel
theorem dL_common_16 : decode cL_common 16 = .ok (.ireturn, 1) := by decide +kernel
theorem dL_common_17 : decode cL_common 17 = .ok (.astore 4, 2) := by decide +kernel
theorem dL_common_19 : decode cL_common 19 = .ok (.iconst 2, 1) := by decide +kernel
theorem dL_common_20 : decode cL_common 20 = .ok (.ireturn, 1) := by decide +kernel
theorem dL_common_21 : decode cL_common 21 = .ok (.iconst 0, 1) := by decide +kernel
theorem dL_common_22 : decode cL_common 22 = .ok (.ireturn, 1) := by decide +kernel
theorem dL_author_0 : decode cL_author 0 = .ok (.aload_n 3, 1) := by decide +kernel
theorem dL_author_1 : decode cL_author 1 = .ok (.iconst 0, 1) := by decide +kernel
theorem dL_author_2 : decode cL_author 2 = .ok (.aload_n 0, 1) := by decide +kernel
theorem dL_author_3 : decode cL_author 3 = .ok (.iload_n 1, 1) := by decide +kernel
theorem dL_author_4 : decode cL_author 4 = .ok (.iload_n 2, 1) := by decide +kernel
theorem dL_author_5 : decode cL_author 5 = .ok (.invokevirtual 139, 3) := by decide +kernel
theorem dL_author_8 : decode cL_author 8 = .ok (.i2l, 1) := by decide +kernel
theorem dL_author_9 : decode cL_author 9 = .ok (.lastore, 1) := by decide +kernel
theorem dL_author_10 : decode cL_author 10 = .ok (.goto 7, 3) := by decide +kernel
theorem dL_author_13 : decode cL_author 13 = .ok (.astore 4, 2) := by decide +kernel
theorem dL_author_15 : decode cL_author 15 = .ok (.iconst 1, 1) := by decide +kernel
theorem dL_author_16 : decode cL_author 16 = .ok (.ireturn, 1) := by decide +kernel
theorem dL_author_17 : decode cL_author 17 = .ok (.iconst 0, 1) := by decide +kernel
theorem dL_author_18 : decode cL_author 18 = .ok (.ireturn, 1) := by decide +kernel
theorem dL_shelves_0 : decode cL_shelves 0 = .ok (.aload 4, 2) := by decide +kernel
theorem dL_shelves_2 : decode cL_shelves 2 = .ok (.iconst 0, 1) := by decide +kernel
theorem dL_shelves_3 : decode cL_shelves 3 = .ok (.aload_n 0, 1) := by decide +kernel
theorem dL_shelves_4 : decode cL_shelves 4 = .ok (.iload_n 1, 1) := by decide +kernel
theorem dL_shelves_5 : decode cL_shelves 5 = .ok (.iload_n 2, 1) := by decide +kernel
theorem dL_shelves_6 : decode cL_shelves 6 = .ok (.iload_n 3, 1) := by decide +kernel
theorem dL_shelves_7 : decode cL_shelves 7 = .ok (.invokevirtual 142, 3) := by decide +kernel
theorem dL_shelves_10 : decode cL_shelves 10 = .ok (.i2l, 1) := by decide +kernel
theorem dL_shelves_11 : decode cL_shelves 11 = .ok (.lastore, 1) := by decide +kernel
theorem dL_shelves_12 : decode cL_shelves 12 = .ok (.goto 7, 3) := by decide +kernel
theorem dL_shelves_15 : decode cL_shelves 15 = .ok (.astore 5, 2) := by decide +kernel
theorem dL_shelves_17 : decode cL_shelves 17 = .ok (.iconst 1, 1) := by decide +kernel
theorem dL_shelves_18 : decode cL_shelves 18 = .ok (.ireturn, 1) := by decide +kernel
theorem dL_shelves_19 : decode cL_shelves 19 = .ok (.iconst 0, 1) := by decide +kernel
theorem dL_shelves_20 : decode cL_shelves 20 = .ok (.ireturn, 1) := by decide +kernel
theorem dL_tempers_0 : decode cL_tempers 0 = .ok (.aload 4, 2) := by decide +kernel
theorem dL_tempers_2 : decode cL_tempers 2 = .ok (.iconst 0, 1) := by decide +kernel
theorem dL_tempers_3 : decode cL_tempers 3 = .ok (.aload_n 0, 1) := by decide +kernel
theorem dL_tempers_4 : decode cL_tempers 4 = .ok (.iload_n 1, 1) := by decide +kernel
theorem dL_tempers_5 : decode cL_tempers 5 = .ok (.iload_n 2, 1) := by decide +kernel
theorem dL_tempers_6 : decode cL_tempers 6 = .ok (.iload_n 3, 1) := by decide +kernel
theorem dL_tempers_7 : decode cL_tempers 7 = .ok (.invokevirtual 145, 3) := by decide +kernel
theorem dL_tempers_10 : decode cL_tempers 10 = .ok (.i2l, 1) := by decide +kernel
theorem dL_tempers_11 : decode cL_tempers 11 = .ok (.lastore, 1) := by decide +kernel
theorem dL_tempers_12 : decode cL_tempers 12 = .ok (.goto 11, 3) := by decide +kernel
theorem dL_tempers_15 : decode cL_tempers 15 = .ok (.astore 5, 2) := by decide +kernel
theorem dL_tempers_17 : decode cL_tempers 17 = .ok (.iconst 1, 1) := by decide +kernel
theorem dL_tempers_18 : decode cL_tempers 18 = .ok (.ireturn, 1) := by decide +kernel
theorem dL_tempers_19 : decode cL_tempers 19 = .ok (.astore 5, 2) := by decide +kernel
theorem dL_tempers_21 : decode cL_tempers 21 = .ok (.iconst 2, 1) := by decide +kernel
theorem dL_tempers_22 : decode cL_tempers 22 = .ok (.ireturn, 1) := by decide +kernel
theorem dL_tempers_23 : decode cL_tempers 23 = .ok (.iconst 0, 1) := by decide +kernel
theorem dL_tempers_24 : decode cL_tempers 24 = .ok (.ireturn, 1) := by decide +kernel
theorem dL_trial_0 : decode cL_trial 0 = .ok (.aload_n 3, 1) := by decide +kernel
theorem dL_trial_1 : decode cL_trial 1 = .ok (.iconst 0, 1) := by decide +kernel
theorem dL_trial_2 : decode cL_trial 2 = .ok (.aload_n 0, 1) := by decide +kernel
theorem dL_trial_3 : decode cL_trial 3 = .ok (.iload_n 1, 1) := by decide +kernel
theorem dL_trial_4 : decode cL_trial 4 = .ok (.iload_n 2, 1) := by decide +kernel
theorem dL_trial_5 : decode cL_trial 5 = .ok (.invokevirtual 148, 3) := by decide +kernel
theorem dL_trial_8 : decode cL_trial 8 = .ok (.i2l, 1) := by decide +kernel
theorem dL_trial_9 : decode cL_trial 9 = .ok (.lastore, 1) := by decide +kernel
theorem dL_trial_10 : decode cL_trial 10 = .ok (.goto 11, 3) := by decide +kernel
theorem dL_trial_13 : decode cL_trial 13 = .ok (.astore 4, 2) := by decide +kernel
theorem dL_trial_15 : decode cL_trial 15 = .ok (.iconst 1, 1) := by decide +kernel
theorem dL_trial_16 : decode cL_trial 16 = .ok (.ireturn, 1) := by decide +kernel
theorem dL_trial_17 : decode cL_trial 17 = .ok (.astore 4, 2) := by decide +kernel
theorem dL_trial_19 : decode cL_trial 19 = .ok (.iconst 2, 1) := by decide +kernel
theorem dL_trial_20 : decode cL_trial 20 = .ok (.ireturn, 1) := by decide +kernel
theorem dL_trial_21 : decode cL_trial 21 = .ok (.iconst 0, 1) := by decide +kernel
theorem dL_trial_22 : decode cL_trial 22 = .ok (.ireturn, 1) := by decide +kernel
theorem dL_span_0 : decode cL_span 0 = .ok (.aload_n 3, 1) := by decide +kernel
theorem dL_span_1 : decode cL_span 1 = .ok (.iconst 0, 1) := by decide +kernel
theorem dL_span_2 : decode cL_span 2 = .ok (.aload_n 0, 1) := by decide +kernel
theorem dL_span_3 : decode cL_span 3 = .ok (.iload_n 1, 1) := by decide +kernel
theorem dL_span_4 : decode cL_span 4 = .ok (.iload_n 2, 1) := by decide +kernel
theorem dL_span_5 : decode cL_span 5 = .ok (.invokevirtual 151, 3) := by decide +kernel
theorem dL_span_8 : decode cL_span 8 = .ok (.i2l, 1) := by decide +kernel
theorem dL_span_9 : decode cL_span 9 = .ok (.lastore, 1) := by decide +kernel
theorem dL_span_10 : decode cL_span 10 = .ok (.goto 7, 3) := by decide +kernel
theorem dL_span_13 : decode cL_span 13 = .ok (.astore 4, 2) := by decide +kernel
theorem dL_span_15 : decode cL_span 15 = .ok (.iconst 1, 1) := by decide +kernel
theorem dL_span_16 : decode cL_span 16 = .ok (.ireturn, 1) := by decide +kernel
theorem dL_span_17 : decode cL_span 17 = .ok (.iconst 0, 1) := by decide +kernel
theorem dL_span_18 : decode cL_span 18 = .ok (.ireturn, 1) := by decide +kernel
theorem dL_law__0 : decode cL_law_ 0 = .ok (.new 8, 3) := by decide +kernel
theorem dL_law__3 : decode cL_law_ 3 = .ok (.dup, 1) := by decide +kernel
theorem dL_law__4 : decode cL_law_ 4 = .ok (.invokespecial 154, 3) := by decide +kernel
theorem dL_law__7 : decode cL_law_ 7 = .ok (.astore_n 1, 1) := by decide +kernel
theorem dL_law__8 : decode cL_law_ 8 = .ok (.new 155, 3) := by decide +kernel
theorem dL_law__11 : decode cL_law_ 11 = .ok (.dup, 1) := by decide +kernel
theorem dL_law__12 : decode cL_law_ 12 = .ok (.invokespecial 157, 3) := by decide +kernel
theorem dL_law__15 : decode cL_law_ 15 = .ok (.astore_n 2, 1) := by decide +kernel
theorem dL_law__16 : decode cL_law_ 16 = .ok (.iconst 1, 1) := by decide +kernel
theorem dL_law__17 : decode cL_law_ 17 = .ok (.newarray .long, 2) := by decide +kernel
theorem dL_law__19 : decode cL_law_ 19 = .ok (.astore_n 3, 1) := by decide +kernel
theorem dL_law__20 : decode cL_law_ 20 = .ok (.iconst 0, 1) := by decide +kernel
theorem dL_law__21 : decode cL_law_ 21 = .ok (.istore 4, 2) := by decide +kernel
theorem dL_law__23 : decode cL_law_ 23 = .ok (.iload 4, 2) := by decide +kernel
theorem dL_law__25 : decode cL_law_ 25 = .ok (.aload_n 0, 1) := by decide +kernel
theorem dL_law__26 : decode cL_law_ 26 = .ok (.arraylength, 1) := by decide +kernel
theorem dL_law__27 : decode cL_law_ 27 = .ok (.bipush 6, 2) := by decide +kernel
theorem dL_law__29 : decode cL_law_ 29 = .ok (.isub, 1) := by decide +kernel
theorem dL_law__30 : decode cL_law_ 30 = .ok (.if_icmp .gt 3563, 3) := by decide +kernel
theorem dL_law__33 : decode cL_law_ 33 = .ok (.aload_n 0, 1) := by decide +kernel
theorem dL_law__34 : decode cL_law_ 34 = .ok (.iload 4, 2) := by decide +kernel
theorem dL_law__36 : decode cL_law_ 36 = .ok (.iaload, 1) := by decide +kernel
theorem dL_law__37 : decode cL_law_ 37 = .ok (.bipush 63, 2) := by decide +kernel
theorem dL_law__39 : decode cL_law_ 39 = .ok (.iand, 1) := by decide +kernel
theorem dL_law__40 : decode cL_law_ 40 = .ok (.tableswitch 3547 0 52 #[228, 301, 326, 370, 414, 427, 495, 591, 647, 731, 787, 855, 946, 1002, 1070, 1138, 1229, 1285, 1341, 1421, 1517, 1573, 1641, 1761, 1869, 1977, 2033, 2089, 2145, 2241, 2309, 2322, 2390, 2458, 2514, 2539, 2595, 2691, 2759, 2843, 2899, 2955, 3023, 3107, 3203, 3283, 3351, 3435, 3460, 3485, 3498, 3509, 3522], 228) := by decide +kernel
theorem dL_law__268 : decode cL_law_ 268 = .ok (.aload_n 1, 1) := by decide +kernel
theorem dL_law__269 : decode cL_law_ 269 = .ok (.aload_n 0, 1) := by decide +kernel
theorem dL_law__270 : decode cL_law_ 270 = .ok (.iload 4, 2) := by decide +kernel
theorem dL_law__272 : decode cL_law_ 272 = .ok (.iconst 1, 1) := by decide +kernel
theorem dL_law__273 : decode cL_law_ 273 = .ok (.iadd, 1) := by decide +kernel
theorem dL_law__274 : decode cL_law_ 274 = .ok (.iaload, 1) := by decide +kernel
theorem dL_law__275 : decode cL_law_ 275 = .ok (.aload_n 0, 1) := by decide +kernel
theorem dL_law__276 : decode cL_law_ 276 = .ok (.iload 4, 2) := by decide +kernel
theorem dL_law__278 : decode cL_law_ 278 = .ok (.iconst 2, 1) := by decide +kernel
theorem dL_law__279 : decode cL_law_ 279 = .ok (.iadd, 1) := by decide +kernel
theorem dL_law__280 : decode cL_law_ 280 = .ok (.iaload, 1) := by decide +kernel
theorem dL_law__281 : decode cL_law_ 281 = .ok (.aload_n 0, 1) := by decide +kernel
theorem dL_law__282 : decode cL_law_ 282 = .ok (.iload 4, 2) := by decide +kernel
theorem dL_law__284 : decode cL_law_ 284 = .ok (.iconst 3, 1) := by decide +kernel
theorem dL_law__285 : decode cL_law_ 285 = .ok (.iadd, 1) := by decide +kernel
theorem dL_law__286 : decode cL_law_ 286 = .ok (.iaload, 1) := by decide +kernel
theorem dL_law__287 : decode cL_law_ 287 = .ok (.aload_n 0, 1) := by decide +kernel
theorem dL_law__288 : decode cL_law_ 288 = .ok (.iload 4, 2) := by decide +kernel
theorem dL_law__290 : decode cL_law_ 290 = .ok (.iconst 4, 1) := by decide +kernel
theorem dL_law__291 : decode cL_law_ 291 = .ok (.iadd, 1) := by decide +kernel
theorem dL_law__292 : decode cL_law_ 292 = .ok (.iaload, 1) := by decide +kernel
theorem dL_law__293 : decode cL_law_ 293 = .ok (.aload_n 0, 1) := by decide +kernel
theorem dL_law__294 : decode cL_law_ 294 = .ok (.iload 4, 2) := by decide +kernel
theorem dL_law__296 : decode cL_law_ 296 = .ok (.iconst 5, 1) := by decide +kernel
theorem dL_law__297 : decode cL_law_ 297 = .ok (.iadd, 1) := by decide +kernel
theorem dL_law__298 : decode cL_law_ 298 = .ok (.iaload, 1) := by decide +kernel
theorem dL_law__299 : decode cL_law_ 299 = .ok (.invokevirtual 158, 3) := by decide +kernel
theorem dL_law__302 : decode cL_law_ 302 = .ok (.aload_n 2, 1) := by decide +kernel
theorem dL_law__303 : decode cL_law_ 303 = .ok (.aload_n 0, 1) := by decide +kernel
theorem dL_law__304 : decode cL_law_ 304 = .ok (.iload 4, 2) := by decide +kernel
theorem dL_law__306 : decode cL_law_ 306 = .ok (.iconst 1, 1) := by decide +kernel
theorem dL_law__307 : decode cL_law_ 307 = .ok (.iadd, 1) := by decide +kernel
theorem dL_law__308 : decode cL_law_ 308 = .ok (.iaload, 1) := by decide +kernel
theorem dL_law__309 : decode cL_law_ 309 = .ok (.aload_n 0, 1) := by decide +kernel
theorem dL_law__310 : decode cL_law_ 310 = .ok (.iload 4, 2) := by decide +kernel
theorem dL_law__312 : decode cL_law_ 312 = .ok (.iconst 2, 1) := by decide +kernel
theorem dL_law__313 : decode cL_law_ 313 = .ok (.iadd, 1) := by decide +kernel
theorem dL_law__314 : decode cL_law_ 314 = .ok (.iaload, 1) := by decide +kernel
theorem dL_law__315 : decode cL_law_ 315 = .ok (.aload_n 0, 1) := by decide +kernel
theorem dL_law__316 : decode cL_law_ 316 = .ok (.iload 4, 2) := by decide +kernel
theorem dL_law__318 : decode cL_law_ 318 = .ok (.iconst 3, 1) := by decide +kernel
theorem dL_law__319 : decode cL_law_ 319 = .ok (.iadd, 1) := by decide +kernel
theorem dL_law__320 : decode cL_law_ 320 = .ok (.iaload, 1) := by decide +kernel
theorem dL_law__321 : decode cL_law_ 321 = .ok (.aload_n 0, 1) := by decide +kernel
theorem dL_law__322 : decode cL_law_ 322 = .ok (.iload 4, 2) := by decide +kernel
theorem dL_law__324 : decode cL_law_ 324 = .ok (.iconst 4, 1) := by decide +kernel
theorem dL_law__325 : decode cL_law_ 325 = .ok (.iadd, 1) := by decide +kernel
theorem dL_law__326 : decode cL_law_ 326 = .ok (.iaload, 1) := by decide +kernel
theorem dL_law__327 : decode cL_law_ 327 = .ok (.aload_n 0, 1) := by decide +kernel
theorem dL_law__328 : decode cL_law_ 328 = .ok (.iload 4, 2) := by decide +kernel
theorem dL_law__330 : decode cL_law_ 330 = .ok (.iconst 5, 1) := by decide +kernel
theorem dL_law__331 : decode cL_law_ 331 = .ok (.iadd, 1) := by decide +kernel
theorem dL_law__332 : decode cL_law_ 332 = .ok (.iaload, 1) := by decide +kernel
theorem dL_law__333 : decode cL_law_ 333 = .ok (.invokevirtual 162, 3) := by decide +kernel
theorem dL_law__336 : decode cL_law_ 336 = .ok (.if_icmp .eq 3251, 3) := by decide +kernel
theorem dL_law__339 : decode cL_law_ 339 = .ok (.iconst 0, 1) := by decide +kernel
theorem dL_law__340 : decode cL_law_ 340 = .ok (.ireturn, 1) := by decide +kernel
theorem dL_law__341 : decode cL_law_ 341 = .ok (.aload_n 1, 1) := by decide +kernel
theorem dL_law__342 : decode cL_law_ 342 = .ok (.aload_n 0, 1) := by decide +kernel
theorem dL_law__343 : decode cL_law_ 343 = .ok (.iload 4, 2) := by decide +kernel
theorem dL_law__345 : decode cL_law_ 345 = .ok (.iconst 1, 1) := by decide +kernel
theorem dL_law__346 : decode cL_law_ 346 = .ok (.iadd, 1) := by decide +kernel
theorem dL_law__347 : decode cL_law_ 347 = .ok (.iaload, 1) := by decide +kernel
theorem dL_law__348 : decode cL_law_ 348 = .ok (.invokevirtual 163, 3) := by decide +kernel
theorem dL_law__351 : decode cL_law_ 351 = .ok (.aload_n 2, 1) := by decide +kernel
theorem dL_law__352 : decode cL_law_ 352 = .ok (.aload_n 0, 1) := by decide +kernel
theorem dL_law__353 : decode cL_law_ 353 = .ok (.iload 4, 2) := by decide +kernel
theorem dL_law__355 : decode cL_law_ 355 = .ok (.iconst 1, 1) := by decide +kernel
theorem dL_law__356 : decode cL_law_ 356 = .ok (.iadd, 1) := by decide +kernel
theorem dL_law__357 : decode cL_law_ 357 = .ok (.iaload, 1) := by decide +kernel
theorem dL_law__358 : decode cL_law_ 358 = .ok (.invokevirtual 167, 3) := by decide +kernel
theorem dL_law__361 : decode cL_law_ 361 = .ok (.if_icmp .eq 3226, 3) := by decide +kernel
theorem dL_law__364 : decode cL_law_ 364 = .ok (.iconst 0, 1) := by decide +kernel
theorem dL_law__365 : decode cL_law_ 365 = .ok (.ireturn, 1) := by decide +kernel
theorem dL_law__366 : decode cL_law_ 366 = .ok (.aload_n 1, 1) := by decide +kernel
theorem dL_law__367 : decode cL_law_ 367 = .ok (.aload_n 3, 1) := by decide +kernel
theorem dL_law__368 : decode cL_law_ 368 = .ok (.invokestatic 168, 3) := by decide +kernel
theorem dL_law__371 : decode cL_law_ 371 = .ok (.istore 5, 2) := by decide +kernel
theorem dL_law__373 : decode cL_law_ 373 = .ok (.aload_n 2, 1) := by decide +kernel
theorem dL_law__374 : decode cL_law_ 374 = .ok (.invokevirtual 173, 3) := by decide +kernel
theorem dL_law__377 : decode cL_law_ 377 = .ok (.istore 6, 2) := by decide +kernel
theorem dL_law__379 : decode cL_law_ 379 = .ok (.aload_n 2, 1) := by decide +kernel
theorem dL_law__380 : decode cL_law_ 380 = .ok (.invokevirtual 174, 3) := by decide +kernel
theorem dL_law__383 : decode cL_law_ 383 = .ok (.iload 5, 2) := by decide +kernel
theorem dL_law__385 : decode cL_law_ 385 = .ok (.if_icmp .eq 5, 3) := by decide +kernel
theorem dL_law__388 : decode cL_law_ 388 = .ok (.iconst 0, 1) := by decide +kernel
theorem dL_law__389 : decode cL_law_ 389 = .ok (.ireturn, 1) := by decide +kernel
theorem dL_law__390 : decode cL_law_ 390 = .ok (.iload 5, 2) := by decide +kernel
theorem dL_law__392 : decode cL_law_ 392 = .ok (.ifCond .ne 15, 3) := by decide +kernel
theorem dL_law__395 : decode cL_law_ 395 = .ok (.aload_n 3, 1) := by decide +kernel
theorem dL_law__396 : decode cL_law_ 396 = .ok (.iconst 0, 1) := by decide +kernel
theorem dL_law__397 : decode cL_law_ 397 = .ok (.laload, 1) := by decide +kernel
theorem dL_law__398 : decode cL_law_ 398 = .ok (.iload 6, 2) := by decide +kernel
theorem dL_law__400 : decode cL_law_ 400 = .ok (.i2l, 1) := by decide +kernel
theorem dL_law__401 : decode cL_law_ 401 = .ok (.lcmp, 1) := by decide +kernel
theorem dL_law__402 : decode cL_law_ 402 = .ok (.ifCond .eq 5, 3) := by decide +kernel
theorem dL_law__405 : decode cL_law_ 405 = .ok (.iconst 0, 1) := by decide +kernel
theorem dL_law__406 : decode cL_law_ 406 = .ok (.ireturn, 1) := by decide +kernel
theorem dL_law__407 : decode cL_law_ 407 = .ok (.goto 3180, 3) := by decide +kernel
theorem dL_law__410 : decode cL_law_ 410 = .ok (.aload_n 1, 1) := by decide +kernel
theorem dL_law__411 : decode cL_law_ 411 = .ok (.aload_n 3, 1) := by decide +kernel
theorem dL_law__412 : decode cL_law_ 412 = .ok (.invokestatic 177, 3) := by decide +kernel
theorem dL_law__415 : decode cL_law_ 415 = .ok (.istore 5, 2) := by decide +kernel
theorem dL_law__417 : decode cL_law_ 417 = .ok (.aload_n 2, 1) := by decide +kernel
theorem dL_law__418 : decode cL_law_ 418 = .ok (.invokevirtual 179, 3) := by decide +kernel
theorem dL_law__421 : decode cL_law_ 421 = .ok (.istore 6, 2) := by decide +kernel
theorem dL_law__423 : decode cL_law_ 423 = .ok (.aload_n 2, 1) := by decide +kernel
theorem dL_law__424 : decode cL_law_ 424 = .ok (.invokevirtual 174, 3) := by decide +kernel
theorem dL_law__427 : decode cL_law_ 427 = .ok (.iload 5, 2) := by decide +kernel
theorem dL_law__429 : decode cL_law_ 429 = .ok (.if_icmp .eq 5, 3) := by decide +kernel
theorem dL_law__432 : decode cL_law_ 432 = .ok (.iconst 0, 1) := by decide +kernel
theorem dL_law__433 : decode cL_law_ 433 = .ok (.ireturn, 1) := by decide +kernel
theorem dL_law__434 : decode cL_law_ 434 = .ok (.iload 5, 2) := by decide +kernel
theorem dL_law__436 : decode cL_law_ 436 = .ok (.ifCond .ne 15, 3) := by decide +kernel
theorem dL_law__439 : decode cL_law_ 439 = .ok (.aload_n 3, 1) := by decide +kernel
theorem dL_law__440 : decode cL_law_ 440 = .ok (.iconst 0, 1) := by decide +kernel
theorem dL_law__441 : decode cL_law_ 441 = .ok (.laload, 1) := by decide +kernel
theorem dL_law__442 : decode cL_law_ 442 = .ok (.iload 6, 2) := by decide +kernel
theorem dL_law__444 : decode cL_law_ 444 = .ok (.i2l, 1) := by decide +kernel
theorem dL_law__445 : decode cL_law_ 445 = .ok (.lcmp, 1) := by decide +kernel
theorem dL_law__446 : decode cL_law_ 446 = .ok (.ifCond .eq 5, 3) := by decide +kernel
theorem dL_law__449 : decode cL_law_ 449 = .ok (.iconst 0, 1) := by decide +kernel
theorem dL_law__450 : decode cL_law_ 450 = .ok (.ireturn, 1) := by decide +kernel
theorem dL_law__451 : decode cL_law_ 451 = .ok (.goto 3136, 3) := by decide +kernel
theorem dL_law__454 : decode cL_law_ 454 = .ok (.aload_n 1, 1) := by decide +kernel
theorem dL_law__455 : decode cL_law_ 455 = .ok (.invokevirtual 180, 3) := by decide +kernel
theorem dL_law__458 : decode cL_law_ 458 = .ok (.aload_n 2, 1) := by decide +kernel
theorem dL_law__459 : decode cL_law_ 459 = .ok (.invokevirtual 183, 3) := by decide +kernel
theorem dL_law__462 : decode cL_law_ 462 = .ok (.if_icmp .eq 3125, 3) := by decide +kernel
theorem dL_law__465 : decode cL_law_ 465 = .ok (.iconst 0, 1) := by decide +kernel
theorem dL_law__466 : decode cL_law_ 466 = .ok (.ireturn, 1) := by decide +kernel
theorem dL_law__467 : decode cL_law_ 467 = .ok (.aload_n 1, 1) := by decide +kernel
theorem dL_law__468 : decode cL_law_ 468 = .ok (.aload_n 0, 1) := by decide +kernel
theorem dL_law__469 : decode cL_law_ 469 = .ok (.iload 4, 2) := by decide +kernel
theorem dL_law__471 : decode cL_law_ 471 = .ok (.iconst 1, 1) := by decide +kernel
theorem dL_law__472 : decode cL_law_ 472 = .ok (.iadd, 1) := by decide +kernel
theorem dL_law__473 : decode cL_law_ 473 = .ok (.iaload, 1) := by decide +kernel
theorem dL_law__474 : decode cL_law_ 474 = .ok (.aload_n 0, 1) := by decide +kernel
theorem dL_law__475 : decode cL_law_ 475 = .ok (.iload 4, 2) := by decide +kernel
theorem dL_law__477 : decode cL_law_ 477 = .ok (.iconst 2, 1) := by decide +kernel
theorem dL_law__478 : decode cL_law_ 478 = .ok (.iadd, 1) := by decide +kernel
theorem dL_law__479 : decode cL_law_ 479 = .ok (.iaload, 1) := by decide +kernel
theorem dL_law__480 : decode cL_law_ 480 = .ok (.aload_n 3, 1) := by decide +kernel
theorem dL_law__481 : decode cL_law_ 481 = .ok (.invokestatic 184, 3) := by decide +kernel
theorem dL_law__484 : decode cL_law_ 484 = .ok (.istore 5, 2) := by decide +kernel
theorem dL_law__486 : decode cL_law_ 486 = .ok (.aload_n 2, 1) := by decide +kernel
theorem dL_law__487 : decode cL_law_ 487 = .ok (.aload_n 0, 1) := by decide +kernel
theorem dL_law__488 : decode cL_law_ 488 = .ok (.iload 4, 2) := by decide +kernel
theorem dL_law__490 : decode cL_law_ 490 = .ok (.iconst 1, 1) := by decide +kernel
theorem dL_law__491 : decode cL_law_ 491 = .ok (.iadd, 1) := by decide +kernel
theorem dL_law__492 : decode cL_law_ 492 = .ok (.iaload, 1) := by decide +kernel
theorem dL_law__493 : decode cL_law_ 493 = .ok (.aload_n 0, 1) := by decide +kernel
theorem dL_law__494 : decode cL_law_ 494 = .ok (.iload 4, 2) := by decide +kernel
theorem dL_law__496 : decode cL_law_ 496 = .ok (.iconst 2, 1) := by decide +kernel
theorem dL_law__497 : decode cL_law_ 497 = .ok (.iadd, 1) := by decide +kernel
theorem dL_law__498 : decode cL_law_ 498 = .ok (.iaload, 1) := by decide +kernel
theorem dL_law__499 : decode cL_law_ 499 = .ok (.invokevirtual 187, 3) := by decide +kernel
theorem dL_law__502 : decode cL_law_ 502 = .ok (.istore 6, 2) := by decide +kernel
theorem dL_law__504 : decode cL_law_ 504 = .ok (.aload_n 2, 1) := by decide +kernel
theorem dL_law__505 : decode cL_law_ 505 = .ok (.invokevirtual 174, 3) := by decide +kernel
theorem dL_law__508 : decode cL_law_ 508 = .ok (.iload 5, 2) := by decide +kernel
theorem dL_law__510 : decode cL_law_ 510 = .ok (.if_icmp .eq 5, 3) := by decide +kernel
theorem dL_law__513 : decode cL_law_ 513 = .ok (.iconst 0, 1) := by decide +kernel
theorem dL_law__514 : decode cL_law_ 514 = .ok (.ireturn, 1) := by decide +kernel
theorem dL_law__515 : decode cL_law_ 515 = .ok (.iload 5, 2) := by decide +kernel
theorem dL_law__517 : decode cL_law_ 517 = .ok (.ifCond .ne 15, 3) := by decide +kernel
theorem dL_law__520 : decode cL_law_ 520 = .ok (.aload_n 3, 1) := by decide +kernel
theorem dL_law__521 : decode cL_law_ 521 = .ok (.iconst 0, 1) := by decide +kernel
theorem dL_law__522 : decode cL_law_ 522 = .ok (.laload, 1) := by decide +kernel
theorem dL_law__523 : decode cL_law_ 523 = .ok (.iload 6, 2) := by decide +kernel
theorem dL_law__525 : decode cL_law_ 525 = .ok (.i2l, 1) := by decide +kernel
theorem dL_law__526 : decode cL_law_ 526 = .ok (.lcmp, 1) := by decide +kernel
theorem dL_law__527 : decode cL_law_ 527 = .ok (.ifCond .eq 5, 3) := by decide +kernel
theorem dL_law__530 : decode cL_law_ 530 = .ok (.iconst 0, 1) := by decide +kernel
theorem dL_law__531 : decode cL_law_ 531 = .ok (.ireturn, 1) := by decide +kernel
theorem dL_law__532 : decode cL_law_ 532 = .ok (.goto 3055, 3) := by decide +kernel
theorem dL_law__535 : decode cL_law_ 535 = .ok (.aload_n 1, 1) := by decide +kernel
theorem dL_law__536 : decode cL_law_ 536 = .ok (.aload_n 0, 1) := by decide +kernel
theorem dL_law__537 : decode cL_law_ 537 = .ok (.iload 4, 2) := by decide +kernel
theorem dL_law__539 : decode cL_law_ 539 = .ok (.iconst 1, 1) := by decide +kernel
theorem dL_law__540 : decode cL_law_ 540 = .ok (.iadd, 1) := by decide +kernel
theorem dL_law__541 : decode cL_law_ 541 = .ok (.iaload, 1) := by decide +kernel
theorem dL_law__542 : decode cL_law_ 542 = .ok (.aload_n 0, 1) := by decide +kernel
theorem dL_law__543 : decode cL_law_ 543 = .ok (.iload 4, 2) := by decide +kernel
theorem dL_law__545 : decode cL_law_ 545 = .ok (.iconst 2, 1) := by decide +kernel
theorem dL_law__546 : decode cL_law_ 546 = .ok (.iadd, 1) := by decide +kernel
theorem dL_law__547 : decode cL_law_ 547 = .ok (.iaload, 1) := by decide +kernel
theorem dL_law__548 : decode cL_law_ 548 = .ok (.aload_n 0, 1) := by decide +kernel
theorem dL_law__549 : decode cL_law_ 549 = .ok (.iload 4, 2) := by decide +kernel
theorem dL_law__551 : decode cL_law_ 551 = .ok (.iconst 3, 1) := by decide +kernel
theorem dL_law__552 : decode cL_law_ 552 = .ok (.iadd, 1) := by decide +kernel
theorem dL_law__553 : decode cL_law_ 553 = .ok (.iaload, 1) := by decide +kernel
theorem dL_law__554 : decode cL_law_ 554 = .ok (.ifCond .eq 7, 3) := by decide +kernel
theorem dL_law__557 : decode cL_law_ 557 = .ok (.iconst 1, 1) := by decide +kernel
theorem dL_law__558 : decode cL_law_ 558 = .ok (.goto 4, 3) := by decide +kernel
theorem dL_law__561 : decode cL_law_ 561 = .ok (.iconst 0, 1) := by decide +kernel
theorem dL_law__562 : decode cL_law_ 562 = .ok (.aload_n 3, 1) := by decide +kernel
theorem dL_law__563 : decode cL_law_ 563 = .ok (.invokestatic 188, 3) := by decide +kernel
theorem dL_law__566 : decode cL_law_ 566 = .ok (.istore 5, 2) := by decide +kernel
theorem dL_law__568 : decode cL_law_ 568 = .ok (.aload_n 2, 1) := by decide +kernel
theorem dL_law__569 : decode cL_law_ 569 = .ok (.aload_n 0, 1) := by decide +kernel
theorem dL_law__570 : decode cL_law_ 570 = .ok (.iload 4, 2) := by decide +kernel
theorem dL_law__572 : decode cL_law_ 572 = .ok (.iconst 1, 1) := by decide +kernel
theorem dL_law__573 : decode cL_law_ 573 = .ok (.iadd, 1) := by decide +kernel
theorem dL_law__574 : decode cL_law_ 574 = .ok (.iaload, 1) := by decide +kernel
theorem dL_law__575 : decode cL_law_ 575 = .ok (.aload_n 0, 1) := by decide +kernel
theorem dL_law__576 : decode cL_law_ 576 = .ok (.iload 4, 2) := by decide +kernel
theorem dL_law__578 : decode cL_law_ 578 = .ok (.iconst 2, 1) := by decide +kernel
theorem dL_law__579 : decode cL_law_ 579 = .ok (.iadd, 1) := by decide +kernel
theorem dL_law__580 : decode cL_law_ 580 = .ok (.iaload, 1) := by decide +kernel
theorem dL_law__581 : decode cL_law_ 581 = .ok (.aload_n 0, 1) := by decide +kernel
theorem dL_law__582 : decode cL_law_ 582 = .ok (.iload 4, 2) := by decide +kernel
theorem dL_law__584 : decode cL_law_ 584 = .ok (.iconst 3, 1) := by decide +kernel
theorem dL_law__585 : decode cL_law_ 585 = .ok (.iadd, 1) := by decide +kernel
theorem dL_law__586 : decode cL_law_ 586 = .ok (.iaload, 1) := by decide +kernel
theorem dL_law__587 : decode cL_law_ 587 = .ok (.ifCond .eq 7, 3) := by decide +kernel
theorem dL_law__590 : decode cL_law_ 590 = .ok (.iconst 1, 1) := by decide +kernel
theorem dL_law__591 : decode cL_law_ 591 = .ok (.goto 4, 3) := by decide +kernel
theorem dL_law__594 : decode cL_law_ 594 = .ok (.iconst 0, 1) := by decide +kernel
theorem dL_law__595 : decode cL_law_ 595 = .ok (.invokevirtual 191, 3) := by decide +kernel
theorem dL_law__598 : decode cL_law_ 598 = .ok (.istore 6, 2) := by decide +kernel
theorem dL_law__600 : decode cL_law_ 600 = .ok (.aload_n 2, 1) := by decide +kernel
theorem dL_law__601 : decode cL_law_ 601 = .ok (.invokevirtual 174, 3) := by decide +kernel
theorem dL_law__604 : decode cL_law_ 604 = .ok (.iload 5, 2) := by decide +kernel
theorem dL_law__606 : decode cL_law_ 606 = .ok (.if_icmp .eq 5, 3) := by decide +kernel
theorem dL_law__609 : decode cL_law_ 609 = .ok (.iconst 0, 1) := by decide +kernel
theorem dL_law__610 : decode cL_law_ 610 = .ok (.ireturn, 1) := by decide +kernel
theorem dL_law__611 : decode cL_law_ 611 = .ok (.iload 5, 2) := by decide +kernel
theorem dL_law__613 : decode cL_law_ 613 = .ok (.ifCond .ne 15, 3) := by decide +kernel
theorem dL_law__616 : decode cL_law_ 616 = .ok (.aload_n 3, 1) := by decide +kernel
theorem dL_law__617 : decode cL_law_ 617 = .ok (.iconst 0, 1) := by decide +kernel
theorem dL_law__618 : decode cL_law_ 618 = .ok (.laload, 1) := by decide +kernel
theorem dL_law__619 : decode cL_law_ 619 = .ok (.iload 6, 2) := by decide +kernel
theorem dL_law__621 : decode cL_law_ 621 = .ok (.i2l, 1) := by decide +kernel
theorem dL_law__622 : decode cL_law_ 622 = .ok (.lcmp, 1) := by decide +kernel
theorem dL_law__623 : decode cL_law_ 623 = .ok (.ifCond .eq 5, 3) := by decide +kernel
theorem dL_law__626 : decode cL_law_ 626 = .ok (.iconst 0, 1) := by decide +kernel
theorem dL_law__627 : decode cL_law_ 627 = .ok (.ireturn, 1) := by decide +kernel
theorem dL_law__628 : decode cL_law_ 628 = .ok (.goto 2959, 3) := by decide +kernel
theorem dL_law__631 : decode cL_law_ 631 = .ok (.aload_n 1, 1) := by decide +kernel
theorem dL_law__632 : decode cL_law_ 632 = .ok (.aload_n 0, 1) := by decide +kernel
theorem dL_law__633 : decode cL_law_ 633 = .ok (.iload 4, 2) := by decide +kernel
theorem dL_law__635 : decode cL_law_ 635 = .ok (.iconst 1, 1) := by decide +kernel
theorem dL_law__636 : decode cL_law_ 636 = .ok (.iadd, 1) := by decide +kernel
theorem dL_law__637 : decode cL_law_ 637 = .ok (.iaload, 1) := by decide +kernel
theorem dL_law__638 : decode cL_law_ 638 = .ok (.aload_n 3, 1) := by decide +kernel
theorem dL_law__639 : decode cL_law_ 639 = .ok (.invokestatic 192, 3) := by decide +kernel
theorem dL_law__642 : decode cL_law_ 642 = .ok (.istore 5, 2) := by decide +kernel
theorem dL_law__644 : decode cL_law_ 644 = .ok (.aload_n 2, 1) := by decide +kernel
theorem dL_law__645 : decode cL_law_ 645 = .ok (.aload_n 0, 1) := by decide +kernel
theorem dL_law__646 : decode cL_law_ 646 = .ok (.iload 4, 2) := by decide +kernel
theorem dL_law__648 : decode cL_law_ 648 = .ok (.iconst 1, 1) := by decide +kernel
theorem dL_law__649 : decode cL_law_ 649 = .ok (.iadd, 1) := by decide +kernel
theorem dL_law__650 : decode cL_law_ 650 = .ok (.iaload, 1) := by decide +kernel
theorem dL_law__651 : decode cL_law_ 651 = .ok (.invokevirtual 195, 3) := by decide +kernel
theorem dL_law__654 : decode cL_law_ 654 = .ok (.istore 6, 2) := by decide +kernel
theorem dL_law__656 : decode cL_law_ 656 = .ok (.aload_n 2, 1) := by decide +kernel
theorem dL_law__657 : decode cL_law_ 657 = .ok (.invokevirtual 174, 3) := by decide +kernel
theorem dL_law__660 : decode cL_law_ 660 = .ok (.iload 5, 2) := by decide +kernel
theorem dL_law__662 : decode cL_law_ 662 = .ok (.if_icmp .eq 5, 3) := by decide +kernel
theorem dL_law__665 : decode cL_law_ 665 = .ok (.iconst 0, 1) := by decide +kernel
theorem dL_law__666 : decode cL_law_ 666 = .ok (.ireturn, 1) := by decide +kernel
theorem dL_law__667 : decode cL_law_ 667 = .ok (.iload 5, 2) := by decide +kernel
theorem dL_law__669 : decode cL_law_ 669 = .ok (.ifCond .ne 15, 3) := by decide +kernel
theorem dL_law__672 : decode cL_law_ 672 = .ok (.aload_n 3, 1) := by decide +kernel
theorem dL_law__673 : decode cL_law_ 673 = .ok (.iconst 0, 1) := by decide +kernel
theorem dL_law__674 : decode cL_law_ 674 = .ok (.laload, 1) := by decide +kernel
theorem dL_law__675 : decode cL_law_ 675 = .ok (.iload 6, 2) := by decide +kernel
theorem dL_law__677 : decode cL_law_ 677 = .ok (.i2l, 1) := by decide +kernel
theorem dL_law__678 : decode cL_law_ 678 = .ok (.lcmp, 1) := by decide +kernel
theorem dL_law__679 : decode cL_law_ 679 = .ok (.ifCond .eq 5, 3) := by decide +kernel
theorem dL_law__682 : decode cL_law_ 682 = .ok (.iconst 0, 1) := by decide +kernel
theorem dL_law__683 : decode cL_law_ 683 = .ok (.ireturn, 1) := by decide +kernel
theorem dL_law__684 : decode cL_law_ 684 = .ok (.goto 2903, 3) := by decide +kernel
theorem dL_law__687 : decode cL_law_ 687 = .ok (.aload_n 1, 1) := by decide +kernel
theorem dL_law__688 : decode cL_law_ 688 = .ok (.aload_n 0, 1) := by decide +kernel
theorem dL_law__689 : decode cL_law_ 689 = .ok (.iload 4, 2) := by decide +kernel
theorem dL_law__691 : decode cL_law_ 691 = .ok (.iconst 1, 1) := by decide +kernel
theorem dL_law__692 : decode cL_law_ 692 = .ok (.iadd, 1) := by decide +kernel
theorem dL_law__693 : decode cL_law_ 693 = .ok (.iaload, 1) := by decide +kernel
theorem dL_law__694 : decode cL_law_ 694 = .ok (.aload_n 0, 1) := by decide +kernel
theorem dL_law__695 : decode cL_law_ 695 = .ok (.iload 4, 2) := by decide +kernel
theorem dL_law__697 : decode cL_law_ 697 = .ok (.iconst 2, 1) := by decide +kernel
theorem dL_law__698 : decode cL_law_ 698 = .ok (.iadd, 1) := by decide +kernel
theorem dL_law__699 : decode cL_law_ 699 = .ok (.iaload, 1) := by decide +kernel
theorem dL_law__700 : decode cL_law_ 700 = .ok (.ifCond .eq 7, 3) := by decide +kernel
theorem dL_law__703 : decode cL_law_ 703 = .ok (.iconst 1, 1) := by decide +kernel
theorem dL_law__704 : decode cL_law_ 704 = .ok (.goto 4, 3) := by decide +kernel
theorem dL_law__707 : decode cL_law_ 707 = .ok (.iconst 0, 1) := by decide +kernel
theorem dL_law__708 : decode cL_law_ 708 = .ok (.aload_n 3, 1) := by decide +kernel
theorem dL_law__709 : decode cL_law_ 709 = .ok (.invokestatic 196, 3) := by decide +kernel
theorem dL_law__712 : decode cL_law_ 712 = .ok (.istore 5, 2) := by decide +kernel
theorem dL_law__714 : decode cL_law_ 714 = .ok (.aload_n 2, 1) := by decide +kernel
theorem dL_law__715 : decode cL_law_ 715 = .ok (.aload_n 0, 1) := by decide +kernel
theorem dL_law__716 : decode cL_law_ 716 = .ok (.iload 4, 2) := by decide +kernel
theorem dL_law__718 : decode cL_law_ 718 = .ok (.iconst 1, 1) := by decide +kernel
theorem dL_law__719 : decode cL_law_ 719 = .ok (.iadd, 1) := by decide +kernel
theorem dL_law__720 : decode cL_law_ 720 = .ok (.iaload, 1) := by decide +kernel
theorem dL_law__721 : decode cL_law_ 721 = .ok (.aload_n 0, 1) := by decide +kernel
theorem dL_law__722 : decode cL_law_ 722 = .ok (.iload 4, 2) := by decide +kernel
theorem dL_law__724 : decode cL_law_ 724 = .ok (.iconst 2, 1) := by decide +kernel
theorem dL_law__725 : decode cL_law_ 725 = .ok (.iadd, 1) := by decide +kernel
theorem dL_law__726 : decode cL_law_ 726 = .ok (.iaload, 1) := by decide +kernel
theorem dL_law__727 : decode cL_law_ 727 = .ok (.ifCond .eq 7, 3) := by decide +kernel
theorem dL_law__730 : decode cL_law_ 730 = .ok (.iconst 1, 1) := by decide +kernel
theorem dL_law__731 : decode cL_law_ 731 = .ok (.goto 4, 3) := by decide +kernel
theorem dL_law__734 : decode cL_law_ 734 = .ok (.iconst 0, 1) := by decide +kernel
theorem dL_law__735 : decode cL_law_ 735 = .ok (.invokevirtual 199, 3) := by decide +kernel
theorem dL_law__738 : decode cL_law_ 738 = .ok (.istore 6, 2) := by decide +kernel
theorem dL_law__740 : decode cL_law_ 740 = .ok (.aload_n 2, 1) := by decide +kernel
theorem dL_law__741 : decode cL_law_ 741 = .ok (.invokevirtual 174, 3) := by decide +kernel
theorem dL_law__744 : decode cL_law_ 744 = .ok (.iload 5, 2) := by decide +kernel
theorem dL_law__746 : decode cL_law_ 746 = .ok (.if_icmp .eq 5, 3) := by decide +kernel
theorem dL_law__749 : decode cL_law_ 749 = .ok (.iconst 0, 1) := by decide +kernel
theorem dL_law__750 : decode cL_law_ 750 = .ok (.ireturn, 1) := by decide +kernel
theorem dL_law__751 : decode cL_law_ 751 = .ok (.iload 5, 2) := by decide +kernel
theorem dL_law__753 : decode cL_law_ 753 = .ok (.ifCond .ne 15, 3) := by decide +kernel
theorem dL_law__756 : decode cL_law_ 756 = .ok (.aload_n 3, 1) := by decide +kernel
theorem dL_law__757 : decode cL_law_ 757 = .ok (.iconst 0, 1) := by decide +kernel
theorem dL_law__758 : decode cL_law_ 758 = .ok (.laload, 1) := by decide +kernel
theorem dL_law__759 : decode cL_law_ 759 = .ok (.iload 6, 2) := by decide +kernel
theorem dL_law__761 : decode cL_law_ 761 = .ok (.i2l, 1) := by decide +kernel
theorem dL_law__762 : decode cL_law_ 762 = .ok (.lcmp, 1) := by decide +kernel
theorem dL_law__763 : decode cL_law_ 763 = .ok (.ifCond .eq 5, 3) := by decide +kernel
theorem dL_law__766 : decode cL_law_ 766 = .ok (.iconst 0, 1) := by decide +kernel
theorem dL_law__767 : decode cL_law_ 767 = .ok (.ireturn, 1) := by decide +kernel
theorem dL_law__768 : decode cL_law_ 768 = .ok (.goto 2819, 3) := by decide +kernel
theorem dL_law__771 : decode cL_law_ 771 = .ok (.aload_n 1, 1) := by decide +kernel
theorem dL_law__772 : decode cL_law_ 772 = .ok (.aload_n 0, 1) := by decide +kernel
theorem dL_law__773 : decode cL_law_ 773 = .ok (.iload 4, 2) := by decide +kernel
theorem dL_law__775 : decode cL_law_ 775 = .ok (.iconst 1, 1) := by decide +kernel
theorem dL_law__776 : decode cL_law_ 776 = .ok (.iadd, 1) := by decide +kernel
theorem dL_law__777 : decode cL_law_ 777 = .ok (.iaload, 1) := by decide +kernel
theorem dL_law__778 : decode cL_law_ 778 = .ok (.aload_n 3, 1) := by decide +kernel
theorem dL_law__779 : decode cL_law_ 779 = .ok (.invokestatic 200, 3) := by decide +kernel
theorem dL_law__782 : decode cL_law_ 782 = .ok (.istore 5, 2) := by decide +kernel
theorem dL_law__784 : decode cL_law_ 784 = .ok (.aload_n 2, 1) := by decide +kernel
theorem dL_law__785 : decode cL_law_ 785 = .ok (.aload_n 0, 1) := by decide +kernel
theorem dL_law__786 : decode cL_law_ 786 = .ok (.iload 4, 2) := by decide +kernel
theorem dL_law__788 : decode cL_law_ 788 = .ok (.iconst 1, 1) := by decide +kernel
theorem dL_law__789 : decode cL_law_ 789 = .ok (.iadd, 1) := by decide +kernel
theorem dL_law__790 : decode cL_law_ 790 = .ok (.iaload, 1) := by decide +kernel
theorem dL_law__791 : decode cL_law_ 791 = .ok (.invokevirtual 202, 3) := by decide +kernel
theorem dL_law__794 : decode cL_law_ 794 = .ok (.istore 6, 2) := by decide +kernel
theorem dL_law__796 : decode cL_law_ 796 = .ok (.aload_n 2, 1) := by decide +kernel
theorem dL_law__797 : decode cL_law_ 797 = .ok (.invokevirtual 174, 3) := by decide +kernel
theorem dL_law__800 : decode cL_law_ 800 = .ok (.iload 5, 2) := by decide +kernel
theorem dL_law__802 : decode cL_law_ 802 = .ok (.if_icmp .eq 5, 3) := by decide +kernel
theorem dL_law__805 : decode cL_law_ 805 = .ok (.iconst 0, 1) := by decide +kernel
theorem dL_law__806 : decode cL_law_ 806 = .ok (.ireturn, 1) := by decide +kernel
theorem dL_law__807 : decode cL_law_ 807 = .ok (.iload 5, 2) := by decide +kernel
theorem dL_law__809 : decode cL_law_ 809 = .ok (.ifCond .ne 15, 3) := by decide +kernel
theorem dL_law__812 : decode cL_law_ 812 = .ok (.aload_n 3, 1) := by decide +kernel
theorem dL_law__813 : decode cL_law_ 813 = .ok (.iconst 0, 1) := by decide +kernel
theorem dL_law__814 : decode cL_law_ 814 = .ok (.laload, 1) := by decide +kernel
theorem dL_law__815 : decode cL_law_ 815 = .ok (.iload 6, 2) := by decide +kernel
theorem dL_law__817 : decode cL_law_ 817 = .ok (.i2l, 1) := by decide +kernel
theorem dL_law__818 : decode cL_law_ 818 = .ok (.lcmp, 1) := by decide +kernel
theorem dL_law__819 : decode cL_law_ 819 = .ok (.ifCond .eq 5, 3) := by decide +kernel
theorem dL_law__822 : decode cL_law_ 822 = .ok (.iconst 0, 1) := by decide +kernel
theorem dL_law__823 : decode cL_law_ 823 = .ok (.ireturn, 1) := by decide +kernel
theorem dL_law__824 : decode cL_law_ 824 = .ok (.goto 2763, 3) := by decide +kernel
theorem dL_law__827 : decode cL_law_ 827 = .ok (.aload_n 1, 1) := by decide +kernel
theorem dL_law__828 : decode cL_law_ 828 = .ok (.aload_n 0, 1) := by decide +kernel
theorem dL_law__829 : decode cL_law_ 829 = .ok (.iload 4, 2) := by decide +kernel
theorem dL_law__831 : decode cL_law_ 831 = .ok (.iconst 1, 1) := by decide +kernel
theorem dL_law__832 : decode cL_law_ 832 = .ok (.iadd, 1) := by decide +kernel
theorem dL_law__833 : decode cL_law_ 833 = .ok (.iaload, 1) := by decide +kernel
theorem dL_law__834 : decode cL_law_ 834 = .ok (.aload_n 0, 1) := by decide +kernel
theorem dL_law__835 : decode cL_law_ 835 = .ok (.iload 4, 2) := by decide +kernel
theorem dL_law__837 : decode cL_law_ 837 = .ok (.iconst 2, 1) := by decide +kernel
theorem dL_law__838 : decode cL_law_ 838 = .ok (.iadd, 1) := by decide +kernel
theorem dL_law__839 : decode cL_law_ 839 = .ok (.iaload, 1) := by decide +kernel
theorem dL_law__840 : decode cL_law_ 840 = .ok (.aload_n 3, 1) := by decide +kernel
theorem dL_law__841 : decode cL_law_ 841 = .ok (.invokestatic 203, 3) := by decide +kernel
theorem dL_law__844 : decode cL_law_ 844 = .ok (.istore 5, 2) := by decide +kernel
theorem dL_law__846 : decode cL_law_ 846 = .ok (.aload_n 2, 1) := by decide +kernel
theorem dL_law__847 : decode cL_law_ 847 = .ok (.aload_n 0, 1) := by decide +kernel
theorem dL_law__848 : decode cL_law_ 848 = .ok (.iload 4, 2) := by decide +kernel
theorem dL_law__850 : decode cL_law_ 850 = .ok (.iconst 1, 1) := by decide +kernel
theorem dL_law__851 : decode cL_law_ 851 = .ok (.iadd, 1) := by decide +kernel
theorem dL_law__852 : decode cL_law_ 852 = .ok (.iaload, 1) := by decide +kernel
theorem dL_law__853 : decode cL_law_ 853 = .ok (.aload_n 0, 1) := by decide +kernel
theorem dL_law__854 : decode cL_law_ 854 = .ok (.iload 4, 2) := by decide +kernel
theorem dL_law__856 : decode cL_law_ 856 = .ok (.iconst 2, 1) := by decide +kernel
theorem dL_law__857 : decode cL_law_ 857 = .ok (.iadd, 1) := by decide +kernel
theorem dL_law__858 : decode cL_law_ 858 = .ok (.iaload, 1) := by decide +kernel
theorem dL_law__859 : decode cL_law_ 859 = .ok (.invokevirtual 205, 3) := by decide +kernel
theorem dL_law__862 : decode cL_law_ 862 = .ok (.istore 6, 2) := by decide +kernel
theorem dL_law__864 : decode cL_law_ 864 = .ok (.aload_n 2, 1) := by decide +kernel
theorem dL_law__865 : decode cL_law_ 865 = .ok (.invokevirtual 174, 3) := by decide +kernel
theorem dL_law__868 : decode cL_law_ 868 = .ok (.iload 5, 2) := by decide +kernel
theorem dL_law__870 : decode cL_law_ 870 = .ok (.if_icmp .eq 5, 3) := by decide +kernel
theorem dL_law__873 : decode cL_law_ 873 = .ok (.iconst 0, 1) := by decide +kernel
theorem dL_law__874 : decode cL_law_ 874 = .ok (.ireturn, 1) := by decide +kernel
theorem dL_law__875 : decode cL_law_ 875 = .ok (.iload 5, 2) := by decide +kernel
theorem dL_law__877 : decode cL_law_ 877 = .ok (.ifCond .ne 15, 3) := by decide +kernel
theorem dL_law__880 : decode cL_law_ 880 = .ok (.aload_n 3, 1) := by decide +kernel
theorem dL_law__881 : decode cL_law_ 881 = .ok (.iconst 0, 1) := by decide +kernel
theorem dL_law__882 : decode cL_law_ 882 = .ok (.laload, 1) := by decide +kernel
theorem dL_law__883 : decode cL_law_ 883 = .ok (.iload 6, 2) := by decide +kernel
theorem dL_law__885 : decode cL_law_ 885 = .ok (.i2l, 1) := by decide +kernel
theorem dL_law__886 : decode cL_law_ 886 = .ok (.lcmp, 1) := by decide +kernel
theorem dL_law__887 : decode cL_law_ 887 = .ok (.ifCond .eq 5, 3) := by decide +kernel
theorem dL_law__890 : decode cL_law_ 890 = .ok (.iconst 0, 1) := by decide +kernel
theorem dL_law__891 : decode cL_law_ 891 = .ok (.ireturn, 1) := by decide +kernel
theorem dL_law__892 : decode cL_law_ 892 = .ok (.goto 2695, 3) := by decide +kernel
theorem dL_law__895 : decode cL_law_ 895 = .ok (.aload_n 1, 1) := by decide +kernel
theorem dL_law__896 : decode cL_law_ 896 = .ok (.aload_n 0, 1) := by decide +kernel
theorem dL_law__897 : decode cL_law_ 897 = .ok (.iload 4, 2) := by decide +kernel
theorem dL_law__899 : decode cL_law_ 899 = .ok (.iconst 1, 1) := by decide +kernel
theorem dL_law__900 : decode cL_law_ 900 = .ok (.iadd, 1) := by decide +kernel
theorem dL_law__901 : decode cL_law_ 901 = .ok (.iaload, 1) := by decide +kernel
theorem dL_law__902 : decode cL_law_ 902 = .ok (.aload_n 0, 1) := by decide +kernel
theorem dL_law__903 : decode cL_law_ 903 = .ok (.iload 4, 2) := by decide +kernel
theorem dL_law__905 : decode cL_law_ 905 = .ok (.iconst 2, 1) := by decide +kernel
theorem dL_law__906 : decode cL_law_ 906 = .ok (.iadd, 1) := by decide +kernel
theorem dL_law__907 : decode cL_law_ 907 = .ok (.iaload, 1) := by decide +kernel
theorem dL_law__908 : decode cL_law_ 908 = .ok (.ifCond .eq 7, 3) := by decide +kernel
theorem dL_law__911 : decode cL_law_ 911 = .ok (.iconst 1, 1) := by decide +kernel
theorem dL_law__912 : decode cL_law_ 912 = .ok (.goto 4, 3) := by decide +kernel
theorem dL_law__915 : decode cL_law_ 915 = .ok (.iconst 0, 1) := by decide +kernel
theorem dL_law__916 : decode cL_law_ 916 = .ok (.aload_n 3, 1) := by decide +kernel
theorem dL_law__917 : decode cL_law_ 917 = .ok (.invokestatic 206, 3) := by decide +kernel
theorem dL_law__920 : decode cL_law_ 920 = .ok (.istore 5, 2) := by decide +kernel
theorem dL_law__922 : decode cL_law_ 922 = .ok (.aload_n 2, 1) := by decide +kernel
theorem dL_law__923 : decode cL_law_ 923 = .ok (.aload_n 0, 1) := by decide +kernel
theorem dL_law__924 : decode cL_law_ 924 = .ok (.iload 4, 2) := by decide +kernel
theorem dL_law__926 : decode cL_law_ 926 = .ok (.iconst 1, 1) := by decide +kernel
theorem dL_law__927 : decode cL_law_ 927 = .ok (.iadd, 1) := by decide +kernel
theorem dL_law__928 : decode cL_law_ 928 = .ok (.iaload, 1) := by decide +kernel
theorem dL_law__929 : decode cL_law_ 929 = .ok (.aload_n 0, 1) := by decide +kernel
theorem dL_law__930 : decode cL_law_ 930 = .ok (.iload 4, 2) := by decide +kernel
theorem dL_law__932 : decode cL_law_ 932 = .ok (.iconst 2, 1) := by decide +kernel
theorem dL_law__933 : decode cL_law_ 933 = .ok (.iadd, 1) := by decide +kernel
theorem dL_law__934 : decode cL_law_ 934 = .ok (.iaload, 1) := by decide +kernel
theorem dL_law__935 : decode cL_law_ 935 = .ok (.ifCond .eq 7, 3) := by decide +kernel
theorem dL_law__938 : decode cL_law_ 938 = .ok (.iconst 1, 1) := by decide +kernel
theorem dL_law__939 : decode cL_law_ 939 = .ok (.goto 4, 3) := by decide +kernel
theorem dL_law__942 : decode cL_law_ 942 = .ok (.iconst 0, 1) := by decide +kernel
theorem dL_law__943 : decode cL_law_ 943 = .ok (.invokevirtual 208, 3) := by decide +kernel
theorem dL_law__946 : decode cL_law_ 946 = .ok (.istore 6, 2) := by decide +kernel
theorem dL_law__948 : decode cL_law_ 948 = .ok (.aload_n 2, 1) := by decide +kernel
theorem dL_law__949 : decode cL_law_ 949 = .ok (.invokevirtual 174, 3) := by decide +kernel
theorem dL_law__952 : decode cL_law_ 952 = .ok (.iload 5, 2) := by decide +kernel
theorem dL_law__954 : decode cL_law_ 954 = .ok (.if_icmp .eq 5, 3) := by decide +kernel
theorem dL_law__957 : decode cL_law_ 957 = .ok (.iconst 0, 1) := by decide +kernel
theorem dL_law__958 : decode cL_law_ 958 = .ok (.ireturn, 1) := by decide +kernel
theorem dL_law__959 : decode cL_law_ 959 = .ok (.iload 5, 2) := by decide +kernel
theorem dL_law__961 : decode cL_law_ 961 = .ok (.ifCond .ne 22, 3) := by decide +kernel
theorem dL_law__964 : decode cL_law_ 964 = .ok (.aload_n 3, 1) := by decide +kernel
theorem dL_law__965 : decode cL_law_ 965 = .ok (.iconst 0, 1) := by decide +kernel
theorem dL_law__966 : decode cL_law_ 966 = .ok (.laload, 1) := by decide +kernel
theorem dL_law__967 : decode cL_law_ 967 = .ok (.iload 6, 2) := by decide +kernel
theorem dL_law__969 : decode cL_law_ 969 = .ok (.ifCond .eq 7, 3) := by decide +kernel
theorem dL_law__972 : decode cL_law_ 972 = .ok (.lconst 1, 1) := by decide +kernel
theorem dL_law__973 : decode cL_law_ 973 = .ok (.goto 4, 3) := by decide +kernel
theorem dL_law__976 : decode cL_law_ 976 = .ok (.lconst 0, 1) := by decide +kernel
theorem dL_law__977 : decode cL_law_ 977 = .ok (.lcmp, 1) := by decide +kernel
theorem dL_law__978 : decode cL_law_ 978 = .ok (.ifCond .eq 5, 3) := by decide +kernel
theorem dL_law__981 : decode cL_law_ 981 = .ok (.iconst 0, 1) := by decide +kernel
theorem dL_law__982 : decode cL_law_ 982 = .ok (.ireturn, 1) := by decide +kernel
theorem dL_law__983 : decode cL_law_ 983 = .ok (.goto 2604, 3) := by decide +kernel
theorem dL_law__986 : decode cL_law_ 986 = .ok (.aload_n 1, 1) := by decide +kernel
theorem dL_law__987 : decode cL_law_ 987 = .ok (.aload_n 0, 1) := by decide +kernel
theorem dL_law__988 : decode cL_law_ 988 = .ok (.iload 4, 2) := by decide +kernel
theorem dL_law__990 : decode cL_law_ 990 = .ok (.iconst 1, 1) := by decide +kernel
theorem dL_law__991 : decode cL_law_ 991 = .ok (.iadd, 1) := by decide +kernel
theorem dL_law__992 : decode cL_law_ 992 = .ok (.iaload, 1) := by decide +kernel
theorem dL_law__993 : decode cL_law_ 993 = .ok (.aload_n 3, 1) := by decide +kernel
theorem dL_law__994 : decode cL_law_ 994 = .ok (.invokestatic 209, 3) := by decide +kernel
theorem dL_law__997 : decode cL_law_ 997 = .ok (.istore 5, 2) := by decide +kernel
theorem dL_law__999 : decode cL_law_ 999 = .ok (.aload_n 2, 1) := by decide +kernel
theorem dL_law__1000 : decode cL_law_ 1000 = .ok (.aload_n 0, 1) := by decide +kernel
theorem dL_law__1001 : decode cL_law_ 1001 = .ok (.iload 4, 2) := by decide +kernel
theorem dL_law__1003 : decode cL_law_ 1003 = .ok (.iconst 1, 1) := by decide +kernel
theorem dL_law__1004 : decode cL_law_ 1004 = .ok (.iadd, 1) := by decide +kernel
theorem dL_law__1005 : decode cL_law_ 1005 = .ok (.iaload, 1) := by decide +kernel
theorem dL_law__1006 : decode cL_law_ 1006 = .ok (.invokevirtual 211, 3) := by decide +kernel
theorem dL_law__1009 : decode cL_law_ 1009 = .ok (.istore 6, 2) := by decide +kernel
theorem dL_law__1011 : decode cL_law_ 1011 = .ok (.aload_n 2, 1) := by decide +kernel
theorem dL_law__1012 : decode cL_law_ 1012 = .ok (.invokevirtual 174, 3) := by decide +kernel
theorem dL_law__1015 : decode cL_law_ 1015 = .ok (.iload 5, 2) := by decide +kernel
theorem dL_law__1017 : decode cL_law_ 1017 = .ok (.if_icmp .eq 5, 3) := by decide +kernel
theorem dL_law__1020 : decode cL_law_ 1020 = .ok (.iconst 0, 1) := by decide +kernel
theorem dL_law__1021 : decode cL_law_ 1021 = .ok (.ireturn, 1) := by decide +kernel
theorem dL_law__1022 : decode cL_law_ 1022 = .ok (.iload 5, 2) := by decide +kernel
theorem dL_law__1024 : decode cL_law_ 1024 = .ok (.ifCond .ne 15, 3) := by decide +kernel
theorem dL_law__1027 : decode cL_law_ 1027 = .ok (.aload_n 3, 1) := by decide +kernel
theorem dL_law__1028 : decode cL_law_ 1028 = .ok (.iconst 0, 1) := by decide +kernel
theorem dL_law__1029 : decode cL_law_ 1029 = .ok (.laload, 1) := by decide +kernel
theorem dL_law__1030 : decode cL_law_ 1030 = .ok (.iload 6, 2) := by decide +kernel
theorem dL_law__1032 : decode cL_law_ 1032 = .ok (.i2l, 1) := by decide +kernel
theorem dL_law__1033 : decode cL_law_ 1033 = .ok (.lcmp, 1) := by decide +kernel
theorem dL_law__1034 : decode cL_law_ 1034 = .ok (.ifCond .eq 5, 3) := by decide +kernel
theorem dL_law__1037 : decode cL_law_ 1037 = .ok (.iconst 0, 1) := by decide +kernel
theorem dL_law__1038 : decode cL_law_ 1038 = .ok (.ireturn, 1) := by decide +kernel
theorem dL_law__1039 : decode cL_law_ 1039 = .ok (.goto 2548, 3) := by decide +kernel
theorem dL_law__1042 : decode cL_law_ 1042 = .ok (.aload_n 1, 1) := by decide +kernel
theorem dL_law__1043 : decode cL_law_ 1043 = .ok (.aload_n 0, 1) := by decide +kernel
theorem dL_law__1044 : decode cL_law_ 1044 = .ok (.iload 4, 2) := by decide +kernel
theorem dL_law__1046 : decode cL_law_ 1046 = .ok (.iconst 1, 1) := by decide +kernel
theorem dL_law__1047 : decode cL_law_ 1047 = .ok (.iadd, 1) := by decide +kernel
theorem dL_law__1048 : decode cL_law_ 1048 = .ok (.iaload, 1) := by decide +kernel
theorem dL_law__1049 : decode cL_law_ 1049 = .ok (.aload_n 0, 1) := by decide +kernel
theorem dL_law__1050 : decode cL_law_ 1050 = .ok (.iload 4, 2) := by decide +kernel
theorem dL_law__1052 : decode cL_law_ 1052 = .ok (.iconst 2, 1) := by decide +kernel
theorem dL_law__1053 : decode cL_law_ 1053 = .ok (.iadd, 1) := by decide +kernel
theorem dL_law__1054 : decode cL_law_ 1054 = .ok (.iaload, 1) := by decide +kernel
theorem dL_law__1055 : decode cL_law_ 1055 = .ok (.aload_n 3, 1) := by decide +kernel
theorem dL_law__1056 : decode cL_law_ 1056 = .ok (.invokestatic 212, 3) := by decide +kernel
theorem dL_law__1059 : decode cL_law_ 1059 = .ok (.istore 5, 2) := by decide +kernel
theorem dL_law__1061 : decode cL_law_ 1061 = .ok (.aload_n 2, 1) := by decide +kernel
theorem dL_law__1062 : decode cL_law_ 1062 = .ok (.aload_n 0, 1) := by decide +kernel
theorem dL_law__1063 : decode cL_law_ 1063 = .ok (.iload 4, 2) := by decide +kernel
theorem dL_law__1065 : decode cL_law_ 1065 = .ok (.iconst 1, 1) := by decide +kernel
theorem dL_law__1066 : decode cL_law_ 1066 = .ok (.iadd, 1) := by decide +kernel
theorem dL_law__1067 : decode cL_law_ 1067 = .ok (.iaload, 1) := by decide +kernel
theorem dL_law__1068 : decode cL_law_ 1068 = .ok (.aload_n 0, 1) := by decide +kernel
theorem dL_law__1069 : decode cL_law_ 1069 = .ok (.iload 4, 2) := by decide +kernel
theorem dL_law__1071 : decode cL_law_ 1071 = .ok (.iconst 2, 1) := by decide +kernel
theorem dL_law__1072 : decode cL_law_ 1072 = .ok (.iadd, 1) := by decide +kernel
theorem dL_law__1073 : decode cL_law_ 1073 = .ok (.iaload, 1) := by decide +kernel
theorem dL_law__1074 : decode cL_law_ 1074 = .ok (.invokevirtual 214, 3) := by decide +kernel
theorem dL_law__1077 : decode cL_law_ 1077 = .ok (.istore 6, 2) := by decide +kernel
theorem dL_law__1079 : decode cL_law_ 1079 = .ok (.aload_n 2, 1) := by decide +kernel
theorem dL_law__1080 : decode cL_law_ 1080 = .ok (.invokevirtual 174, 3) := by decide +kernel
theorem dL_law__1083 : decode cL_law_ 1083 = .ok (.iload 5, 2) := by decide +kernel
theorem dL_law__1085 : decode cL_law_ 1085 = .ok (.if_icmp .eq 5, 3) := by decide +kernel
theorem dL_law__1088 : decode cL_law_ 1088 = .ok (.iconst 0, 1) := by decide +kernel
theorem dL_law__1089 : decode cL_law_ 1089 = .ok (.ireturn, 1) := by decide +kernel
theorem dL_law__1090 : decode cL_law_ 1090 = .ok (.iload 5, 2) := by decide +kernel
theorem dL_law__1092 : decode cL_law_ 1092 = .ok (.ifCond .ne 15, 3) := by decide +kernel
theorem dL_law__1095 : decode cL_law_ 1095 = .ok (.aload_n 3, 1) := by decide +kernel
theorem dL_law__1096 : decode cL_law_ 1096 = .ok (.iconst 0, 1) := by decide +kernel
theorem dL_law__1097 : decode cL_law_ 1097 = .ok (.laload, 1) := by decide +kernel
theorem dL_law__1098 : decode cL_law_ 1098 = .ok (.iload 6, 2) := by decide +kernel
theorem dL_law__1100 : decode cL_law_ 1100 = .ok (.i2l, 1) := by decide +kernel
theorem dL_law__1101 : decode cL_law_ 1101 = .ok (.lcmp, 1) := by decide +kernel
theorem dL_law__1102 : decode cL_law_ 1102 = .ok (.ifCond .eq 5, 3) := by decide +kernel
theorem dL_law__1105 : decode cL_law_ 1105 = .ok (.iconst 0, 1) := by decide +kernel
theorem dL_law__1106 : decode cL_law_ 1106 = .ok (.ireturn, 1) := by decide +kernel
theorem dL_law__1107 : decode cL_law_ 1107 = .ok (.goto 2480, 3) := by decide +kernel
theorem dL_law__1110 : decode cL_law_ 1110 = .ok (.aload_n 1, 1) := by decide +kernel
theorem dL_law__1111 : decode cL_law_ 1111 = .ok (.aload_n 0, 1) := by decide +kernel
theorem dL_law__1112 : decode cL_law_ 1112 = .ok (.iload 4, 2) := by decide +kernel
theorem dL_law__1114 : decode cL_law_ 1114 = .ok (.iconst 1, 1) := by decide +kernel
theorem dL_law__1115 : decode cL_law_ 1115 = .ok (.iadd, 1) := by decide +kernel
theorem dL_law__1116 : decode cL_law_ 1116 = .ok (.iaload, 1) := by decide +kernel
theorem dL_law__1117 : decode cL_law_ 1117 = .ok (.aload_n 0, 1) := by decide +kernel
theorem dL_law__1118 : decode cL_law_ 1118 = .ok (.iload 4, 2) := by decide +kernel
theorem dL_law__1120 : decode cL_law_ 1120 = .ok (.iconst 2, 1) := by decide +kernel
theorem dL_law__1121 : decode cL_law_ 1121 = .ok (.iadd, 1) := by decide +kernel
theorem dL_law__1122 : decode cL_law_ 1122 = .ok (.iaload, 1) := by decide +kernel
theorem dL_law__1123 : decode cL_law_ 1123 = .ok (.aload_n 3, 1) := by decide +kernel
theorem dL_law__1124 : decode cL_law_ 1124 = .ok (.invokestatic 215, 3) := by decide +kernel
theorem dL_law__1127 : decode cL_law_ 1127 = .ok (.istore 5, 2) := by decide +kernel
theorem dL_law__1129 : decode cL_law_ 1129 = .ok (.aload_n 2, 1) := by decide +kernel
theorem dL_law__1130 : decode cL_law_ 1130 = .ok (.aload_n 0, 1) := by decide +kernel
theorem dL_law__1131 : decode cL_law_ 1131 = .ok (.iload 4, 2) := by decide +kernel
theorem dL_law__1133 : decode cL_law_ 1133 = .ok (.iconst 1, 1) := by decide +kernel
theorem dL_law__1134 : decode cL_law_ 1134 = .ok (.iadd, 1) := by decide +kernel
theorem dL_law__1135 : decode cL_law_ 1135 = .ok (.iaload, 1) := by decide +kernel
theorem dL_law__1136 : decode cL_law_ 1136 = .ok (.aload_n 0, 1) := by decide +kernel
theorem dL_law__1137 : decode cL_law_ 1137 = .ok (.iload 4, 2) := by decide +kernel
theorem dL_law__1139 : decode cL_law_ 1139 = .ok (.iconst 2, 1) := by decide +kernel
theorem dL_law__1140 : decode cL_law_ 1140 = .ok (.iadd, 1) := by decide +kernel
theorem dL_law__1141 : decode cL_law_ 1141 = .ok (.iaload, 1) := by decide +kernel
theorem dL_law__1142 : decode cL_law_ 1142 = .ok (.invokevirtual 217, 3) := by decide +kernel
theorem dL_law__1145 : decode cL_law_ 1145 = .ok (.istore 6, 2) := by decide +kernel
theorem dL_law__1147 : decode cL_law_ 1147 = .ok (.aload_n 2, 1) := by decide +kernel
theorem dL_law__1148 : decode cL_law_ 1148 = .ok (.invokevirtual 174, 3) := by decide +kernel
theorem dL_law__1151 : decode cL_law_ 1151 = .ok (.iload 5, 2) := by decide +kernel
theorem dL_law__1153 : decode cL_law_ 1153 = .ok (.if_icmp .eq 5, 3) := by decide +kernel
theorem dL_law__1156 : decode cL_law_ 1156 = .ok (.iconst 0, 1) := by decide +kernel
theorem dL_law__1157 : decode cL_law_ 1157 = .ok (.ireturn, 1) := by decide +kernel
theorem dL_law__1158 : decode cL_law_ 1158 = .ok (.iload 5, 2) := by decide +kernel
theorem dL_law__1160 : decode cL_law_ 1160 = .ok (.ifCond .ne 15, 3) := by decide +kernel
theorem dL_law__1163 : decode cL_law_ 1163 = .ok (.aload_n 3, 1) := by decide +kernel
theorem dL_law__1164 : decode cL_law_ 1164 = .ok (.iconst 0, 1) := by decide +kernel
theorem dL_law__1165 : decode cL_law_ 1165 = .ok (.laload, 1) := by decide +kernel
theorem dL_law__1166 : decode cL_law_ 1166 = .ok (.iload 6, 2) := by decide +kernel
theorem dL_law__1168 : decode cL_law_ 1168 = .ok (.i2l, 1) := by decide +kernel
theorem dL_law__1169 : decode cL_law_ 1169 = .ok (.lcmp, 1) := by decide +kernel
theorem dL_law__1170 : decode cL_law_ 1170 = .ok (.ifCond .eq 5, 3) := by decide +kernel
theorem dL_law__1173 : decode cL_law_ 1173 = .ok (.iconst 0, 1) := by decide +kernel
theorem dL_law__1174 : decode cL_law_ 1174 = .ok (.ireturn, 1) := by decide +kernel
theorem dL_law__1175 : decode cL_law_ 1175 = .ok (.goto 2412, 3) := by decide +kernel
theorem dL_law__1178 : decode cL_law_ 1178 = .ok (.aload_n 1, 1) := by decide +kernel
theorem dL_law__1179 : decode cL_law_ 1179 = .ok (.aload_n 0, 1) := by decide +kernel
theorem dL_law__1180 : decode cL_law_ 1180 = .ok (.iload 4, 2) := by decide +kernel
theorem dL_law__1182 : decode cL_law_ 1182 = .ok (.iconst 1, 1) := by decide +kernel
theorem dL_law__1183 : decode cL_law_ 1183 = .ok (.iadd, 1) := by decide +kernel
theorem dL_law__1184 : decode cL_law_ 1184 = .ok (.iaload, 1) := by decide +kernel
theorem dL_law__1185 : decode cL_law_ 1185 = .ok (.aload_n 0, 1) := by decide +kernel
theorem dL_law__1186 : decode cL_law_ 1186 = .ok (.iload 4, 2) := by decide +kernel
theorem dL_law__1188 : decode cL_law_ 1188 = .ok (.iconst 2, 1) := by decide +kernel
theorem dL_law__1189 : decode cL_law_ 1189 = .ok (.iadd, 1) := by decide +kernel
theorem dL_law__1190 : decode cL_law_ 1190 = .ok (.iaload, 1) := by decide +kernel
theorem dL_law__1191 : decode cL_law_ 1191 = .ok (.ifCond .eq 7, 3) := by decide +kernel
theorem dL_law__1194 : decode cL_law_ 1194 = .ok (.iconst 1, 1) := by decide +kernel
theorem dL_law__1195 : decode cL_law_ 1195 = .ok (.goto 4, 3) := by decide +kernel
theorem dL_law__1198 : decode cL_law_ 1198 = .ok (.iconst 0, 1) := by decide +kernel
theorem dL_law__1199 : decode cL_law_ 1199 = .ok (.aload_n 3, 1) := by decide +kernel
theorem dL_law__1200 : decode cL_law_ 1200 = .ok (.invokestatic 218, 3) := by decide +kernel
theorem dL_law__1203 : decode cL_law_ 1203 = .ok (.istore 5, 2) := by decide +kernel
theorem dL_law__1205 : decode cL_law_ 1205 = .ok (.aload_n 2, 1) := by decide +kernel
theorem dL_law__1206 : decode cL_law_ 1206 = .ok (.aload_n 0, 1) := by decide +kernel
theorem dL_law__1207 : decode cL_law_ 1207 = .ok (.iload 4, 2) := by decide +kernel
theorem dL_law__1209 : decode cL_law_ 1209 = .ok (.iconst 1, 1) := by decide +kernel
theorem dL_law__1210 : decode cL_law_ 1210 = .ok (.iadd, 1) := by decide +kernel
theorem dL_law__1211 : decode cL_law_ 1211 = .ok (.iaload, 1) := by decide +kernel
theorem dL_law__1212 : decode cL_law_ 1212 = .ok (.aload_n 0, 1) := by decide +kernel
theorem dL_law__1213 : decode cL_law_ 1213 = .ok (.iload 4, 2) := by decide +kernel
theorem dL_law__1215 : decode cL_law_ 1215 = .ok (.iconst 2, 1) := by decide +kernel
theorem dL_law__1216 : decode cL_law_ 1216 = .ok (.iadd, 1) := by decide +kernel
theorem dL_law__1217 : decode cL_law_ 1217 = .ok (.iaload, 1) := by decide +kernel
theorem dL_law__1218 : decode cL_law_ 1218 = .ok (.ifCond .eq 7, 3) := by decide +kernel
theorem dL_law__1221 : decode cL_law_ 1221 = .ok (.iconst 1, 1) := by decide +kernel
theorem dL_law__1222 : decode cL_law_ 1222 = .ok (.goto 4, 3) := by decide +kernel
theorem dL_law__1225 : decode cL_law_ 1225 = .ok (.iconst 0, 1) := by decide +kernel
theorem dL_law__1226 : decode cL_law_ 1226 = .ok (.invokevirtual 220, 3) := by decide +kernel
theorem dL_law__1229 : decode cL_law_ 1229 = .ok (.istore 6, 2) := by decide +kernel
theorem dL_law__1231 : decode cL_law_ 1231 = .ok (.aload_n 2, 1) := by decide +kernel
theorem dL_law__1232 : decode cL_law_ 1232 = .ok (.invokevirtual 174, 3) := by decide +kernel
theorem dL_law__1235 : decode cL_law_ 1235 = .ok (.iload 5, 2) := by decide +kernel
theorem dL_law__1237 : decode cL_law_ 1237 = .ok (.if_icmp .eq 5, 3) := by decide +kernel
theorem dL_law__1240 : decode cL_law_ 1240 = .ok (.iconst 0, 1) := by decide +kernel
theorem dL_law__1241 : decode cL_law_ 1241 = .ok (.ireturn, 1) := by decide +kernel
theorem dL_law__1242 : decode cL_law_ 1242 = .ok (.iload 5, 2) := by decide +kernel
theorem dL_law__1244 : decode cL_law_ 1244 = .ok (.ifCond .ne 22, 3) := by decide +kernel
theorem dL_law__1247 : decode cL_law_ 1247 = .ok (.aload_n 3, 1) := by decide +kernel
theorem dL_law__1248 : decode cL_law_ 1248 = .ok (.iconst 0, 1) := by decide +kernel
theorem dL_law__1249 : decode cL_law_ 1249 = .ok (.laload, 1) := by decide +kernel
theorem dL_law__1250 : decode cL_law_ 1250 = .ok (.iload 6, 2) := by decide +kernel
theorem dL_law__1252 : decode cL_law_ 1252 = .ok (.ifCond .eq 7, 3) := by decide +kernel
theorem dL_law__1255 : decode cL_law_ 1255 = .ok (.lconst 1, 1) := by decide +kernel
theorem dL_law__1256 : decode cL_law_ 1256 = .ok (.goto 4, 3) := by decide +kernel
theorem dL_law__1259 : decode cL_law_ 1259 = .ok (.lconst 0, 1) := by decide +kernel
theorem dL_law__1260 : decode cL_law_ 1260 = .ok (.lcmp, 1) := by decide +kernel
theorem dL_law__1261 : decode cL_law_ 1261 = .ok (.ifCond .eq 5, 3) := by decide +kernel
theorem dL_law__1264 : decode cL_law_ 1264 = .ok (.iconst 0, 1) := by decide +kernel
theorem dL_law__1265 : decode cL_law_ 1265 = .ok (.ireturn, 1) := by decide +kernel
theorem dL_law__1266 : decode cL_law_ 1266 = .ok (.goto 2321, 3) := by decide +kernel
theorem dL_law__1269 : decode cL_law_ 1269 = .ok (.aload_n 1, 1) := by decide +kernel
theorem dL_law__1270 : decode cL_law_ 1270 = .ok (.aload_n 0, 1) := by decide +kernel
theorem dL_law__1271 : decode cL_law_ 1271 = .ok (.iload 4, 2) := by decide +kernel
theorem dL_law__1273 : decode cL_law_ 1273 = .ok (.iconst 1, 1) := by decide +kernel
theorem dL_law__1274 : decode cL_law_ 1274 = .ok (.iadd, 1) := by decide +kernel
theorem dL_law__1275 : decode cL_law_ 1275 = .ok (.iaload, 1) := by decide +kernel
theorem dL_law__1276 : decode cL_law_ 1276 = .ok (.aload_n 3, 1) := by decide +kernel
theorem dL_law__1277 : decode cL_law_ 1277 = .ok (.invokestatic 221, 3) := by decide +kernel
theorem dL_law__1280 : decode cL_law_ 1280 = .ok (.istore 5, 2) := by decide +kernel
theorem dL_law__1282 : decode cL_law_ 1282 = .ok (.aload_n 2, 1) := by decide +kernel
theorem dL_law__1283 : decode cL_law_ 1283 = .ok (.aload_n 0, 1) := by decide +kernel
theorem dL_law__1284 : decode cL_law_ 1284 = .ok (.iload 4, 2) := by decide +kernel
theorem dL_law__1286 : decode cL_law_ 1286 = .ok (.iconst 1, 1) := by decide +kernel
theorem dL_law__1287 : decode cL_law_ 1287 = .ok (.iadd, 1) := by decide +kernel
theorem dL_law__1288 : decode cL_law_ 1288 = .ok (.iaload, 1) := by decide +kernel
theorem dL_law__1289 : decode cL_law_ 1289 = .ok (.invokevirtual 223, 3) := by decide +kernel
theorem dL_law__1292 : decode cL_law_ 1292 = .ok (.istore 6, 2) := by decide +kernel
theorem dL_law__1294 : decode cL_law_ 1294 = .ok (.aload_n 2, 1) := by decide +kernel
theorem dL_law__1295 : decode cL_law_ 1295 = .ok (.invokevirtual 174, 3) := by decide +kernel
theorem dL_law__1298 : decode cL_law_ 1298 = .ok (.iload 5, 2) := by decide +kernel
theorem dL_law__1300 : decode cL_law_ 1300 = .ok (.if_icmp .eq 5, 3) := by decide +kernel
theorem dL_law__1303 : decode cL_law_ 1303 = .ok (.iconst 0, 1) := by decide +kernel
theorem dL_law__1304 : decode cL_law_ 1304 = .ok (.ireturn, 1) := by decide +kernel
theorem dL_law__1305 : decode cL_law_ 1305 = .ok (.iload 5, 2) := by decide +kernel
theorem dL_law__1307 : decode cL_law_ 1307 = .ok (.ifCond .ne 15, 3) := by decide +kernel
theorem dL_law__1310 : decode cL_law_ 1310 = .ok (.aload_n 3, 1) := by decide +kernel
theorem dL_law__1311 : decode cL_law_ 1311 = .ok (.iconst 0, 1) := by decide +kernel
theorem dL_law__1312 : decode cL_law_ 1312 = .ok (.laload, 1) := by decide +kernel
theorem dL_law__1313 : decode cL_law_ 1313 = .ok (.iload 6, 2) := by decide +kernel
theorem dL_law__1315 : decode cL_law_ 1315 = .ok (.i2l, 1) := by decide +kernel
theorem dL_law__1316 : decode cL_law_ 1316 = .ok (.lcmp, 1) := by decide +kernel
theorem dL_law__1317 : decode cL_law_ 1317 = .ok (.ifCond .eq 5, 3) := by decide +kernel
theorem dL_law__1320 : decode cL_law_ 1320 = .ok (.iconst 0, 1) := by decide +kernel
theorem dL_law__1321 : decode cL_law_ 1321 = .ok (.ireturn, 1) := by decide +kernel
theorem dL_law__1322 : decode cL_law_ 1322 = .ok (.goto 2265, 3) := by decide +kernel
theorem dL_law__1325 : decode cL_law_ 1325 = .ok (.aload_n 1, 1) := by decide +kernel
theorem dL_law__1326 : decode cL_law_ 1326 = .ok (.aload_n 0, 1) := by decide +kernel
theorem dL_law__1327 : decode cL_law_ 1327 = .ok (.iload 4, 2) := by decide +kernel
theorem dL_law__1329 : decode cL_law_ 1329 = .ok (.iconst 1, 1) := by decide +kernel
theorem dL_law__1330 : decode cL_law_ 1330 = .ok (.iadd, 1) := by decide +kernel
theorem dL_law__1331 : decode cL_law_ 1331 = .ok (.iaload, 1) := by decide +kernel
theorem dL_law__1332 : decode cL_law_ 1332 = .ok (.aload_n 3, 1) := by decide +kernel
theorem dL_law__1333 : decode cL_law_ 1333 = .ok (.invokestatic 224, 3) := by decide +kernel
theorem dL_law__1336 : decode cL_law_ 1336 = .ok (.istore 5, 2) := by decide +kernel
theorem dL_law__1338 : decode cL_law_ 1338 = .ok (.aload_n 2, 1) := by decide +kernel
theorem dL_law__1339 : decode cL_law_ 1339 = .ok (.aload_n 0, 1) := by decide +kernel
theorem dL_law__1340 : decode cL_law_ 1340 = .ok (.iload 4, 2) := by decide +kernel
theorem dL_law__1342 : decode cL_law_ 1342 = .ok (.iconst 1, 1) := by decide +kernel
theorem dL_law__1343 : decode cL_law_ 1343 = .ok (.iadd, 1) := by decide +kernel
theorem dL_law__1344 : decode cL_law_ 1344 = .ok (.iaload, 1) := by decide +kernel
theorem dL_law__1345 : decode cL_law_ 1345 = .ok (.invokevirtual 226, 3) := by decide +kernel
theorem dL_law__1348 : decode cL_law_ 1348 = .ok (.istore 6, 2) := by decide +kernel
theorem dL_law__1350 : decode cL_law_ 1350 = .ok (.aload_n 2, 1) := by decide +kernel
theorem dL_law__1351 : decode cL_law_ 1351 = .ok (.invokevirtual 174, 3) := by decide +kernel
theorem dL_law__1354 : decode cL_law_ 1354 = .ok (.iload 5, 2) := by decide +kernel
theorem dL_law__1356 : decode cL_law_ 1356 = .ok (.if_icmp .eq 5, 3) := by decide +kernel
theorem dL_law__1359 : decode cL_law_ 1359 = .ok (.iconst 0, 1) := by decide +kernel
theorem dL_law__1360 : decode cL_law_ 1360 = .ok (.ireturn, 1) := by decide +kernel
theorem dL_law__1361 : decode cL_law_ 1361 = .ok (.iload 5, 2) := by decide +kernel
theorem dL_law__1363 : decode cL_law_ 1363 = .ok (.ifCond .ne 15, 3) := by decide +kernel
theorem dL_law__1366 : decode cL_law_ 1366 = .ok (.aload_n 3, 1) := by decide +kernel
theorem dL_law__1367 : decode cL_law_ 1367 = .ok (.iconst 0, 1) := by decide +kernel
theorem dL_law__1368 : decode cL_law_ 1368 = .ok (.laload, 1) := by decide +kernel
theorem dL_law__1369 : decode cL_law_ 1369 = .ok (.iload 6, 2) := by decide +kernel
theorem dL_law__1371 : decode cL_law_ 1371 = .ok (.i2l, 1) := by decide +kernel
theorem dL_law__1372 : decode cL_law_ 1372 = .ok (.lcmp, 1) := by decide +kernel
theorem dL_law__1373 : decode cL_law_ 1373 = .ok (.ifCond .eq 5, 3) := by decide +kernel
theorem dL_law__1376 : decode cL_law_ 1376 = .ok (.iconst 0, 1) := by decide +kernel
theorem dL_law__1377 : decode cL_law_ 1377 = .ok (.ireturn, 1) := by decide +kernel
theorem dL_law__1378 : decode cL_law_ 1378 = .ok (.goto 2209, 3) := by decide +kernel
theorem dL_law__1381 : decode cL_law_ 1381 = .ok (.aload_n 1, 1) := by decide +kernel
theorem dL_law__1382 : decode cL_law_ 1382 = .ok (.aload_n 0, 1) := by decide +kernel
theorem dL_law__1383 : decode cL_law_ 1383 = .ok (.iload 4, 2) := by decide +kernel
theorem dL_law__1385 : decode cL_law_ 1385 = .ok (.iconst 1, 1) := by decide +kernel
theorem dL_law__1386 : decode cL_law_ 1386 = .ok (.iadd, 1) := by decide +kernel
theorem dL_law__1387 : decode cL_law_ 1387 = .ok (.iaload, 1) := by decide +kernel
theorem dL_law__1388 : decode cL_law_ 1388 = .ok (.aload_n 0, 1) := by decide +kernel
theorem dL_law__1389 : decode cL_law_ 1389 = .ok (.iload 4, 2) := by decide +kernel
theorem dL_law__1391 : decode cL_law_ 1391 = .ok (.iconst 2, 1) := by decide +kernel
theorem dL_law__1392 : decode cL_law_ 1392 = .ok (.iadd, 1) := by decide +kernel
theorem dL_law__1393 : decode cL_law_ 1393 = .ok (.iaload, 1) := by decide +kernel
theorem dL_law__1394 : decode cL_law_ 1394 = .ok (.aload_n 0, 1) := by decide +kernel
theorem dL_law__1395 : decode cL_law_ 1395 = .ok (.iload 4, 2) := by decide +kernel
theorem dL_law__1397 : decode cL_law_ 1397 = .ok (.iconst 3, 1) := by decide +kernel
theorem dL_law__1398 : decode cL_law_ 1398 = .ok (.iadd, 1) := by decide +kernel
theorem dL_law__1399 : decode cL_law_ 1399 = .ok (.iaload, 1) := by decide +kernel
theorem dL_law__1400 : decode cL_law_ 1400 = .ok (.aload_n 3, 1) := by decide +kernel
theorem dL_law__1401 : decode cL_law_ 1401 = .ok (.invokestatic 227, 3) := by decide +kernel
theorem dL_law__1404 : decode cL_law_ 1404 = .ok (.istore 5, 2) := by decide +kernel
theorem dL_law__1406 : decode cL_law_ 1406 = .ok (.aload_n 2, 1) := by decide +kernel
theorem dL_law__1407 : decode cL_law_ 1407 = .ok (.aload_n 0, 1) := by decide +kernel
theorem dL_law__1408 : decode cL_law_ 1408 = .ok (.iload 4, 2) := by decide +kernel
theorem dL_law__1410 : decode cL_law_ 1410 = .ok (.iconst 1, 1) := by decide +kernel
theorem dL_law__1411 : decode cL_law_ 1411 = .ok (.iadd, 1) := by decide +kernel
theorem dL_law__1412 : decode cL_law_ 1412 = .ok (.iaload, 1) := by decide +kernel
theorem dL_law__1413 : decode cL_law_ 1413 = .ok (.aload_n 0, 1) := by decide +kernel
theorem dL_law__1414 : decode cL_law_ 1414 = .ok (.iload 4, 2) := by decide +kernel
theorem dL_law__1416 : decode cL_law_ 1416 = .ok (.iconst 2, 1) := by decide +kernel
theorem dL_law__1417 : decode cL_law_ 1417 = .ok (.iadd, 1) := by decide +kernel
theorem dL_law__1418 : decode cL_law_ 1418 = .ok (.iaload, 1) := by decide +kernel
theorem dL_law__1419 : decode cL_law_ 1419 = .ok (.aload_n 0, 1) := by decide +kernel
theorem dL_law__1420 : decode cL_law_ 1420 = .ok (.iload 4, 2) := by decide +kernel
theorem dL_law__1422 : decode cL_law_ 1422 = .ok (.iconst 3, 1) := by decide +kernel
theorem dL_law__1423 : decode cL_law_ 1423 = .ok (.iadd, 1) := by decide +kernel
theorem dL_law__1424 : decode cL_law_ 1424 = .ok (.iaload, 1) := by decide +kernel
theorem dL_law__1425 : decode cL_law_ 1425 = .ok (.invokevirtual 230, 3) := by decide +kernel
theorem dL_law__1428 : decode cL_law_ 1428 = .ok (.istore 6, 2) := by decide +kernel
theorem dL_law__1430 : decode cL_law_ 1430 = .ok (.aload_n 2, 1) := by decide +kernel
theorem dL_law__1431 : decode cL_law_ 1431 = .ok (.invokevirtual 174, 3) := by decide +kernel
theorem dL_law__1434 : decode cL_law_ 1434 = .ok (.iload 5, 2) := by decide +kernel
theorem dL_law__1436 : decode cL_law_ 1436 = .ok (.if_icmp .eq 5, 3) := by decide +kernel
theorem dL_law__1439 : decode cL_law_ 1439 = .ok (.iconst 0, 1) := by decide +kernel
theorem dL_law__1440 : decode cL_law_ 1440 = .ok (.ireturn, 1) := by decide +kernel
theorem dL_law__1441 : decode cL_law_ 1441 = .ok (.iload 5, 2) := by decide +kernel
theorem dL_law__1443 : decode cL_law_ 1443 = .ok (.ifCond .ne 15, 3) := by decide +kernel
theorem dL_law__1446 : decode cL_law_ 1446 = .ok (.aload_n 3, 1) := by decide +kernel
theorem dL_law__1447 : decode cL_law_ 1447 = .ok (.iconst 0, 1) := by decide +kernel
theorem dL_law__1448 : decode cL_law_ 1448 = .ok (.laload, 1) := by decide +kernel
theorem dL_law__1449 : decode cL_law_ 1449 = .ok (.iload 6, 2) := by decide +kernel
theorem dL_law__1451 : decode cL_law_ 1451 = .ok (.i2l, 1) := by decide +kernel
theorem dL_law__1452 : decode cL_law_ 1452 = .ok (.lcmp, 1) := by decide +kernel
theorem dL_law__1453 : decode cL_law_ 1453 = .ok (.ifCond .eq 5, 3) := by decide +kernel
theorem dL_law__1456 : decode cL_law_ 1456 = .ok (.iconst 0, 1) := by decide +kernel
theorem dL_law__1457 : decode cL_law_ 1457 = .ok (.ireturn, 1) := by decide +kernel
theorem dL_law__1458 : decode cL_law_ 1458 = .ok (.goto 2129, 3) := by decide +kernel
theorem dL_law__1461 : decode cL_law_ 1461 = .ok (.aload_n 1, 1) := by decide +kernel
theorem dL_law__1462 : decode cL_law_ 1462 = .ok (.aload_n 0, 1) := by decide +kernel
theorem dL_law__1463 : decode cL_law_ 1463 = .ok (.iload 4, 2) := by decide +kernel
theorem dL_law__1465 : decode cL_law_ 1465 = .ok (.iconst 1, 1) := by decide +kernel
theorem dL_law__1466 : decode cL_law_ 1466 = .ok (.iadd, 1) := by decide +kernel
theorem dL_law__1467 : decode cL_law_ 1467 = .ok (.iaload, 1) := by decide +kernel
theorem dL_law__1468 : decode cL_law_ 1468 = .ok (.aload_n 0, 1) := by decide +kernel
theorem dL_law__1469 : decode cL_law_ 1469 = .ok (.iload 4, 2) := by decide +kernel
theorem dL_law__1471 : decode cL_law_ 1471 = .ok (.iconst 2, 1) := by decide +kernel
theorem dL_law__1472 : decode cL_law_ 1472 = .ok (.iadd, 1) := by decide +kernel
theorem dL_law__1473 : decode cL_law_ 1473 = .ok (.iaload, 1) := by decide +kernel
theorem dL_law__1474 : decode cL_law_ 1474 = .ok (.aload_n 0, 1) := by decide +kernel
theorem dL_law__1475 : decode cL_law_ 1475 = .ok (.iload 4, 2) := by decide +kernel
theorem dL_law__1477 : decode cL_law_ 1477 = .ok (.iconst 3, 1) := by decide +kernel
theorem dL_law__1478 : decode cL_law_ 1478 = .ok (.iadd, 1) := by decide +kernel
theorem dL_law__1479 : decode cL_law_ 1479 = .ok (.iaload, 1) := by decide +kernel
theorem dL_law__1480 : decode cL_law_ 1480 = .ok (.ifCond .eq 7, 3) := by decide +kernel
theorem dL_law__1483 : decode cL_law_ 1483 = .ok (.iconst 1, 1) := by decide +kernel
theorem dL_law__1484 : decode cL_law_ 1484 = .ok (.goto 4, 3) := by decide +kernel
theorem dL_law__1487 : decode cL_law_ 1487 = .ok (.iconst 0, 1) := by decide +kernel
theorem dL_law__1488 : decode cL_law_ 1488 = .ok (.aload_n 3, 1) := by decide +kernel
theorem dL_law__1489 : decode cL_law_ 1489 = .ok (.invokestatic 231, 3) := by decide +kernel
theorem dL_law__1492 : decode cL_law_ 1492 = .ok (.istore 5, 2) := by decide +kernel
theorem dL_law__1494 : decode cL_law_ 1494 = .ok (.aload_n 2, 1) := by decide +kernel
theorem dL_law__1495 : decode cL_law_ 1495 = .ok (.aload_n 0, 1) := by decide +kernel
theorem dL_law__1496 : decode cL_law_ 1496 = .ok (.iload 4, 2) := by decide +kernel
theorem dL_law__1498 : decode cL_law_ 1498 = .ok (.iconst 1, 1) := by decide +kernel
theorem dL_law__1499 : decode cL_law_ 1499 = .ok (.iadd, 1) := by decide +kernel
theorem dL_law__1500 : decode cL_law_ 1500 = .ok (.iaload, 1) := by decide +kernel
theorem dL_law__1501 : decode cL_law_ 1501 = .ok (.aload_n 0, 1) := by decide +kernel
theorem dL_law__1502 : decode cL_law_ 1502 = .ok (.iload 4, 2) := by decide +kernel
theorem dL_law__1504 : decode cL_law_ 1504 = .ok (.iconst 2, 1) := by decide +kernel
theorem dL_law__1505 : decode cL_law_ 1505 = .ok (.iadd, 1) := by decide +kernel
theorem dL_law__1506 : decode cL_law_ 1506 = .ok (.iaload, 1) := by decide +kernel
theorem dL_law__1507 : decode cL_law_ 1507 = .ok (.aload_n 0, 1) := by decide +kernel
theorem dL_law__1508 : decode cL_law_ 1508 = .ok (.iload 4, 2) := by decide +kernel
theorem dL_law__1510 : decode cL_law_ 1510 = .ok (.iconst 3, 1) := by decide +kernel
theorem dL_law__1511 : decode cL_law_ 1511 = .ok (.iadd, 1) := by decide +kernel
theorem dL_law__1512 : decode cL_law_ 1512 = .ok (.iaload, 1) := by decide +kernel
theorem dL_law__1513 : decode cL_law_ 1513 = .ok (.ifCond .eq 7, 3) := by decide +kernel
theorem dL_law__1516 : decode cL_law_ 1516 = .ok (.iconst 1, 1) := by decide +kernel
theorem dL_law__1517 : decode cL_law_ 1517 = .ok (.goto 4, 3) := by decide +kernel
theorem dL_law__1520 : decode cL_law_ 1520 = .ok (.iconst 0, 1) := by decide +kernel
theorem dL_law__1521 : decode cL_law_ 1521 = .ok (.invokevirtual 233, 3) := by decide +kernel
theorem dL_law__1524 : decode cL_law_ 1524 = .ok (.istore 6, 2) := by decide +kernel
theorem dL_law__1526 : decode cL_law_ 1526 = .ok (.aload_n 2, 1) := by decide +kernel
theorem dL_law__1527 : decode cL_law_ 1527 = .ok (.invokevirtual 174, 3) := by decide +kernel
theorem dL_law__1530 : decode cL_law_ 1530 = .ok (.iload 5, 2) := by decide +kernel
theorem dL_law__1532 : decode cL_law_ 1532 = .ok (.if_icmp .eq 5, 3) := by decide +kernel
theorem dL_law__1535 : decode cL_law_ 1535 = .ok (.iconst 0, 1) := by decide +kernel
theorem dL_law__1536 : decode cL_law_ 1536 = .ok (.ireturn, 1) := by decide +kernel
theorem dL_law__1537 : decode cL_law_ 1537 = .ok (.iload 5, 2) := by decide +kernel
theorem dL_law__1539 : decode cL_law_ 1539 = .ok (.ifCond .ne 15, 3) := by decide +kernel
theorem dL_law__1542 : decode cL_law_ 1542 = .ok (.aload_n 3, 1) := by decide +kernel
theorem dL_law__1543 : decode cL_law_ 1543 = .ok (.iconst 0, 1) := by decide +kernel
theorem dL_law__1544 : decode cL_law_ 1544 = .ok (.laload, 1) := by decide +kernel
theorem dL_law__1545 : decode cL_law_ 1545 = .ok (.iload 6, 2) := by decide +kernel
theorem dL_law__1547 : decode cL_law_ 1547 = .ok (.i2l, 1) := by decide +kernel
theorem dL_law__1548 : decode cL_law_ 1548 = .ok (.lcmp, 1) := by decide +kernel
theorem dL_law__1549 : decode cL_law_ 1549 = .ok (.ifCond .eq 5, 3) := by decide +kernel
theorem dL_law__1552 : decode cL_law_ 1552 = .ok (.iconst 0, 1) := by decide +kernel
theorem dL_law__1553 : decode cL_law_ 1553 = .ok (.ireturn, 1) := by decide +kernel
theorem dL_law__1554 : decode cL_law_ 1554 = .ok (.goto 2033, 3) := by decide +kernel
theorem dL_law__1557 : decode cL_law_ 1557 = .ok (.aload_n 1, 1) := by decide +kernel
theorem dL_law__1558 : decode cL_law_ 1558 = .ok (.aload_n 0, 1) := by decide +kernel
theorem dL_law__1559 : decode cL_law_ 1559 = .ok (.iload 4, 2) := by decide +kernel
theorem dL_law__1561 : decode cL_law_ 1561 = .ok (.iconst 1, 1) := by decide +kernel
theorem dL_law__1562 : decode cL_law_ 1562 = .ok (.iadd, 1) := by decide +kernel
theorem dL_law__1563 : decode cL_law_ 1563 = .ok (.iaload, 1) := by decide +kernel
theorem dL_law__1564 : decode cL_law_ 1564 = .ok (.aload_n 3, 1) := by decide +kernel
theorem dL_law__1565 : decode cL_law_ 1565 = .ok (.invokestatic 234, 3) := by decide +kernel
theorem dL_law__1568 : decode cL_law_ 1568 = .ok (.istore 5, 2) := by decide +kernel
theorem dL_law__1570 : decode cL_law_ 1570 = .ok (.aload_n 2, 1) := by decide +kernel
theorem dL_law__1571 : decode cL_law_ 1571 = .ok (.aload_n 0, 1) := by decide +kernel
theorem dL_law__1572 : decode cL_law_ 1572 = .ok (.iload 4, 2) := by decide +kernel
theorem dL_law__1574 : decode cL_law_ 1574 = .ok (.iconst 1, 1) := by decide +kernel
theorem dL_law__1575 : decode cL_law_ 1575 = .ok (.iadd, 1) := by decide +kernel
theorem dL_law__1576 : decode cL_law_ 1576 = .ok (.iaload, 1) := by decide +kernel
theorem dL_law__1577 : decode cL_law_ 1577 = .ok (.invokevirtual 236, 3) := by decide +kernel
theorem dL_law__1580 : decode cL_law_ 1580 = .ok (.istore 6, 2) := by decide +kernel
theorem dL_law__1582 : decode cL_law_ 1582 = .ok (.aload_n 2, 1) := by decide +kernel
theorem dL_law__1583 : decode cL_law_ 1583 = .ok (.invokevirtual 174, 3) := by decide +kernel
theorem dL_law__1586 : decode cL_law_ 1586 = .ok (.iload 5, 2) := by decide +kernel
theorem dL_law__1588 : decode cL_law_ 1588 = .ok (.if_icmp .eq 5, 3) := by decide +kernel
theorem dL_law__1591 : decode cL_law_ 1591 = .ok (.iconst 0, 1) := by decide +kernel
theorem dL_law__1592 : decode cL_law_ 1592 = .ok (.ireturn, 1) := by decide +kernel
theorem dL_law__1593 : decode cL_law_ 1593 = .ok (.iload 5, 2) := by decide +kernel
theorem dL_law__1595 : decode cL_law_ 1595 = .ok (.ifCond .ne 15, 3) := by decide +kernel
theorem dL_law__1598 : decode cL_law_ 1598 = .ok (.aload_n 3, 1) := by decide +kernel
theorem dL_law__1599 : decode cL_law_ 1599 = .ok (.iconst 0, 1) := by decide +kernel
theorem dL_law__1600 : decode cL_law_ 1600 = .ok (.laload, 1) := by decide +kernel
theorem dL_law__1601 : decode cL_law_ 1601 = .ok (.iload 6, 2) := by decide +kernel
theorem dL_law__1603 : decode cL_law_ 1603 = .ok (.i2l, 1) := by decide +kernel
theorem dL_law__1604 : decode cL_law_ 1604 = .ok (.lcmp, 1) := by decide +kernel
theorem dL_law__1605 : decode cL_law_ 1605 = .ok (.ifCond .eq 5, 3) := by decide +kernel
theorem dL_law__1608 : decode cL_law_ 1608 = .ok (.iconst 0, 1) := by decide +kernel
theorem dL_law__1609 : decode cL_law_ 1609 = .ok (.ireturn, 1) := by decide +kernel
theorem dL_law__1610 : decode cL_law_ 1610 = .ok (.goto 1977, 3) := by decide +kernel
theorem dL_law__1613 : decode cL_law_ 1613 = .ok (.aload_n 1, 1) := by decide +kernel
theorem dL_law__1614 : decode cL_law_ 1614 = .ok (.aload_n 0, 1) := by decide +kernel
theorem dL_law__1615 : decode cL_law_ 1615 = .ok (.iload 4, 2) := by decide +kernel
theorem dL_law__1617 : decode cL_law_ 1617 = .ok (.iconst 1, 1) := by decide +kernel
theorem dL_law__1618 : decode cL_law_ 1618 = .ok (.iadd, 1) := by decide +kernel
theorem dL_law__1619 : decode cL_law_ 1619 = .ok (.iaload, 1) := by decide +kernel
theorem dL_law__1620 : decode cL_law_ 1620 = .ok (.aload_n 0, 1) := by decide +kernel
theorem dL_law__1621 : decode cL_law_ 1621 = .ok (.iload 4, 2) := by decide +kernel
theorem dL_law__1623 : decode cL_law_ 1623 = .ok (.iconst 2, 1) := by decide +kernel
theorem dL_law__1624 : decode cL_law_ 1624 = .ok (.iadd, 1) := by decide +kernel
theorem dL_law__1625 : decode cL_law_ 1625 = .ok (.iaload, 1) := by decide +kernel
theorem dL_law__1626 : decode cL_law_ 1626 = .ok (.aload_n 3, 1) := by decide +kernel
theorem dL_law__1627 : decode cL_law_ 1627 = .ok (.invokestatic 237, 3) := by decide +kernel
theorem dL_law__1630 : decode cL_law_ 1630 = .ok (.istore 5, 2) := by decide +kernel
theorem dL_law__1632 : decode cL_law_ 1632 = .ok (.aload_n 2, 1) := by decide +kernel
theorem dL_law__1633 : decode cL_law_ 1633 = .ok (.aload_n 0, 1) := by decide +kernel
theorem dL_law__1634 : decode cL_law_ 1634 = .ok (.iload 4, 2) := by decide +kernel
theorem dL_law__1636 : decode cL_law_ 1636 = .ok (.iconst 1, 1) := by decide +kernel
theorem dL_law__1637 : decode cL_law_ 1637 = .ok (.iadd, 1) := by decide +kernel
theorem dL_law__1638 : decode cL_law_ 1638 = .ok (.iaload, 1) := by decide +kernel
theorem dL_law__1639 : decode cL_law_ 1639 = .ok (.aload_n 0, 1) := by decide +kernel
theorem dL_law__1640 : decode cL_law_ 1640 = .ok (.iload 4, 2) := by decide +kernel
theorem dL_law__1642 : decode cL_law_ 1642 = .ok (.iconst 2, 1) := by decide +kernel
theorem dL_law__1643 : decode cL_law_ 1643 = .ok (.iadd, 1) := by decide +kernel
theorem dL_law__1644 : decode cL_law_ 1644 = .ok (.iaload, 1) := by decide +kernel
theorem dL_law__1645 : decode cL_law_ 1645 = .ok (.invokevirtual 239, 3) := by decide +kernel
theorem dL_law__1648 : decode cL_law_ 1648 = .ok (.istore 6, 2) := by decide +kernel
theorem dL_law__1650 : decode cL_law_ 1650 = .ok (.aload_n 2, 1) := by decide +kernel
theorem dL_law__1651 : decode cL_law_ 1651 = .ok (.invokevirtual 174, 3) := by decide +kernel
theorem dL_law__1654 : decode cL_law_ 1654 = .ok (.iload 5, 2) := by decide +kernel
theorem dL_law__1656 : decode cL_law_ 1656 = .ok (.if_icmp .eq 5, 3) := by decide +kernel
theorem dL_law__1659 : decode cL_law_ 1659 = .ok (.iconst 0, 1) := by decide +kernel
theorem dL_law__1660 : decode cL_law_ 1660 = .ok (.ireturn, 1) := by decide +kernel
theorem dL_law__1661 : decode cL_law_ 1661 = .ok (.iload 5, 2) := by decide +kernel
theorem dL_law__1663 : decode cL_law_ 1663 = .ok (.ifCond .ne 15, 3) := by decide +kernel
theorem dL_law__1666 : decode cL_law_ 1666 = .ok (.aload_n 3, 1) := by decide +kernel
theorem dL_law__1667 : decode cL_law_ 1667 = .ok (.iconst 0, 1) := by decide +kernel
theorem dL_law__1668 : decode cL_law_ 1668 = .ok (.laload, 1) := by decide +kernel
theorem dL_law__1669 : decode cL_law_ 1669 = .ok (.iload 6, 2) := by decide +kernel
theorem dL_law__1671 : decode cL_law_ 1671 = .ok (.i2l, 1) := by decide +kernel
theorem dL_law__1672 : decode cL_law_ 1672 = .ok (.lcmp, 1) := by decide +kernel
theorem dL_law__1673 : decode cL_law_ 1673 = .ok (.ifCond .eq 5, 3) := by decide +kernel
theorem dL_law__1676 : decode cL_law_ 1676 = .ok (.iconst 0, 1) := by decide +kernel
theorem dL_law__1677 : decode cL_law_ 1677 = .ok (.ireturn, 1) := by decide +kernel
theorem dL_law__1678 : decode cL_law_ 1678 = .ok (.goto 1909, 3) := by decide +kernel
theorem dL_law__1681 : decode cL_law_ 1681 = .ok (.aload_n 1, 1) := by decide +kernel
theorem dL_law__1682 : decode cL_law_ 1682 = .ok (.aload_n 0, 1) := by decide +kernel
theorem dL_law__1683 : decode cL_law_ 1683 = .ok (.iload 4, 2) := by decide +kernel
theorem dL_law__1685 : decode cL_law_ 1685 = .ok (.iconst 1, 1) := by decide +kernel
theorem dL_law__1686 : decode cL_law_ 1686 = .ok (.iadd, 1) := by decide +kernel
theorem dL_law__1687 : decode cL_law_ 1687 = .ok (.iaload, 1) := by decide +kernel
theorem dL_law__1688 : decode cL_law_ 1688 = .ok (.aload_n 0, 1) := by decide +kernel
theorem dL_law__1689 : decode cL_law_ 1689 = .ok (.iload 4, 2) := by decide +kernel
theorem dL_law__1691 : decode cL_law_ 1691 = .ok (.iconst 2, 1) := by decide +kernel
theorem dL_law__1692 : decode cL_law_ 1692 = .ok (.iadd, 1) := by decide +kernel
theorem dL_law__1693 : decode cL_law_ 1693 = .ok (.iaload, 1) := by decide +kernel
theorem dL_law__1694 : decode cL_law_ 1694 = .ok (.aload_n 0, 1) := by decide +kernel
theorem dL_law__1695 : decode cL_law_ 1695 = .ok (.iload 4, 2) := by decide +kernel
theorem dL_law__1697 : decode cL_law_ 1697 = .ok (.iconst 3, 1) := by decide +kernel
theorem dL_law__1698 : decode cL_law_ 1698 = .ok (.iadd, 1) := by decide +kernel
theorem dL_law__1699 : decode cL_law_ 1699 = .ok (.iaload, 1) := by decide +kernel
theorem dL_law__1700 : decode cL_law_ 1700 = .ok (.aload_n 0, 1) := by decide +kernel
theorem dL_law__1701 : decode cL_law_ 1701 = .ok (.iload 4, 2) := by decide +kernel
theorem dL_law__1703 : decode cL_law_ 1703 = .ok (.iconst 4, 1) := by decide +kernel
theorem dL_law__1704 : decode cL_law_ 1704 = .ok (.iadd, 1) := by decide +kernel
theorem dL_law__1705 : decode cL_law_ 1705 = .ok (.iaload, 1) := by decide +kernel
theorem dL_law__1706 : decode cL_law_ 1706 = .ok (.aload_n 0, 1) := by decide +kernel
theorem dL_law__1707 : decode cL_law_ 1707 = .ok (.iload 4, 2) := by decide +kernel
theorem dL_law__1709 : decode cL_law_ 1709 = .ok (.iconst 5, 1) := by decide +kernel
theorem dL_law__1710 : decode cL_law_ 1710 = .ok (.iadd, 1) := by decide +kernel
theorem dL_law__1711 : decode cL_law_ 1711 = .ok (.iaload, 1) := by decide +kernel
theorem dL_law__1712 : decode cL_law_ 1712 = .ok (.ifCond .eq 7, 3) := by decide +kernel
theorem dL_law__1715 : decode cL_law_ 1715 = .ok (.iconst 1, 1) := by decide +kernel
theorem dL_law__1716 : decode cL_law_ 1716 = .ok (.goto 4, 3) := by decide +kernel
theorem dL_law__1719 : decode cL_law_ 1719 = .ok (.iconst 0, 1) := by decide +kernel
theorem dL_law__1720 : decode cL_law_ 1720 = .ok (.aload_n 3, 1) := by decide +kernel
theorem dL_law__1721 : decode cL_law_ 1721 = .ok (.invokestatic 240, 3) := by decide +kernel
theorem dL_law__1724 : decode cL_law_ 1724 = .ok (.istore 5, 2) := by decide +kernel
theorem dL_law__1726 : decode cL_law_ 1726 = .ok (.aload_n 2, 1) := by decide +kernel
theorem dL_law__1727 : decode cL_law_ 1727 = .ok (.aload_n 0, 1) := by decide +kernel
theorem dL_law__1728 : decode cL_law_ 1728 = .ok (.iload 4, 2) := by decide +kernel
theorem dL_law__1730 : decode cL_law_ 1730 = .ok (.iconst 1, 1) := by decide +kernel
theorem dL_law__1731 : decode cL_law_ 1731 = .ok (.iadd, 1) := by decide +kernel
theorem dL_law__1732 : decode cL_law_ 1732 = .ok (.iaload, 1) := by decide +kernel
theorem dL_law__1733 : decode cL_law_ 1733 = .ok (.aload_n 0, 1) := by decide +kernel
theorem dL_law__1734 : decode cL_law_ 1734 = .ok (.iload 4, 2) := by decide +kernel
theorem dL_law__1736 : decode cL_law_ 1736 = .ok (.iconst 2, 1) := by decide +kernel
theorem dL_law__1737 : decode cL_law_ 1737 = .ok (.iadd, 1) := by decide +kernel
theorem dL_law__1738 : decode cL_law_ 1738 = .ok (.iaload, 1) := by decide +kernel
theorem dL_law__1739 : decode cL_law_ 1739 = .ok (.aload_n 0, 1) := by decide +kernel
theorem dL_law__1740 : decode cL_law_ 1740 = .ok (.iload 4, 2) := by decide +kernel
theorem dL_law__1742 : decode cL_law_ 1742 = .ok (.iconst 3, 1) := by decide +kernel
theorem dL_law__1743 : decode cL_law_ 1743 = .ok (.iadd, 1) := by decide +kernel
theorem dL_law__1744 : decode cL_law_ 1744 = .ok (.iaload, 1) := by decide +kernel
theorem dL_law__1745 : decode cL_law_ 1745 = .ok (.aload_n 0, 1) := by decide +kernel
theorem dL_law__1746 : decode cL_law_ 1746 = .ok (.iload 4, 2) := by decide +kernel
theorem dL_law__1748 : decode cL_law_ 1748 = .ok (.iconst 4, 1) := by decide +kernel
theorem dL_law__1749 : decode cL_law_ 1749 = .ok (.iadd, 1) := by decide +kernel
theorem dL_law__1750 : decode cL_law_ 1750 = .ok (.iaload, 1) := by decide +kernel
theorem dL_law__1751 : decode cL_law_ 1751 = .ok (.aload_n 0, 1) := by decide +kernel
theorem dL_law__1752 : decode cL_law_ 1752 = .ok (.iload 4, 2) := by decide +kernel
theorem dL_law__1754 : decode cL_law_ 1754 = .ok (.iconst 5, 1) := by decide +kernel
theorem dL_law__1755 : decode cL_law_ 1755 = .ok (.iadd, 1) := by decide +kernel
theorem dL_law__1756 : decode cL_law_ 1756 = .ok (.iaload, 1) := by decide +kernel
theorem dL_law__1757 : decode cL_law_ 1757 = .ok (.ifCond .eq 7, 3) := by decide +kernel
theorem dL_law__1760 : decode cL_law_ 1760 = .ok (.iconst 1, 1) := by decide +kernel
theorem dL_law__1761 : decode cL_law_ 1761 = .ok (.goto 4, 3) := by decide +kernel
theorem dL_law__1764 : decode cL_law_ 1764 = .ok (.iconst 0, 1) := by decide +kernel
theorem dL_law__1765 : decode cL_law_ 1765 = .ok (.invokevirtual 243, 3) := by decide +kernel
theorem dL_law__1768 : decode cL_law_ 1768 = .ok (.istore 6, 2) := by decide +kernel
theorem dL_law__1770 : decode cL_law_ 1770 = .ok (.aload_n 2, 1) := by decide +kernel
theorem dL_law__1771 : decode cL_law_ 1771 = .ok (.invokevirtual 174, 3) := by decide +kernel
theorem dL_law__1774 : decode cL_law_ 1774 = .ok (.iload 5, 2) := by decide +kernel
theorem dL_law__1776 : decode cL_law_ 1776 = .ok (.if_icmp .eq 5, 3) := by decide +kernel
theorem dL_law__1779 : decode cL_law_ 1779 = .ok (.iconst 0, 1) := by decide +kernel
theorem dL_law__1780 : decode cL_law_ 1780 = .ok (.ireturn, 1) := by decide +kernel
theorem dL_law__1781 : decode cL_law_ 1781 = .ok (.iload 5, 2) := by decide +kernel
theorem dL_law__1783 : decode cL_law_ 1783 = .ok (.ifCond .ne 15, 3) := by decide +kernel
theorem dL_law__1786 : decode cL_law_ 1786 = .ok (.aload_n 3, 1) := by decide +kernel
theorem dL_law__1787 : decode cL_law_ 1787 = .ok (.iconst 0, 1) := by decide +kernel
theorem dL_law__1788 : decode cL_law_ 1788 = .ok (.laload, 1) := by decide +kernel
theorem dL_law__1789 : decode cL_law_ 1789 = .ok (.iload 6, 2) := by decide +kernel
theorem dL_law__1791 : decode cL_law_ 1791 = .ok (.i2l, 1) := by decide +kernel
theorem dL_law__1792 : decode cL_law_ 1792 = .ok (.lcmp, 1) := by decide +kernel
theorem dL_law__1793 : decode cL_law_ 1793 = .ok (.ifCond .eq 5, 3) := by decide +kernel
theorem dL_law__1796 : decode cL_law_ 1796 = .ok (.iconst 0, 1) := by decide +kernel
theorem dL_law__1797 : decode cL_law_ 1797 = .ok (.ireturn, 1) := by decide +kernel
theorem dL_law__1798 : decode cL_law_ 1798 = .ok (.goto 1789, 3) := by decide +kernel
theorem dL_law__1801 : decode cL_law_ 1801 = .ok (.aload_n 1, 1) := by decide +kernel
theorem dL_law__1802 : decode cL_law_ 1802 = .ok (.aload_n 0, 1) := by decide +kernel
theorem dL_law__1803 : decode cL_law_ 1803 = .ok (.iload 4, 2) := by decide +kernel
theorem dL_law__1805 : decode cL_law_ 1805 = .ok (.iconst 1, 1) := by decide +kernel
theorem dL_law__1806 : decode cL_law_ 1806 = .ok (.iadd, 1) := by decide +kernel
theorem dL_law__1807 : decode cL_law_ 1807 = .ok (.iaload, 1) := by decide +kernel
theorem dL_law__1808 : decode cL_law_ 1808 = .ok (.aload_n 0, 1) := by decide +kernel
theorem dL_law__1809 : decode cL_law_ 1809 = .ok (.iload 4, 2) := by decide +kernel
theorem dL_law__1811 : decode cL_law_ 1811 = .ok (.iconst 2, 1) := by decide +kernel
theorem dL_law__1812 : decode cL_law_ 1812 = .ok (.iadd, 1) := by decide +kernel
theorem dL_law__1813 : decode cL_law_ 1813 = .ok (.iaload, 1) := by decide +kernel
theorem dL_law__1814 : decode cL_law_ 1814 = .ok (.aload_n 0, 1) := by decide +kernel
theorem dL_law__1815 : decode cL_law_ 1815 = .ok (.iload 4, 2) := by decide +kernel
theorem dL_law__1817 : decode cL_law_ 1817 = .ok (.iconst 3, 1) := by decide +kernel
theorem dL_law__1818 : decode cL_law_ 1818 = .ok (.iadd, 1) := by decide +kernel
theorem dL_law__1819 : decode cL_law_ 1819 = .ok (.iaload, 1) := by decide +kernel
theorem dL_law__1820 : decode cL_law_ 1820 = .ok (.aload_n 0, 1) := by decide +kernel
theorem dL_law__1821 : decode cL_law_ 1821 = .ok (.iload 4, 2) := by decide +kernel
theorem dL_law__1823 : decode cL_law_ 1823 = .ok (.iconst 4, 1) := by decide +kernel
theorem dL_law__1824 : decode cL_law_ 1824 = .ok (.iadd, 1) := by decide +kernel
theorem dL_law__1825 : decode cL_law_ 1825 = .ok (.iaload, 1) := by decide +kernel
theorem dL_law__1826 : decode cL_law_ 1826 = .ok (.ifCond .eq 7, 3) := by decide +kernel
theorem dL_law__1829 : decode cL_law_ 1829 = .ok (.iconst 1, 1) := by decide +kernel
theorem dL_law__1830 : decode cL_law_ 1830 = .ok (.goto 4, 3) := by decide +kernel
theorem dL_law__1833 : decode cL_law_ 1833 = .ok (.iconst 0, 1) := by decide +kernel
theorem dL_law__1834 : decode cL_law_ 1834 = .ok (.aload_n 3, 1) := by decide +kernel
theorem dL_law__1835 : decode cL_law_ 1835 = .ok (.invokestatic 244, 3) := by decide +kernel
theorem dL_law__1838 : decode cL_law_ 1838 = .ok (.istore 5, 2) := by decide +kernel
theorem dL_law__1840 : decode cL_law_ 1840 = .ok (.aload_n 2, 1) := by decide +kernel
theorem dL_law__1841 : decode cL_law_ 1841 = .ok (.aload_n 0, 1) := by decide +kernel
theorem dL_law__1842 : decode cL_law_ 1842 = .ok (.iload 4, 2) := by decide +kernel
theorem dL_law__1844 : decode cL_law_ 1844 = .ok (.iconst 1, 1) := by decide +kernel
theorem dL_law__1845 : decode cL_law_ 1845 = .ok (.iadd, 1) := by decide +kernel
theorem dL_law__1846 : decode cL_law_ 1846 = .ok (.iaload, 1) := by decide +kernel
theorem dL_law__1847 : decode cL_law_ 1847 = .ok (.aload_n 0, 1) := by decide +kernel
theorem dL_law__1848 : decode cL_law_ 1848 = .ok (.iload 4, 2) := by decide +kernel
theorem dL_law__1850 : decode cL_law_ 1850 = .ok (.iconst 2, 1) := by decide +kernel
theorem dL_law__1851 : decode cL_law_ 1851 = .ok (.iadd, 1) := by decide +kernel
theorem dL_law__1852 : decode cL_law_ 1852 = .ok (.iaload, 1) := by decide +kernel
theorem dL_law__1853 : decode cL_law_ 1853 = .ok (.aload_n 0, 1) := by decide +kernel
theorem dL_law__1854 : decode cL_law_ 1854 = .ok (.iload 4, 2) := by decide +kernel
theorem dL_law__1856 : decode cL_law_ 1856 = .ok (.iconst 3, 1) := by decide +kernel
theorem dL_law__1857 : decode cL_law_ 1857 = .ok (.iadd, 1) := by decide +kernel
theorem dL_law__1858 : decode cL_law_ 1858 = .ok (.iaload, 1) := by decide +kernel
theorem dL_law__1859 : decode cL_law_ 1859 = .ok (.aload_n 0, 1) := by decide +kernel
theorem dL_law__1860 : decode cL_law_ 1860 = .ok (.iload 4, 2) := by decide +kernel
theorem dL_law__1862 : decode cL_law_ 1862 = .ok (.iconst 4, 1) := by decide +kernel
theorem dL_law__1863 : decode cL_law_ 1863 = .ok (.iadd, 1) := by decide +kernel
theorem dL_law__1864 : decode cL_law_ 1864 = .ok (.iaload, 1) := by decide +kernel
theorem dL_law__1865 : decode cL_law_ 1865 = .ok (.ifCond .eq 7, 3) := by decide +kernel
theorem dL_law__1868 : decode cL_law_ 1868 = .ok (.iconst 1, 1) := by decide +kernel
theorem dL_law__1869 : decode cL_law_ 1869 = .ok (.goto 4, 3) := by decide +kernel
theorem dL_law__1872 : decode cL_law_ 1872 = .ok (.iconst 0, 1) := by decide +kernel
theorem dL_law__1873 : decode cL_law_ 1873 = .ok (.invokevirtual 247, 3) := by decide +kernel
theorem dL_law__1876 : decode cL_law_ 1876 = .ok (.istore 6, 2) := by decide +kernel
theorem dL_law__1878 : decode cL_law_ 1878 = .ok (.aload_n 2, 1) := by decide +kernel
theorem dL_law__1879 : decode cL_law_ 1879 = .ok (.invokevirtual 174, 3) := by decide +kernel
theorem dL_law__1882 : decode cL_law_ 1882 = .ok (.iload 5, 2) := by decide +kernel
theorem dL_law__1884 : decode cL_law_ 1884 = .ok (.if_icmp .eq 5, 3) := by decide +kernel
theorem dL_law__1887 : decode cL_law_ 1887 = .ok (.iconst 0, 1) := by decide +kernel
theorem dL_law__1888 : decode cL_law_ 1888 = .ok (.ireturn, 1) := by decide +kernel
theorem dL_law__1889 : decode cL_law_ 1889 = .ok (.iload 5, 2) := by decide +kernel
theorem dL_law__1891 : decode cL_law_ 1891 = .ok (.ifCond .ne 15, 3) := by decide +kernel
theorem dL_law__1894 : decode cL_law_ 1894 = .ok (.aload_n 3, 1) := by decide +kernel
theorem dL_law__1895 : decode cL_law_ 1895 = .ok (.iconst 0, 1) := by decide +kernel
theorem dL_law__1896 : decode cL_law_ 1896 = .ok (.laload, 1) := by decide +kernel
theorem dL_law__1897 : decode cL_law_ 1897 = .ok (.iload 6, 2) := by decide +kernel
theorem dL_law__1899 : decode cL_law_ 1899 = .ok (.i2l, 1) := by decide +kernel
theorem dL_law__1900 : decode cL_law_ 1900 = .ok (.lcmp, 1) := by decide +kernel
theorem dL_law__1901 : decode cL_law_ 1901 = .ok (.ifCond .eq 5, 3) := by decide +kernel
theorem dL_law__1904 : decode cL_law_ 1904 = .ok (.iconst 0, 1) := by decide +kernel
theorem dL_law__1905 : decode cL_law_ 1905 = .ok (.ireturn, 1) := by decide +kernel
theorem dL_law__1906 : decode cL_law_ 1906 = .ok (.goto 1681, 3) := by decide +kernel
theorem dL_law__1909 : decode cL_law_ 1909 = .ok (.aload_n 1, 1) := by decide +kernel
theorem dL_law__1910 : decode cL_law_ 1910 = .ok (.aload_n 0, 1) := by decide +kernel
theorem dL_law__1911 : decode cL_law_ 1911 = .ok (.iload 4, 2) := by decide +kernel
theorem dL_law__1913 : decode cL_law_ 1913 = .ok (.iconst 1, 1) := by decide +kernel
theorem dL_law__1914 : decode cL_law_ 1914 = .ok (.iadd, 1) := by decide +kernel
theorem dL_law__1915 : decode cL_law_ 1915 = .ok (.iaload, 1) := by decide +kernel
theorem dL_law__1916 : decode cL_law_ 1916 = .ok (.aload_n 0, 1) := by decide +kernel
theorem dL_law__1917 : decode cL_law_ 1917 = .ok (.iload 4, 2) := by decide +kernel
theorem dL_law__1919 : decode cL_law_ 1919 = .ok (.iconst 2, 1) := by decide +kernel
theorem dL_law__1920 : decode cL_law_ 1920 = .ok (.iadd, 1) := by decide +kernel
theorem dL_law__1921 : decode cL_law_ 1921 = .ok (.iaload, 1) := by decide +kernel
theorem dL_law__1922 : decode cL_law_ 1922 = .ok (.aload_n 0, 1) := by decide +kernel
theorem dL_law__1923 : decode cL_law_ 1923 = .ok (.iload 4, 2) := by decide +kernel
theorem dL_law__1925 : decode cL_law_ 1925 = .ok (.iconst 3, 1) := by decide +kernel
theorem dL_law__1926 : decode cL_law_ 1926 = .ok (.iadd, 1) := by decide +kernel
theorem dL_law__1927 : decode cL_law_ 1927 = .ok (.iaload, 1) := by decide +kernel
theorem dL_law__1928 : decode cL_law_ 1928 = .ok (.aload_n 0, 1) := by decide +kernel
theorem dL_law__1929 : decode cL_law_ 1929 = .ok (.iload 4, 2) := by decide +kernel
theorem dL_law__1931 : decode cL_law_ 1931 = .ok (.iconst 4, 1) := by decide +kernel
theorem dL_law__1932 : decode cL_law_ 1932 = .ok (.iadd, 1) := by decide +kernel
theorem dL_law__1933 : decode cL_law_ 1933 = .ok (.iaload, 1) := by decide +kernel
theorem dL_law__1934 : decode cL_law_ 1934 = .ok (.ifCond .eq 7, 3) := by decide +kernel
theorem dL_law__1937 : decode cL_law_ 1937 = .ok (.iconst 1, 1) := by decide +kernel
theorem dL_law__1938 : decode cL_law_ 1938 = .ok (.goto 4, 3) := by decide +kernel
theorem dL_law__1941 : decode cL_law_ 1941 = .ok (.iconst 0, 1) := by decide +kernel
theorem dL_law__1942 : decode cL_law_ 1942 = .ok (.aload_n 3, 1) := by decide +kernel
theorem dL_law__1943 : decode cL_law_ 1943 = .ok (.invokestatic 248, 3) := by decide +kernel
theorem dL_law__1946 : decode cL_law_ 1946 = .ok (.istore 5, 2) := by decide +kernel
theorem dL_law__1948 : decode cL_law_ 1948 = .ok (.aload_n 2, 1) := by decide +kernel
theorem dL_law__1949 : decode cL_law_ 1949 = .ok (.aload_n 0, 1) := by decide +kernel
theorem dL_law__1950 : decode cL_law_ 1950 = .ok (.iload 4, 2) := by decide +kernel
theorem dL_law__1952 : decode cL_law_ 1952 = .ok (.iconst 1, 1) := by decide +kernel
theorem dL_law__1953 : decode cL_law_ 1953 = .ok (.iadd, 1) := by decide +kernel
theorem dL_law__1954 : decode cL_law_ 1954 = .ok (.iaload, 1) := by decide +kernel
theorem dL_law__1955 : decode cL_law_ 1955 = .ok (.aload_n 0, 1) := by decide +kernel
theorem dL_law__1956 : decode cL_law_ 1956 = .ok (.iload 4, 2) := by decide +kernel
theorem dL_law__1958 : decode cL_law_ 1958 = .ok (.iconst 2, 1) := by decide +kernel
theorem dL_law__1959 : decode cL_law_ 1959 = .ok (.iadd, 1) := by decide +kernel
theorem dL_law__1960 : decode cL_law_ 1960 = .ok (.iaload, 1) := by decide +kernel
theorem dL_law__1961 : decode cL_law_ 1961 = .ok (.aload_n 0, 1) := by decide +kernel
theorem dL_law__1962 : decode cL_law_ 1962 = .ok (.iload 4, 2) := by decide +kernel
theorem dL_law__1964 : decode cL_law_ 1964 = .ok (.iconst 3, 1) := by decide +kernel
theorem dL_law__1965 : decode cL_law_ 1965 = .ok (.iadd, 1) := by decide +kernel
theorem dL_law__1966 : decode cL_law_ 1966 = .ok (.iaload, 1) := by decide +kernel
theorem dL_law__1967 : decode cL_law_ 1967 = .ok (.aload_n 0, 1) := by decide +kernel
theorem dL_law__1968 : decode cL_law_ 1968 = .ok (.iload 4, 2) := by decide +kernel
theorem dL_law__1970 : decode cL_law_ 1970 = .ok (.iconst 4, 1) := by decide +kernel
theorem dL_law__1971 : decode cL_law_ 1971 = .ok (.iadd, 1) := by decide +kernel
theorem dL_law__1972 : decode cL_law_ 1972 = .ok (.iaload, 1) := by decide +kernel
theorem dL_law__1973 : decode cL_law_ 1973 = .ok (.ifCond .eq 7, 3) := by decide +kernel
theorem dL_law__1976 : decode cL_law_ 1976 = .ok (.iconst 1, 1) := by decide +kernel
theorem dL_law__1977 : decode cL_law_ 1977 = .ok (.goto 4, 3) := by decide +kernel
theorem dL_law__1980 : decode cL_law_ 1980 = .ok (.iconst 0, 1) := by decide +kernel
theorem dL_law__1981 : decode cL_law_ 1981 = .ok (.invokevirtual 250, 3) := by decide +kernel
theorem dL_law__1984 : decode cL_law_ 1984 = .ok (.istore 6, 2) := by decide +kernel
theorem dL_law__1986 : decode cL_law_ 1986 = .ok (.aload_n 2, 1) := by decide +kernel
theorem dL_law__1987 : decode cL_law_ 1987 = .ok (.invokevirtual 174, 3) := by decide +kernel
theorem dL_law__1990 : decode cL_law_ 1990 = .ok (.iload 5, 2) := by decide +kernel
theorem dL_law__1992 : decode cL_law_ 1992 = .ok (.if_icmp .eq 5, 3) := by decide +kernel
theorem dL_law__1995 : decode cL_law_ 1995 = .ok (.iconst 0, 1) := by decide +kernel
theorem dL_law__1996 : decode cL_law_ 1996 = .ok (.ireturn, 1) := by decide +kernel
theorem dL_law__1997 : decode cL_law_ 1997 = .ok (.iload 5, 2) := by decide +kernel
theorem dL_law__1999 : decode cL_law_ 1999 = .ok (.ifCond .ne 15, 3) := by decide +kernel
theorem dL_law__2002 : decode cL_law_ 2002 = .ok (.aload_n 3, 1) := by decide +kernel
theorem dL_law__2003 : decode cL_law_ 2003 = .ok (.iconst 0, 1) := by decide +kernel
theorem dL_law__2004 : decode cL_law_ 2004 = .ok (.laload, 1) := by decide +kernel
theorem dL_law__2005 : decode cL_law_ 2005 = .ok (.iload 6, 2) := by decide +kernel
theorem dL_law__2007 : decode cL_law_ 2007 = .ok (.i2l, 1) := by decide +kernel
theorem dL_law__2008 : decode cL_law_ 2008 = .ok (.lcmp, 1) := by decide +kernel
theorem dL_law__2009 : decode cL_law_ 2009 = .ok (.ifCond .eq 5, 3) := by decide +kernel
theorem dL_law__2012 : decode cL_law_ 2012 = .ok (.iconst 0, 1) := by decide +kernel
theorem dL_law__2013 : decode cL_law_ 2013 = .ok (.ireturn, 1) := by decide +kernel
theorem dL_law__2014 : decode cL_law_ 2014 = .ok (.goto 1573, 3) := by decide +kernel
theorem dL_law__2017 : decode cL_law_ 2017 = .ok (.aload_n 1, 1) := by decide +kernel
theorem dL_law__2018 : decode cL_law_ 2018 = .ok (.aload_n 0, 1) := by decide +kernel
theorem dL_law__2019 : decode cL_law_ 2019 = .ok (.iload 4, 2) := by decide +kernel
theorem dL_law__2021 : decode cL_law_ 2021 = .ok (.iconst 1, 1) := by decide +kernel
theorem dL_law__2022 : decode cL_law_ 2022 = .ok (.iadd, 1) := by decide +kernel
theorem dL_law__2023 : decode cL_law_ 2023 = .ok (.iaload, 1) := by decide +kernel
theorem dL_law__2024 : decode cL_law_ 2024 = .ok (.aload_n 3, 1) := by decide +kernel
theorem dL_law__2025 : decode cL_law_ 2025 = .ok (.invokestatic 251, 3) := by decide +kernel
theorem dL_law__2028 : decode cL_law_ 2028 = .ok (.istore 5, 2) := by decide +kernel
theorem dL_law__2030 : decode cL_law_ 2030 = .ok (.aload_n 2, 1) := by decide +kernel
theorem dL_law__2031 : decode cL_law_ 2031 = .ok (.aload_n 0, 1) := by decide +kernel
theorem dL_law__2032 : decode cL_law_ 2032 = .ok (.iload 4, 2) := by decide +kernel
theorem dL_law__2034 : decode cL_law_ 2034 = .ok (.iconst 1, 1) := by decide +kernel
theorem dL_law__2035 : decode cL_law_ 2035 = .ok (.iadd, 1) := by decide +kernel
theorem dL_law__2036 : decode cL_law_ 2036 = .ok (.iaload, 1) := by decide +kernel
theorem dL_law__2037 : decode cL_law_ 2037 = .ok (.invokevirtual 253, 3) := by decide +kernel
theorem dL_law__2040 : decode cL_law_ 2040 = .ok (.istore 6, 2) := by decide +kernel
theorem dL_law__2042 : decode cL_law_ 2042 = .ok (.aload_n 2, 1) := by decide +kernel
theorem dL_law__2043 : decode cL_law_ 2043 = .ok (.invokevirtual 174, 3) := by decide +kernel
theorem dL_law__2046 : decode cL_law_ 2046 = .ok (.iload 5, 2) := by decide +kernel
theorem dL_law__2048 : decode cL_law_ 2048 = .ok (.if_icmp .eq 5, 3) := by decide +kernel
theorem dL_law__2051 : decode cL_law_ 2051 = .ok (.iconst 0, 1) := by decide +kernel
theorem dL_law__2052 : decode cL_law_ 2052 = .ok (.ireturn, 1) := by decide +kernel
theorem dL_law__2053 : decode cL_law_ 2053 = .ok (.iload 5, 2) := by decide +kernel
theorem dL_law__2055 : decode cL_law_ 2055 = .ok (.ifCond .ne 15, 3) := by decide +kernel
theorem dL_law__2058 : decode cL_law_ 2058 = .ok (.aload_n 3, 1) := by decide +kernel
theorem dL_law__2059 : decode cL_law_ 2059 = .ok (.iconst 0, 1) := by decide +kernel
theorem dL_law__2060 : decode cL_law_ 2060 = .ok (.laload, 1) := by decide +kernel
theorem dL_law__2061 : decode cL_law_ 2061 = .ok (.iload 6, 2) := by decide +kernel
theorem dL_law__2063 : decode cL_law_ 2063 = .ok (.i2l, 1) := by decide +kernel
theorem dL_law__2064 : decode cL_law_ 2064 = .ok (.lcmp, 1) := by decide +kernel
theorem dL_law__2065 : decode cL_law_ 2065 = .ok (.ifCond .eq 5, 3) := by decide +kernel
theorem dL_law__2068 : decode cL_law_ 2068 = .ok (.iconst 0, 1) := by decide +kernel
theorem dL_law__2069 : decode cL_law_ 2069 = .ok (.ireturn, 1) := by decide +kernel
theorem dL_law__2070 : decode cL_law_ 2070 = .ok (.goto 1517, 3) := by decide +kernel
theorem dL_law__2073 : decode cL_law_ 2073 = .ok (.aload_n 1, 1) := by decide +kernel
theorem dL_law__2074 : decode cL_law_ 2074 = .ok (.aload_n 0, 1) := by decide +kernel
theorem dL_law__2075 : decode cL_law_ 2075 = .ok (.iload 4, 2) := by decide +kernel
theorem dL_law__2077 : decode cL_law_ 2077 = .ok (.iconst 1, 1) := by decide +kernel
theorem dL_law__2078 : decode cL_law_ 2078 = .ok (.iadd, 1) := by decide +kernel
theorem dL_law__2079 : decode cL_law_ 2079 = .ok (.iaload, 1) := by decide +kernel
theorem dL_law__2080 : decode cL_law_ 2080 = .ok (.aload_n 3, 1) := by decide +kernel
theorem dL_law__2081 : decode cL_law_ 2081 = .ok (.invokestatic 254, 3) := by decide +kernel
theorem dL_law__2084 : decode cL_law_ 2084 = .ok (.istore 5, 2) := by decide +kernel
theorem dL_law__2086 : decode cL_law_ 2086 = .ok (.aload_n 2, 1) := by decide +kernel
theorem dL_law__2087 : decode cL_law_ 2087 = .ok (.aload_n 0, 1) := by decide +kernel
theorem dL_law__2088 : decode cL_law_ 2088 = .ok (.iload 4, 2) := by decide +kernel
theorem dL_law__2090 : decode cL_law_ 2090 = .ok (.iconst 1, 1) := by decide +kernel
theorem dL_law__2091 : decode cL_law_ 2091 = .ok (.iadd, 1) := by decide +kernel
theorem dL_law__2092 : decode cL_law_ 2092 = .ok (.iaload, 1) := by decide +kernel
theorem dL_law__2093 : decode cL_law_ 2093 = .ok (.invokevirtual 256, 3) := by decide +kernel
theorem dL_law__2096 : decode cL_law_ 2096 = .ok (.istore 6, 2) := by decide +kernel
theorem dL_law__2098 : decode cL_law_ 2098 = .ok (.aload_n 2, 1) := by decide +kernel
theorem dL_law__2099 : decode cL_law_ 2099 = .ok (.invokevirtual 174, 3) := by decide +kernel
theorem dL_law__2102 : decode cL_law_ 2102 = .ok (.iload 5, 2) := by decide +kernel
theorem dL_law__2104 : decode cL_law_ 2104 = .ok (.if_icmp .eq 5, 3) := by decide +kernel
theorem dL_law__2107 : decode cL_law_ 2107 = .ok (.iconst 0, 1) := by decide +kernel
theorem dL_law__2108 : decode cL_law_ 2108 = .ok (.ireturn, 1) := by decide +kernel
theorem dL_law__2109 : decode cL_law_ 2109 = .ok (.iload 5, 2) := by decide +kernel
theorem dL_law__2111 : decode cL_law_ 2111 = .ok (.ifCond .ne 15, 3) := by decide +kernel
theorem dL_law__2114 : decode cL_law_ 2114 = .ok (.aload_n 3, 1) := by decide +kernel
theorem dL_law__2115 : decode cL_law_ 2115 = .ok (.iconst 0, 1) := by decide +kernel
theorem dL_law__2116 : decode cL_law_ 2116 = .ok (.laload, 1) := by decide +kernel
theorem dL_law__2117 : decode cL_law_ 2117 = .ok (.iload 6, 2) := by decide +kernel
theorem dL_law__2119 : decode cL_law_ 2119 = .ok (.i2l, 1) := by decide +kernel
theorem dL_law__2120 : decode cL_law_ 2120 = .ok (.lcmp, 1) := by decide +kernel
theorem dL_law__2121 : decode cL_law_ 2121 = .ok (.ifCond .eq 5, 3) := by decide +kernel
theorem dL_law__2124 : decode cL_law_ 2124 = .ok (.iconst 0, 1) := by decide +kernel
theorem dL_law__2125 : decode cL_law_ 2125 = .ok (.ireturn, 1) := by decide +kernel
theorem dL_law__2126 : decode cL_law_ 2126 = .ok (.goto 1461, 3) := by decide +kernel
theorem dL_law__2129 : decode cL_law_ 2129 = .ok (.aload_n 1, 1) := by decide +kernel
theorem dL_law__2130 : decode cL_law_ 2130 = .ok (.aload_n 0, 1) := by decide +kernel
theorem dL_law__2131 : decode cL_law_ 2131 = .ok (.iload 4, 2) := by decide +kernel
theorem dL_law__2133 : decode cL_law_ 2133 = .ok (.iconst 1, 1) := by decide +kernel
theorem dL_law__2134 : decode cL_law_ 2134 = .ok (.iadd, 1) := by decide +kernel
theorem dL_law__2135 : decode cL_law_ 2135 = .ok (.iaload, 1) := by decide +kernel
theorem dL_law__2136 : decode cL_law_ 2136 = .ok (.aload_n 3, 1) := by decide +kernel
theorem dL_law__2137 : decode cL_law_ 2137 = .ok (.invokestatic 257, 3) := by decide +kernel
theorem dL_law__2140 : decode cL_law_ 2140 = .ok (.istore 5, 2) := by decide +kernel
theorem dL_law__2142 : decode cL_law_ 2142 = .ok (.aload_n 2, 1) := by decide +kernel
theorem dL_law__2143 : decode cL_law_ 2143 = .ok (.aload_n 0, 1) := by decide +kernel
theorem dL_law__2144 : decode cL_law_ 2144 = .ok (.iload 4, 2) := by decide +kernel
theorem dL_law__2146 : decode cL_law_ 2146 = .ok (.iconst 1, 1) := by decide +kernel
theorem dL_law__2147 : decode cL_law_ 2147 = .ok (.iadd, 1) := by decide +kernel
theorem dL_law__2148 : decode cL_law_ 2148 = .ok (.iaload, 1) := by decide +kernel
theorem dL_law__2149 : decode cL_law_ 2149 = .ok (.invokevirtual 259, 3) := by decide +kernel
theorem dL_law__2152 : decode cL_law_ 2152 = .ok (.istore 6, 2) := by decide +kernel
theorem dL_law__2154 : decode cL_law_ 2154 = .ok (.aload_n 2, 1) := by decide +kernel
theorem dL_law__2155 : decode cL_law_ 2155 = .ok (.invokevirtual 174, 3) := by decide +kernel
theorem dL_law__2158 : decode cL_law_ 2158 = .ok (.iload 5, 2) := by decide +kernel
theorem dL_law__2160 : decode cL_law_ 2160 = .ok (.if_icmp .eq 5, 3) := by decide +kernel
theorem dL_law__2163 : decode cL_law_ 2163 = .ok (.iconst 0, 1) := by decide +kernel
theorem dL_law__2164 : decode cL_law_ 2164 = .ok (.ireturn, 1) := by decide +kernel
theorem dL_law__2165 : decode cL_law_ 2165 = .ok (.iload 5, 2) := by decide +kernel
theorem dL_law__2167 : decode cL_law_ 2167 = .ok (.ifCond .ne 15, 3) := by decide +kernel
theorem dL_law__2170 : decode cL_law_ 2170 = .ok (.aload_n 3, 1) := by decide +kernel
theorem dL_law__2171 : decode cL_law_ 2171 = .ok (.iconst 0, 1) := by decide +kernel
theorem dL_law__2172 : decode cL_law_ 2172 = .ok (.laload, 1) := by decide +kernel
theorem dL_law__2173 : decode cL_law_ 2173 = .ok (.iload 6, 2) := by decide +kernel
theorem dL_law__2175 : decode cL_law_ 2175 = .ok (.i2l, 1) := by decide +kernel
theorem dL_law__2176 : decode cL_law_ 2176 = .ok (.lcmp, 1) := by decide +kernel
theorem dL_law__2177 : decode cL_law_ 2177 = .ok (.ifCond .eq 5, 3) := by decide +kernel
theorem dL_law__2180 : decode cL_law_ 2180 = .ok (.iconst 0, 1) := by decide +kernel
theorem dL_law__2181 : decode cL_law_ 2181 = .ok (.ireturn, 1) := by decide +kernel
theorem dL_law__2182 : decode cL_law_ 2182 = .ok (.goto 1405, 3) := by decide +kernel
theorem dL_law__2185 : decode cL_law_ 2185 = .ok (.aload_n 1, 1) := by decide +kernel
theorem dL_law__2186 : decode cL_law_ 2186 = .ok (.aload_n 0, 1) := by decide +kernel
theorem dL_law__2187 : decode cL_law_ 2187 = .ok (.iload 4, 2) := by decide +kernel
theorem dL_law__2189 : decode cL_law_ 2189 = .ok (.iconst 1, 1) := by decide +kernel
theorem dL_law__2190 : decode cL_law_ 2190 = .ok (.iadd, 1) := by decide +kernel
theorem dL_law__2191 : decode cL_law_ 2191 = .ok (.iaload, 1) := by decide +kernel
theorem dL_law__2192 : decode cL_law_ 2192 = .ok (.aload_n 0, 1) := by decide +kernel
theorem dL_law__2193 : decode cL_law_ 2193 = .ok (.iload 4, 2) := by decide +kernel
theorem dL_law__2195 : decode cL_law_ 2195 = .ok (.iconst 2, 1) := by decide +kernel
theorem dL_law__2196 : decode cL_law_ 2196 = .ok (.iadd, 1) := by decide +kernel
theorem dL_law__2197 : decode cL_law_ 2197 = .ok (.iaload, 1) := by decide +kernel
theorem dL_law__2198 : decode cL_law_ 2198 = .ok (.aload_n 0, 1) := by decide +kernel
theorem dL_law__2199 : decode cL_law_ 2199 = .ok (.iload 4, 2) := by decide +kernel
theorem dL_law__2201 : decode cL_law_ 2201 = .ok (.iconst 3, 1) := by decide +kernel
theorem dL_law__2202 : decode cL_law_ 2202 = .ok (.iadd, 1) := by decide +kernel
theorem dL_law__2203 : decode cL_law_ 2203 = .ok (.iaload, 1) := by decide +kernel
theorem dL_law__2204 : decode cL_law_ 2204 = .ok (.ifCond .eq 7, 3) := by decide +kernel
theorem dL_law__2207 : decode cL_law_ 2207 = .ok (.iconst 1, 1) := by decide +kernel
theorem dL_law__2208 : decode cL_law_ 2208 = .ok (.goto 4, 3) := by decide +kernel
theorem dL_law__2211 : decode cL_law_ 2211 = .ok (.iconst 0, 1) := by decide +kernel
theorem dL_law__2212 : decode cL_law_ 2212 = .ok (.aload_n 3, 1) := by decide +kernel
theorem dL_law__2213 : decode cL_law_ 2213 = .ok (.invokestatic 260, 3) := by decide +kernel
theorem dL_law__2216 : decode cL_law_ 2216 = .ok (.istore 5, 2) := by decide +kernel
theorem dL_law__2218 : decode cL_law_ 2218 = .ok (.aload_n 2, 1) := by decide +kernel
theorem dL_law__2219 : decode cL_law_ 2219 = .ok (.aload_n 0, 1) := by decide +kernel
theorem dL_law__2220 : decode cL_law_ 2220 = .ok (.iload 4, 2) := by decide +kernel
theorem dL_law__2222 : decode cL_law_ 2222 = .ok (.iconst 1, 1) := by decide +kernel
theorem dL_law__2223 : decode cL_law_ 2223 = .ok (.iadd, 1) := by decide +kernel
theorem dL_law__2224 : decode cL_law_ 2224 = .ok (.iaload, 1) := by decide +kernel
theorem dL_law__2225 : decode cL_law_ 2225 = .ok (.aload_n 0, 1) := by decide +kernel
theorem dL_law__2226 : decode cL_law_ 2226 = .ok (.iload 4, 2) := by decide +kernel
theorem dL_law__2228 : decode cL_law_ 2228 = .ok (.iconst 2, 1) := by decide +kernel
theorem dL_law__2229 : decode cL_law_ 2229 = .ok (.iadd, 1) := by decide +kernel
theorem dL_law__2230 : decode cL_law_ 2230 = .ok (.iaload, 1) := by decide +kernel
theorem dL_law__2231 : decode cL_law_ 2231 = .ok (.aload_n 0, 1) := by decide +kernel
theorem dL_law__2232 : decode cL_law_ 2232 = .ok (.iload 4, 2) := by decide +kernel
theorem dL_law__2234 : decode cL_law_ 2234 = .ok (.iconst 3, 1) := by decide +kernel
theorem dL_law__2235 : decode cL_law_ 2235 = .ok (.iadd, 1) := by decide +kernel
theorem dL_law__2236 : decode cL_law_ 2236 = .ok (.iaload, 1) := by decide +kernel
theorem dL_law__2237 : decode cL_law_ 2237 = .ok (.ifCond .eq 7, 3) := by decide +kernel
theorem dL_law__2240 : decode cL_law_ 2240 = .ok (.iconst 1, 1) := by decide +kernel
theorem dL_law__2241 : decode cL_law_ 2241 = .ok (.goto 4, 3) := by decide +kernel
theorem dL_law__2244 : decode cL_law_ 2244 = .ok (.iconst 0, 1) := by decide +kernel
theorem dL_law__2245 : decode cL_law_ 2245 = .ok (.invokevirtual 262, 3) := by decide +kernel
theorem dL_law__2248 : decode cL_law_ 2248 = .ok (.istore 6, 2) := by decide +kernel
theorem dL_law__2250 : decode cL_law_ 2250 = .ok (.aload_n 2, 1) := by decide +kernel
theorem dL_law__2251 : decode cL_law_ 2251 = .ok (.invokevirtual 174, 3) := by decide +kernel
theorem dL_law__2254 : decode cL_law_ 2254 = .ok (.iload 5, 2) := by decide +kernel
theorem dL_law__2256 : decode cL_law_ 2256 = .ok (.if_icmp .eq 5, 3) := by decide +kernel
theorem dL_law__2259 : decode cL_law_ 2259 = .ok (.iconst 0, 1) := by decide +kernel
theorem dL_law__2260 : decode cL_law_ 2260 = .ok (.ireturn, 1) := by decide +kernel
theorem dL_law__2261 : decode cL_law_ 2261 = .ok (.iload 5, 2) := by decide +kernel
theorem dL_law__2263 : decode cL_law_ 2263 = .ok (.ifCond .ne 15, 3) := by decide +kernel
theorem dL_law__2266 : decode cL_law_ 2266 = .ok (.aload_n 3, 1) := by decide +kernel
theorem dL_law__2267 : decode cL_law_ 2267 = .ok (.iconst 0, 1) := by decide +kernel
theorem dL_law__2268 : decode cL_law_ 2268 = .ok (.laload, 1) := by decide +kernel
theorem dL_law__2269 : decode cL_law_ 2269 = .ok (.iload 6, 2) := by decide +kernel
theorem dL_law__2271 : decode cL_law_ 2271 = .ok (.i2l, 1) := by decide +kernel
theorem dL_law__2272 : decode cL_law_ 2272 = .ok (.lcmp, 1) := by decide +kernel
theorem dL_law__2273 : decode cL_law_ 2273 = .ok (.ifCond .eq 5, 3) := by decide +kernel
theorem dL_law__2276 : decode cL_law_ 2276 = .ok (.iconst 0, 1) := by decide +kernel
theorem dL_law__2277 : decode cL_law_ 2277 = .ok (.ireturn, 1) := by decide +kernel
theorem dL_law__2278 : decode cL_law_ 2278 = .ok (.goto 1309, 3) := by decide +kernel
theorem dL_law__2281 : decode cL_law_ 2281 = .ok (.aload_n 1, 1) := by decide +kernel
theorem dL_law__2282 : decode cL_law_ 2282 = .ok (.aload_n 0, 1) := by decide +kernel
theorem dL_law__2283 : decode cL_law_ 2283 = .ok (.iload 4, 2) := by decide +kernel
theorem dL_law__2285 : decode cL_law_ 2285 = .ok (.iconst 1, 1) := by decide +kernel
theorem dL_law__2286 : decode cL_law_ 2286 = .ok (.iadd, 1) := by decide +kernel
theorem dL_law__2287 : decode cL_law_ 2287 = .ok (.iaload, 1) := by decide +kernel
theorem dL_law__2288 : decode cL_law_ 2288 = .ok (.aload_n 0, 1) := by decide +kernel
theorem dL_law__2289 : decode cL_law_ 2289 = .ok (.iload 4, 2) := by decide +kernel
theorem dL_law__2291 : decode cL_law_ 2291 = .ok (.iconst 2, 1) := by decide +kernel
theorem dL_law__2292 : decode cL_law_ 2292 = .ok (.iadd, 1) := by decide +kernel
theorem dL_law__2293 : decode cL_law_ 2293 = .ok (.iaload, 1) := by decide +kernel
theorem dL_law__2294 : decode cL_law_ 2294 = .ok (.aload_n 3, 1) := by decide +kernel
theorem dL_law__2295 : decode cL_law_ 2295 = .ok (.invokestatic 263, 3) := by decide +kernel
theorem dL_law__2298 : decode cL_law_ 2298 = .ok (.istore 5, 2) := by decide +kernel
theorem dL_law__2300 : decode cL_law_ 2300 = .ok (.aload_n 2, 1) := by decide +kernel
theorem dL_law__2301 : decode cL_law_ 2301 = .ok (.aload_n 0, 1) := by decide +kernel
theorem dL_law__2302 : decode cL_law_ 2302 = .ok (.iload 4, 2) := by decide +kernel
theorem dL_law__2304 : decode cL_law_ 2304 = .ok (.iconst 1, 1) := by decide +kernel
theorem dL_law__2305 : decode cL_law_ 2305 = .ok (.iadd, 1) := by decide +kernel
theorem dL_law__2306 : decode cL_law_ 2306 = .ok (.iaload, 1) := by decide +kernel
theorem dL_law__2307 : decode cL_law_ 2307 = .ok (.aload_n 0, 1) := by decide +kernel
theorem dL_law__2308 : decode cL_law_ 2308 = .ok (.iload 4, 2) := by decide +kernel
theorem dL_law__2310 : decode cL_law_ 2310 = .ok (.iconst 2, 1) := by decide +kernel
theorem dL_law__2311 : decode cL_law_ 2311 = .ok (.iadd, 1) := by decide +kernel
theorem dL_law__2312 : decode cL_law_ 2312 = .ok (.iaload, 1) := by decide +kernel
theorem dL_law__2313 : decode cL_law_ 2313 = .ok (.invokevirtual 265, 3) := by decide +kernel
theorem dL_law__2316 : decode cL_law_ 2316 = .ok (.istore 6, 2) := by decide +kernel
theorem dL_law__2318 : decode cL_law_ 2318 = .ok (.aload_n 2, 1) := by decide +kernel
theorem dL_law__2319 : decode cL_law_ 2319 = .ok (.invokevirtual 174, 3) := by decide +kernel
theorem dL_law__2322 : decode cL_law_ 2322 = .ok (.iload 5, 2) := by decide +kernel
theorem dL_law__2324 : decode cL_law_ 2324 = .ok (.if_icmp .eq 5, 3) := by decide +kernel
theorem dL_law__2327 : decode cL_law_ 2327 = .ok (.iconst 0, 1) := by decide +kernel
theorem dL_law__2328 : decode cL_law_ 2328 = .ok (.ireturn, 1) := by decide +kernel
theorem dL_law__2329 : decode cL_law_ 2329 = .ok (.iload 5, 2) := by decide +kernel
theorem dL_law__2331 : decode cL_law_ 2331 = .ok (.ifCond .ne 15, 3) := by decide +kernel
theorem dL_law__2334 : decode cL_law_ 2334 = .ok (.aload_n 3, 1) := by decide +kernel
theorem dL_law__2335 : decode cL_law_ 2335 = .ok (.iconst 0, 1) := by decide +kernel
theorem dL_law__2336 : decode cL_law_ 2336 = .ok (.laload, 1) := by decide +kernel
theorem dL_law__2337 : decode cL_law_ 2337 = .ok (.iload 6, 2) := by decide +kernel
theorem dL_law__2339 : decode cL_law_ 2339 = .ok (.i2l, 1) := by decide +kernel
theorem dL_law__2340 : decode cL_law_ 2340 = .ok (.lcmp, 1) := by decide +kernel
theorem dL_law__2341 : decode cL_law_ 2341 = .ok (.ifCond .eq 5, 3) := by decide +kernel
theorem dL_law__2344 : decode cL_law_ 2344 = .ok (.iconst 0, 1) := by decide +kernel
theorem dL_law__2345 : decode cL_law_ 2345 = .ok (.ireturn, 1) := by decide +kernel
theorem dL_law__2346 : decode cL_law_ 2346 = .ok (.goto 1241, 3) := by decide +kernel
theorem dL_law__2349 : decode cL_law_ 2349 = .ok (.aload_n 1, 1) := by decide +kernel
theorem dL_law__2350 : decode cL_law_ 2350 = .ok (.invokevirtual 266, 3) := by decide +kernel
theorem dL_law__2353 : decode cL_law_ 2353 = .ok (.aload_n 2, 1) := by decide +kernel
theorem dL_law__2354 : decode cL_law_ 2354 = .ok (.invokevirtual 269, 3) := by decide +kernel
theorem dL_law__2357 : decode cL_law_ 2357 = .ok (.if_icmp .eq 1230, 3) := by decide +kernel
theorem dL_law__2360 : decode cL_law_ 2360 = .ok (.iconst 0, 1) := by decide +kernel
theorem dL_law__2361 : decode cL_law_ 2361 = .ok (.ireturn, 1) := by decide +kernel
theorem dL_law__2362 : decode cL_law_ 2362 = .ok (.aload_n 1, 1) := by decide +kernel
theorem dL_law__2363 : decode cL_law_ 2363 = .ok (.aload_n 0, 1) := by decide +kernel
theorem dL_law__2364 : decode cL_law_ 2364 = .ok (.iload 4, 2) := by decide +kernel
theorem dL_law__2366 : decode cL_law_ 2366 = .ok (.iconst 1, 1) := by decide +kernel
theorem dL_law__2367 : decode cL_law_ 2367 = .ok (.iadd, 1) := by decide +kernel
theorem dL_law__2368 : decode cL_law_ 2368 = .ok (.iaload, 1) := by decide +kernel
theorem dL_law__2369 : decode cL_law_ 2369 = .ok (.aload_n 0, 1) := by decide +kernel
theorem dL_law__2370 : decode cL_law_ 2370 = .ok (.iload 4, 2) := by decide +kernel
theorem dL_law__2372 : decode cL_law_ 2372 = .ok (.iconst 2, 1) := by decide +kernel
theorem dL_law__2373 : decode cL_law_ 2373 = .ok (.iadd, 1) := by decide +kernel
theorem dL_law__2374 : decode cL_law_ 2374 = .ok (.iaload, 1) := by decide +kernel
theorem dL_law__2375 : decode cL_law_ 2375 = .ok (.aload_n 3, 1) := by decide +kernel
theorem dL_law__2376 : decode cL_law_ 2376 = .ok (.invokestatic 270, 3) := by decide +kernel
theorem dL_law__2379 : decode cL_law_ 2379 = .ok (.istore 5, 2) := by decide +kernel
theorem dL_law__2381 : decode cL_law_ 2381 = .ok (.aload_n 2, 1) := by decide +kernel
theorem dL_law__2382 : decode cL_law_ 2382 = .ok (.aload_n 0, 1) := by decide +kernel
theorem dL_law__2383 : decode cL_law_ 2383 = .ok (.iload 4, 2) := by decide +kernel
theorem dL_law__2385 : decode cL_law_ 2385 = .ok (.iconst 1, 1) := by decide +kernel
theorem dL_law__2386 : decode cL_law_ 2386 = .ok (.iadd, 1) := by decide +kernel
theorem dL_law__2387 : decode cL_law_ 2387 = .ok (.iaload, 1) := by decide +kernel
theorem dL_law__2388 : decode cL_law_ 2388 = .ok (.aload_n 0, 1) := by decide +kernel
theorem dL_law__2389 : decode cL_law_ 2389 = .ok (.iload 4, 2) := by decide +kernel
theorem dL_law__2391 : decode cL_law_ 2391 = .ok (.iconst 2, 1) := by decide +kernel
theorem dL_law__2392 : decode cL_law_ 2392 = .ok (.iadd, 1) := by decide +kernel
theorem dL_law__2393 : decode cL_law_ 2393 = .ok (.iaload, 1) := by decide +kernel
theorem dL_law__2394 : decode cL_law_ 2394 = .ok (.invokevirtual 272, 3) := by decide +kernel
theorem dL_law__2397 : decode cL_law_ 2397 = .ok (.istore 6, 2) := by decide +kernel
theorem dL_law__2399 : decode cL_law_ 2399 = .ok (.aload_n 2, 1) := by decide +kernel
theorem dL_law__2400 : decode cL_law_ 2400 = .ok (.invokevirtual 174, 3) := by decide +kernel
theorem dL_law__2403 : decode cL_law_ 2403 = .ok (.iload 5, 2) := by decide +kernel
theorem dL_law__2405 : decode cL_law_ 2405 = .ok (.if_icmp .eq 5, 3) := by decide +kernel
theorem dL_law__2408 : decode cL_law_ 2408 = .ok (.iconst 0, 1) := by decide +kernel
theorem dL_law__2409 : decode cL_law_ 2409 = .ok (.ireturn, 1) := by decide +kernel
theorem dL_law__2410 : decode cL_law_ 2410 = .ok (.iload 5, 2) := by decide +kernel
theorem dL_law__2412 : decode cL_law_ 2412 = .ok (.ifCond .ne 15, 3) := by decide +kernel
theorem dL_law__2415 : decode cL_law_ 2415 = .ok (.aload_n 3, 1) := by decide +kernel
theorem dL_law__2416 : decode cL_law_ 2416 = .ok (.iconst 0, 1) := by decide +kernel
theorem dL_law__2417 : decode cL_law_ 2417 = .ok (.laload, 1) := by decide +kernel
theorem dL_law__2418 : decode cL_law_ 2418 = .ok (.iload 6, 2) := by decide +kernel
theorem dL_law__2420 : decode cL_law_ 2420 = .ok (.i2l, 1) := by decide +kernel
theorem dL_law__2421 : decode cL_law_ 2421 = .ok (.lcmp, 1) := by decide +kernel
theorem dL_law__2422 : decode cL_law_ 2422 = .ok (.ifCond .eq 5, 3) := by decide +kernel
theorem dL_law__2425 : decode cL_law_ 2425 = .ok (.iconst 0, 1) := by decide +kernel
theorem dL_law__2426 : decode cL_law_ 2426 = .ok (.ireturn, 1) := by decide +kernel
theorem dL_law__2427 : decode cL_law_ 2427 = .ok (.goto 1160, 3) := by decide +kernel
theorem dL_law__2430 : decode cL_law_ 2430 = .ok (.aload_n 1, 1) := by decide +kernel
theorem dL_law__2431 : decode cL_law_ 2431 = .ok (.aload_n 0, 1) := by decide +kernel
theorem dL_law__2432 : decode cL_law_ 2432 = .ok (.iload 4, 2) := by decide +kernel
theorem dL_law__2434 : decode cL_law_ 2434 = .ok (.iconst 1, 1) := by decide +kernel
theorem dL_law__2435 : decode cL_law_ 2435 = .ok (.iadd, 1) := by decide +kernel
theorem dL_law__2436 : decode cL_law_ 2436 = .ok (.iaload, 1) := by decide +kernel
theorem dL_law__2437 : decode cL_law_ 2437 = .ok (.aload_n 0, 1) := by decide +kernel
theorem dL_law__2438 : decode cL_law_ 2438 = .ok (.iload 4, 2) := by decide +kernel
theorem dL_law__2440 : decode cL_law_ 2440 = .ok (.iconst 2, 1) := by decide +kernel
theorem dL_law__2441 : decode cL_law_ 2441 = .ok (.iadd, 1) := by decide +kernel
theorem dL_law__2442 : decode cL_law_ 2442 = .ok (.iaload, 1) := by decide +kernel
theorem dL_law__2443 : decode cL_law_ 2443 = .ok (.aload_n 3, 1) := by decide +kernel
theorem dL_law__2444 : decode cL_law_ 2444 = .ok (.invokestatic 273, 3) := by decide +kernel
theorem dL_law__2447 : decode cL_law_ 2447 = .ok (.istore 5, 2) := by decide +kernel
theorem dL_law__2449 : decode cL_law_ 2449 = .ok (.aload_n 2, 1) := by decide +kernel
theorem dL_law__2450 : decode cL_law_ 2450 = .ok (.aload_n 0, 1) := by decide +kernel
theorem dL_law__2451 : decode cL_law_ 2451 = .ok (.iload 4, 2) := by decide +kernel
theorem dL_law__2453 : decode cL_law_ 2453 = .ok (.iconst 1, 1) := by decide +kernel
theorem dL_law__2454 : decode cL_law_ 2454 = .ok (.iadd, 1) := by decide +kernel
theorem dL_law__2455 : decode cL_law_ 2455 = .ok (.iaload, 1) := by decide +kernel
theorem dL_law__2456 : decode cL_law_ 2456 = .ok (.aload_n 0, 1) := by decide +kernel
theorem dL_law__2457 : decode cL_law_ 2457 = .ok (.iload 4, 2) := by decide +kernel
theorem dL_law__2459 : decode cL_law_ 2459 = .ok (.iconst 2, 1) := by decide +kernel
theorem dL_law__2460 : decode cL_law_ 2460 = .ok (.iadd, 1) := by decide +kernel
theorem dL_law__2461 : decode cL_law_ 2461 = .ok (.iaload, 1) := by decide +kernel
theorem dL_law__2462 : decode cL_law_ 2462 = .ok (.invokevirtual 275, 3) := by decide +kernel
theorem dL_law__2465 : decode cL_law_ 2465 = .ok (.istore 6, 2) := by decide +kernel
theorem dL_law__2467 : decode cL_law_ 2467 = .ok (.aload_n 2, 1) := by decide +kernel
theorem dL_law__2468 : decode cL_law_ 2468 = .ok (.invokevirtual 174, 3) := by decide +kernel
theorem dL_law__2471 : decode cL_law_ 2471 = .ok (.iload 5, 2) := by decide +kernel
theorem dL_law__2473 : decode cL_law_ 2473 = .ok (.if_icmp .eq 5, 3) := by decide +kernel
theorem dL_law__2476 : decode cL_law_ 2476 = .ok (.iconst 0, 1) := by decide +kernel
theorem dL_law__2477 : decode cL_law_ 2477 = .ok (.ireturn, 1) := by decide +kernel
theorem dL_law__2478 : decode cL_law_ 2478 = .ok (.iload 5, 2) := by decide +kernel
theorem dL_law__2480 : decode cL_law_ 2480 = .ok (.ifCond .ne 15, 3) := by decide +kernel
theorem dL_law__2483 : decode cL_law_ 2483 = .ok (.aload_n 3, 1) := by decide +kernel
theorem dL_law__2484 : decode cL_law_ 2484 = .ok (.iconst 0, 1) := by decide +kernel
theorem dL_law__2485 : decode cL_law_ 2485 = .ok (.laload, 1) := by decide +kernel
theorem dL_law__2486 : decode cL_law_ 2486 = .ok (.iload 6, 2) := by decide +kernel
theorem dL_law__2488 : decode cL_law_ 2488 = .ok (.i2l, 1) := by decide +kernel
theorem dL_law__2489 : decode cL_law_ 2489 = .ok (.lcmp, 1) := by decide +kernel
theorem dL_law__2490 : decode cL_law_ 2490 = .ok (.ifCond .eq 5, 3) := by decide +kernel
theorem dL_law__2493 : decode cL_law_ 2493 = .ok (.iconst 0, 1) := by decide +kernel
theorem dL_law__2494 : decode cL_law_ 2494 = .ok (.ireturn, 1) := by decide +kernel
theorem dL_law__2495 : decode cL_law_ 2495 = .ok (.goto 1092, 3) := by decide +kernel
theorem dL_law__2498 : decode cL_law_ 2498 = .ok (.aload_n 1, 1) := by decide +kernel
theorem dL_law__2499 : decode cL_law_ 2499 = .ok (.aload_n 0, 1) := by decide +kernel
theorem dL_law__2500 : decode cL_law_ 2500 = .ok (.iload 4, 2) := by decide +kernel
theorem dL_law__2502 : decode cL_law_ 2502 = .ok (.iconst 1, 1) := by decide +kernel
theorem dL_law__2503 : decode cL_law_ 2503 = .ok (.iadd, 1) := by decide +kernel
theorem dL_law__2504 : decode cL_law_ 2504 = .ok (.iaload, 1) := by decide +kernel
theorem dL_law__2505 : decode cL_law_ 2505 = .ok (.aload_n 3, 1) := by decide +kernel
theorem dL_law__2506 : decode cL_law_ 2506 = .ok (.invokestatic 276, 3) := by decide +kernel
theorem dL_law__2509 : decode cL_law_ 2509 = .ok (.istore 5, 2) := by decide +kernel
theorem dL_law__2511 : decode cL_law_ 2511 = .ok (.aload_n 2, 1) := by decide +kernel
theorem dL_law__2512 : decode cL_law_ 2512 = .ok (.aload_n 0, 1) := by decide +kernel
theorem dL_law__2513 : decode cL_law_ 2513 = .ok (.iload 4, 2) := by decide +kernel
theorem dL_law__2515 : decode cL_law_ 2515 = .ok (.iconst 1, 1) := by decide +kernel
theorem dL_law__2516 : decode cL_law_ 2516 = .ok (.iadd, 1) := by decide +kernel
theorem dL_law__2517 : decode cL_law_ 2517 = .ok (.iaload, 1) := by decide +kernel
theorem dL_law__2518 : decode cL_law_ 2518 = .ok (.invokevirtual 278, 3) := by decide +kernel
theorem dL_law__2521 : decode cL_law_ 2521 = .ok (.istore 6, 2) := by decide +kernel
theorem dL_law__2523 : decode cL_law_ 2523 = .ok (.aload_n 2, 1) := by decide +kernel
theorem dL_law__2524 : decode cL_law_ 2524 = .ok (.invokevirtual 174, 3) := by decide +kernel
theorem dL_law__2527 : decode cL_law_ 2527 = .ok (.iload 5, 2) := by decide +kernel
theorem dL_law__2529 : decode cL_law_ 2529 = .ok (.if_icmp .eq 5, 3) := by decide +kernel
theorem dL_law__2532 : decode cL_law_ 2532 = .ok (.iconst 0, 1) := by decide +kernel
theorem dL_law__2533 : decode cL_law_ 2533 = .ok (.ireturn, 1) := by decide +kernel
theorem dL_law__2534 : decode cL_law_ 2534 = .ok (.iload 5, 2) := by decide +kernel
theorem dL_law__2536 : decode cL_law_ 2536 = .ok (.ifCond .ne 15, 3) := by decide +kernel
theorem dL_law__2539 : decode cL_law_ 2539 = .ok (.aload_n 3, 1) := by decide +kernel
theorem dL_law__2540 : decode cL_law_ 2540 = .ok (.iconst 0, 1) := by decide +kernel
theorem dL_law__2541 : decode cL_law_ 2541 = .ok (.laload, 1) := by decide +kernel
theorem dL_law__2542 : decode cL_law_ 2542 = .ok (.iload 6, 2) := by decide +kernel
theorem dL_law__2544 : decode cL_law_ 2544 = .ok (.i2l, 1) := by decide +kernel
theorem dL_law__2545 : decode cL_law_ 2545 = .ok (.lcmp, 1) := by decide +kernel
theorem dL_law__2546 : decode cL_law_ 2546 = .ok (.ifCond .eq 5, 3) := by decide +kernel
theorem dL_law__2549 : decode cL_law_ 2549 = .ok (.iconst 0, 1) := by decide +kernel
theorem dL_law__2550 : decode cL_law_ 2550 = .ok (.ireturn, 1) := by decide +kernel
theorem dL_law__2551 : decode cL_law_ 2551 = .ok (.goto 1036, 3) := by decide +kernel
theorem dL_law__2554 : decode cL_law_ 2554 = .ok (.aload_n 1, 1) := by decide +kernel
theorem dL_law__2555 : decode cL_law_ 2555 = .ok (.aload_n 0, 1) := by decide +kernel
theorem dL_law__2556 : decode cL_law_ 2556 = .ok (.iload 4, 2) := by decide +kernel
theorem dL_law__2558 : decode cL_law_ 2558 = .ok (.iconst 1, 1) := by decide +kernel
theorem dL_law__2559 : decode cL_law_ 2559 = .ok (.iadd, 1) := by decide +kernel
theorem dL_law__2560 : decode cL_law_ 2560 = .ok (.iaload, 1) := by decide +kernel
theorem dL_law__2561 : decode cL_law_ 2561 = .ok (.invokevirtual 279, 3) := by decide +kernel
theorem dL_law__2564 : decode cL_law_ 2564 = .ok (.aload_n 2, 1) := by decide +kernel
theorem dL_law__2565 : decode cL_law_ 2565 = .ok (.aload_n 0, 1) := by decide +kernel
theorem dL_law__2566 : decode cL_law_ 2566 = .ok (.iload 4, 2) := by decide +kernel
theorem dL_law__2568 : decode cL_law_ 2568 = .ok (.iconst 1, 1) := by decide +kernel
theorem dL_law__2569 : decode cL_law_ 2569 = .ok (.iadd, 1) := by decide +kernel
theorem dL_law__2570 : decode cL_law_ 2570 = .ok (.iaload, 1) := by decide +kernel
theorem dL_law__2571 : decode cL_law_ 2571 = .ok (.invokevirtual 282, 3) := by decide +kernel
theorem dL_law__2574 : decode cL_law_ 2574 = .ok (.if_icmp .eq 1013, 3) := by decide +kernel
theorem dL_law__2577 : decode cL_law_ 2577 = .ok (.iconst 0, 1) := by decide +kernel
theorem dL_law__2578 : decode cL_law_ 2578 = .ok (.ireturn, 1) := by decide +kernel
theorem dL_law__2579 : decode cL_law_ 2579 = .ok (.aload_n 1, 1) := by decide +kernel
theorem dL_law__2580 : decode cL_law_ 2580 = .ok (.aload_n 0, 1) := by decide +kernel
theorem dL_law__2581 : decode cL_law_ 2581 = .ok (.iload 4, 2) := by decide +kernel
theorem dL_law__2583 : decode cL_law_ 2583 = .ok (.iconst 1, 1) := by decide +kernel
theorem dL_law__2584 : decode cL_law_ 2584 = .ok (.iadd, 1) := by decide +kernel
theorem dL_law__2585 : decode cL_law_ 2585 = .ok (.iaload, 1) := by decide +kernel
theorem dL_law__2586 : decode cL_law_ 2586 = .ok (.aload_n 3, 1) := by decide +kernel
theorem dL_law__2587 : decode cL_law_ 2587 = .ok (.invokestatic 283, 3) := by decide +kernel
theorem dL_law__2590 : decode cL_law_ 2590 = .ok (.istore 5, 2) := by decide +kernel
theorem dL_law__2592 : decode cL_law_ 2592 = .ok (.aload_n 2, 1) := by decide +kernel
theorem dL_law__2593 : decode cL_law_ 2593 = .ok (.aload_n 0, 1) := by decide +kernel
theorem dL_law__2594 : decode cL_law_ 2594 = .ok (.iload 4, 2) := by decide +kernel
theorem dL_law__2596 : decode cL_law_ 2596 = .ok (.iconst 1, 1) := by decide +kernel
theorem dL_law__2597 : decode cL_law_ 2597 = .ok (.iadd, 1) := by decide +kernel
theorem dL_law__2598 : decode cL_law_ 2598 = .ok (.iaload, 1) := by decide +kernel
theorem dL_law__2599 : decode cL_law_ 2599 = .ok (.invokevirtual 285, 3) := by decide +kernel
theorem dL_law__2602 : decode cL_law_ 2602 = .ok (.istore 6, 2) := by decide +kernel
theorem dL_law__2604 : decode cL_law_ 2604 = .ok (.aload_n 2, 1) := by decide +kernel
theorem dL_law__2605 : decode cL_law_ 2605 = .ok (.invokevirtual 174, 3) := by decide +kernel
theorem dL_law__2608 : decode cL_law_ 2608 = .ok (.iload 5, 2) := by decide +kernel
theorem dL_law__2610 : decode cL_law_ 2610 = .ok (.if_icmp .eq 5, 3) := by decide +kernel
theorem dL_law__2613 : decode cL_law_ 2613 = .ok (.iconst 0, 1) := by decide +kernel
theorem dL_law__2614 : decode cL_law_ 2614 = .ok (.ireturn, 1) := by decide +kernel
theorem dL_law__2615 : decode cL_law_ 2615 = .ok (.iload 5, 2) := by decide +kernel
theorem dL_law__2617 : decode cL_law_ 2617 = .ok (.ifCond .ne 15, 3) := by decide +kernel
theorem dL_law__2620 : decode cL_law_ 2620 = .ok (.aload_n 3, 1) := by decide +kernel
theorem dL_law__2621 : decode cL_law_ 2621 = .ok (.iconst 0, 1) := by decide +kernel
theorem dL_law__2622 : decode cL_law_ 2622 = .ok (.laload, 1) := by decide +kernel
theorem dL_law__2623 : decode cL_law_ 2623 = .ok (.iload 6, 2) := by decide +kernel
theorem dL_law__2625 : decode cL_law_ 2625 = .ok (.i2l, 1) := by decide +kernel
theorem dL_law__2626 : decode cL_law_ 2626 = .ok (.lcmp, 1) := by decide +kernel
theorem dL_law__2627 : decode cL_law_ 2627 = .ok (.ifCond .eq 5, 3) := by decide +kernel
theorem dL_law__2630 : decode cL_law_ 2630 = .ok (.iconst 0, 1) := by decide +kernel
theorem dL_law__2631 : decode cL_law_ 2631 = .ok (.ireturn, 1) := by decide +kernel
theorem dL_law__2632 : decode cL_law_ 2632 = .ok (.goto 955, 3) := by decide +kernel
theorem dL_law__2635 : decode cL_law_ 2635 = .ok (.aload_n 1, 1) := by decide +kernel
theorem dL_law__2636 : decode cL_law_ 2636 = .ok (.aload_n 0, 1) := by decide +kernel
theorem dL_law__2637 : decode cL_law_ 2637 = .ok (.iload 4, 2) := by decide +kernel
theorem dL_law__2639 : decode cL_law_ 2639 = .ok (.iconst 1, 1) := by decide +kernel
theorem dL_law__2640 : decode cL_law_ 2640 = .ok (.iadd, 1) := by decide +kernel
theorem dL_law__2641 : decode cL_law_ 2641 = .ok (.iaload, 1) := by decide +kernel
theorem dL_law__2642 : decode cL_law_ 2642 = .ok (.aload_n 0, 1) := by decide +kernel
theorem dL_law__2643 : decode cL_law_ 2643 = .ok (.iload 4, 2) := by decide +kernel
theorem dL_law__2645 : decode cL_law_ 2645 = .ok (.iconst 2, 1) := by decide +kernel
theorem dL_law__2646 : decode cL_law_ 2646 = .ok (.iadd, 1) := by decide +kernel
theorem dL_law__2647 : decode cL_law_ 2647 = .ok (.iaload, 1) := by decide +kernel
theorem dL_law__2648 : decode cL_law_ 2648 = .ok (.aload_n 0, 1) := by decide +kernel
theorem dL_law__2649 : decode cL_law_ 2649 = .ok (.iload 4, 2) := by decide +kernel
theorem dL_law__2651 : decode cL_law_ 2651 = .ok (.iconst 3, 1) := by decide +kernel
theorem dL_law__2652 : decode cL_law_ 2652 = .ok (.iadd, 1) := by decide +kernel
theorem dL_law__2653 : decode cL_law_ 2653 = .ok (.iaload, 1) := by decide +kernel
theorem dL_law__2654 : decode cL_law_ 2654 = .ok (.ifCond .eq 7, 3) := by decide +kernel
theorem dL_law__2657 : decode cL_law_ 2657 = .ok (.iconst 1, 1) := by decide +kernel
theorem dL_law__2658 : decode cL_law_ 2658 = .ok (.goto 4, 3) := by decide +kernel
theorem dL_law__2661 : decode cL_law_ 2661 = .ok (.iconst 0, 1) := by decide +kernel
theorem dL_law__2662 : decode cL_law_ 2662 = .ok (.aload_n 3, 1) := by decide +kernel
theorem dL_law__2663 : decode cL_law_ 2663 = .ok (.invokestatic 286, 3) := by decide +kernel
theorem dL_law__2666 : decode cL_law_ 2666 = .ok (.istore 5, 2) := by decide +kernel
theorem dL_law__2668 : decode cL_law_ 2668 = .ok (.aload_n 2, 1) := by decide +kernel
theorem dL_law__2669 : decode cL_law_ 2669 = .ok (.aload_n 0, 1) := by decide +kernel
theorem dL_law__2670 : decode cL_law_ 2670 = .ok (.iload 4, 2) := by decide +kernel
theorem dL_law__2672 : decode cL_law_ 2672 = .ok (.iconst 1, 1) := by decide +kernel
theorem dL_law__2673 : decode cL_law_ 2673 = .ok (.iadd, 1) := by decide +kernel
theorem dL_law__2674 : decode cL_law_ 2674 = .ok (.iaload, 1) := by decide +kernel
theorem dL_law__2675 : decode cL_law_ 2675 = .ok (.aload_n 0, 1) := by decide +kernel
theorem dL_law__2676 : decode cL_law_ 2676 = .ok (.iload 4, 2) := by decide +kernel
theorem dL_law__2678 : decode cL_law_ 2678 = .ok (.iconst 2, 1) := by decide +kernel
theorem dL_law__2679 : decode cL_law_ 2679 = .ok (.iadd, 1) := by decide +kernel
theorem dL_law__2680 : decode cL_law_ 2680 = .ok (.iaload, 1) := by decide +kernel
theorem dL_law__2681 : decode cL_law_ 2681 = .ok (.aload_n 0, 1) := by decide +kernel
theorem dL_law__2682 : decode cL_law_ 2682 = .ok (.iload 4, 2) := by decide +kernel
theorem dL_law__2684 : decode cL_law_ 2684 = .ok (.iconst 3, 1) := by decide +kernel
theorem dL_law__2685 : decode cL_law_ 2685 = .ok (.iadd, 1) := by decide +kernel
theorem dL_law__2686 : decode cL_law_ 2686 = .ok (.iaload, 1) := by decide +kernel
theorem dL_law__2687 : decode cL_law_ 2687 = .ok (.ifCond .eq 7, 3) := by decide +kernel
theorem dL_law__2690 : decode cL_law_ 2690 = .ok (.iconst 1, 1) := by decide +kernel
theorem dL_law__2691 : decode cL_law_ 2691 = .ok (.goto 4, 3) := by decide +kernel
theorem dL_law__2694 : decode cL_law_ 2694 = .ok (.iconst 0, 1) := by decide +kernel
theorem dL_law__2695 : decode cL_law_ 2695 = .ok (.invokevirtual 288, 3) := by decide +kernel
theorem dL_law__2698 : decode cL_law_ 2698 = .ok (.istore 6, 2) := by decide +kernel
theorem dL_law__2700 : decode cL_law_ 2700 = .ok (.aload_n 2, 1) := by decide +kernel
theorem dL_law__2701 : decode cL_law_ 2701 = .ok (.invokevirtual 174, 3) := by decide +kernel
theorem dL_law__2704 : decode cL_law_ 2704 = .ok (.iload 5, 2) := by decide +kernel
theorem dL_law__2706 : decode cL_law_ 2706 = .ok (.if_icmp .eq 5, 3) := by decide +kernel
theorem dL_law__2709 : decode cL_law_ 2709 = .ok (.iconst 0, 1) := by decide +kernel
theorem dL_law__2710 : decode cL_law_ 2710 = .ok (.ireturn, 1) := by decide +kernel
theorem dL_law__2711 : decode cL_law_ 2711 = .ok (.iload 5, 2) := by decide +kernel
theorem dL_law__2713 : decode cL_law_ 2713 = .ok (.ifCond .ne 15, 3) := by decide +kernel
theorem dL_law__2716 : decode cL_law_ 2716 = .ok (.aload_n 3, 1) := by decide +kernel
theorem dL_law__2717 : decode cL_law_ 2717 = .ok (.iconst 0, 1) := by decide +kernel
theorem dL_law__2718 : decode cL_law_ 2718 = .ok (.laload, 1) := by decide +kernel
theorem dL_law__2719 : decode cL_law_ 2719 = .ok (.iload 6, 2) := by decide +kernel
theorem dL_law__2721 : decode cL_law_ 2721 = .ok (.i2l, 1) := by decide +kernel
theorem dL_law__2722 : decode cL_law_ 2722 = .ok (.lcmp, 1) := by decide +kernel
theorem dL_law__2723 : decode cL_law_ 2723 = .ok (.ifCond .eq 5, 3) := by decide +kernel
theorem dL_law__2726 : decode cL_law_ 2726 = .ok (.iconst 0, 1) := by decide +kernel
theorem dL_law__2727 : decode cL_law_ 2727 = .ok (.ireturn, 1) := by decide +kernel
theorem dL_law__2728 : decode cL_law_ 2728 = .ok (.goto 859, 3) := by decide +kernel
theorem dL_law__2731 : decode cL_law_ 2731 = .ok (.aload_n 1, 1) := by decide +kernel
theorem dL_law__2732 : decode cL_law_ 2732 = .ok (.aload_n 0, 1) := by decide +kernel
theorem dL_law__2733 : decode cL_law_ 2733 = .ok (.iload 4, 2) := by decide +kernel
theorem dL_law__2735 : decode cL_law_ 2735 = .ok (.iconst 1, 1) := by decide +kernel
theorem dL_law__2736 : decode cL_law_ 2736 = .ok (.iadd, 1) := by decide +kernel
theorem dL_law__2737 : decode cL_law_ 2737 = .ok (.iaload, 1) := by decide +kernel
theorem dL_law__2738 : decode cL_law_ 2738 = .ok (.aload_n 0, 1) := by decide +kernel
theorem dL_law__2739 : decode cL_law_ 2739 = .ok (.iload 4, 2) := by decide +kernel
theorem dL_law__2741 : decode cL_law_ 2741 = .ok (.iconst 2, 1) := by decide +kernel
theorem dL_law__2742 : decode cL_law_ 2742 = .ok (.iadd, 1) := by decide +kernel
theorem dL_law__2743 : decode cL_law_ 2743 = .ok (.iaload, 1) := by decide +kernel
theorem dL_law__2744 : decode cL_law_ 2744 = .ok (.aload_n 3, 1) := by decide +kernel
theorem dL_law__2745 : decode cL_law_ 2745 = .ok (.invokestatic 289, 3) := by decide +kernel
theorem dL_law__2748 : decode cL_law_ 2748 = .ok (.istore 5, 2) := by decide +kernel
theorem dL_law__2750 : decode cL_law_ 2750 = .ok (.aload_n 2, 1) := by decide +kernel
theorem dL_law__2751 : decode cL_law_ 2751 = .ok (.aload_n 0, 1) := by decide +kernel
theorem dL_law__2752 : decode cL_law_ 2752 = .ok (.iload 4, 2) := by decide +kernel
theorem dL_law__2754 : decode cL_law_ 2754 = .ok (.iconst 1, 1) := by decide +kernel
theorem dL_law__2755 : decode cL_law_ 2755 = .ok (.iadd, 1) := by decide +kernel
theorem dL_law__2756 : decode cL_law_ 2756 = .ok (.iaload, 1) := by decide +kernel
theorem dL_law__2757 : decode cL_law_ 2757 = .ok (.aload_n 0, 1) := by decide +kernel
theorem dL_law__2758 : decode cL_law_ 2758 = .ok (.iload 4, 2) := by decide +kernel
theorem dL_law__2760 : decode cL_law_ 2760 = .ok (.iconst 2, 1) := by decide +kernel
theorem dL_law__2761 : decode cL_law_ 2761 = .ok (.iadd, 1) := by decide +kernel
theorem dL_law__2762 : decode cL_law_ 2762 = .ok (.iaload, 1) := by decide +kernel
theorem dL_law__2763 : decode cL_law_ 2763 = .ok (.invokevirtual 291, 3) := by decide +kernel
theorem dL_law__2766 : decode cL_law_ 2766 = .ok (.istore 6, 2) := by decide +kernel
theorem dL_law__2768 : decode cL_law_ 2768 = .ok (.aload_n 2, 1) := by decide +kernel
theorem dL_law__2769 : decode cL_law_ 2769 = .ok (.invokevirtual 174, 3) := by decide +kernel
theorem dL_law__2772 : decode cL_law_ 2772 = .ok (.iload 5, 2) := by decide +kernel
theorem dL_law__2774 : decode cL_law_ 2774 = .ok (.if_icmp .eq 5, 3) := by decide +kernel
theorem dL_law__2777 : decode cL_law_ 2777 = .ok (.iconst 0, 1) := by decide +kernel
theorem dL_law__2778 : decode cL_law_ 2778 = .ok (.ireturn, 1) := by decide +kernel
theorem dL_law__2779 : decode cL_law_ 2779 = .ok (.iload 5, 2) := by decide +kernel
theorem dL_law__2781 : decode cL_law_ 2781 = .ok (.ifCond .ne 15, 3) := by decide +kernel
theorem dL_law__2784 : decode cL_law_ 2784 = .ok (.aload_n 3, 1) := by decide +kernel
theorem dL_law__2785 : decode cL_law_ 2785 = .ok (.iconst 0, 1) := by decide +kernel
theorem dL_law__2786 : decode cL_law_ 2786 = .ok (.laload, 1) := by decide +kernel
theorem dL_law__2787 : decode cL_law_ 2787 = .ok (.iload 6, 2) := by decide +kernel
theorem dL_law__2789 : decode cL_law_ 2789 = .ok (.i2l, 1) := by decide +kernel
theorem dL_law__2790 : decode cL_law_ 2790 = .ok (.lcmp, 1) := by decide +kernel
theorem dL_law__2791 : decode cL_law_ 2791 = .ok (.ifCond .eq 5, 3) := by decide +kernel
theorem dL_law__2794 : decode cL_law_ 2794 = .ok (.iconst 0, 1) := by decide +kernel
theorem dL_law__2795 : decode cL_law_ 2795 = .ok (.ireturn, 1) := by decide +kernel
theorem dL_law__2796 : decode cL_law_ 2796 = .ok (.goto 791, 3) := by decide +kernel
theorem dL_law__2799 : decode cL_law_ 2799 = .ok (.aload_n 1, 1) := by decide +kernel
theorem dL_law__2800 : decode cL_law_ 2800 = .ok (.aload_n 0, 1) := by decide +kernel
theorem dL_law__2801 : decode cL_law_ 2801 = .ok (.iload 4, 2) := by decide +kernel
theorem dL_law__2803 : decode cL_law_ 2803 = .ok (.iconst 1, 1) := by decide +kernel
theorem dL_law__2804 : decode cL_law_ 2804 = .ok (.iadd, 1) := by decide +kernel
theorem dL_law__2805 : decode cL_law_ 2805 = .ok (.iaload, 1) := by decide +kernel
theorem dL_law__2806 : decode cL_law_ 2806 = .ok (.aload_n 0, 1) := by decide +kernel
theorem dL_law__2807 : decode cL_law_ 2807 = .ok (.iload 4, 2) := by decide +kernel
theorem dL_law__2809 : decode cL_law_ 2809 = .ok (.iconst 2, 1) := by decide +kernel
theorem dL_law__2810 : decode cL_law_ 2810 = .ok (.iadd, 1) := by decide +kernel
theorem dL_law__2811 : decode cL_law_ 2811 = .ok (.iaload, 1) := by decide +kernel
theorem dL_law__2812 : decode cL_law_ 2812 = .ok (.ifCond .eq 7, 3) := by decide +kernel
theorem dL_law__2815 : decode cL_law_ 2815 = .ok (.iconst 1, 1) := by decide +kernel
theorem dL_law__2816 : decode cL_law_ 2816 = .ok (.goto 4, 3) := by decide +kernel
theorem dL_law__2819 : decode cL_law_ 2819 = .ok (.iconst 0, 1) := by decide +kernel
theorem dL_law__2820 : decode cL_law_ 2820 = .ok (.aload_n 3, 1) := by decide +kernel
theorem dL_law__2821 : decode cL_law_ 2821 = .ok (.invokestatic 292, 3) := by decide +kernel
theorem dL_law__2824 : decode cL_law_ 2824 = .ok (.istore 5, 2) := by decide +kernel
theorem dL_law__2826 : decode cL_law_ 2826 = .ok (.aload_n 2, 1) := by decide +kernel
theorem dL_law__2827 : decode cL_law_ 2827 = .ok (.aload_n 0, 1) := by decide +kernel
theorem dL_law__2828 : decode cL_law_ 2828 = .ok (.iload 4, 2) := by decide +kernel
theorem dL_law__2830 : decode cL_law_ 2830 = .ok (.iconst 1, 1) := by decide +kernel
theorem dL_law__2831 : decode cL_law_ 2831 = .ok (.iadd, 1) := by decide +kernel
theorem dL_law__2832 : decode cL_law_ 2832 = .ok (.iaload, 1) := by decide +kernel
theorem dL_law__2833 : decode cL_law_ 2833 = .ok (.aload_n 0, 1) := by decide +kernel
theorem dL_law__2834 : decode cL_law_ 2834 = .ok (.iload 4, 2) := by decide +kernel
theorem dL_law__2836 : decode cL_law_ 2836 = .ok (.iconst 2, 1) := by decide +kernel
theorem dL_law__2837 : decode cL_law_ 2837 = .ok (.iadd, 1) := by decide +kernel
theorem dL_law__2838 : decode cL_law_ 2838 = .ok (.iaload, 1) := by decide +kernel
theorem dL_law__2839 : decode cL_law_ 2839 = .ok (.ifCond .eq 7, 3) := by decide +kernel
theorem dL_law__2842 : decode cL_law_ 2842 = .ok (.iconst 1, 1) := by decide +kernel
theorem dL_law__2843 : decode cL_law_ 2843 = .ok (.goto 4, 3) := by decide +kernel
theorem dL_law__2846 : decode cL_law_ 2846 = .ok (.iconst 0, 1) := by decide +kernel
theorem dL_law__2847 : decode cL_law_ 2847 = .ok (.invokevirtual 294, 3) := by decide +kernel
theorem dL_law__2850 : decode cL_law_ 2850 = .ok (.istore 6, 2) := by decide +kernel
theorem dL_law__2852 : decode cL_law_ 2852 = .ok (.aload_n 2, 1) := by decide +kernel
theorem dL_law__2853 : decode cL_law_ 2853 = .ok (.invokevirtual 174, 3) := by decide +kernel
theorem dL_law__2856 : decode cL_law_ 2856 = .ok (.iload 5, 2) := by decide +kernel
theorem dL_law__2858 : decode cL_law_ 2858 = .ok (.if_icmp .eq 5, 3) := by decide +kernel
theorem dL_law__2861 : decode cL_law_ 2861 = .ok (.iconst 0, 1) := by decide +kernel
theorem dL_law__2862 : decode cL_law_ 2862 = .ok (.ireturn, 1) := by decide +kernel
theorem dL_law__2863 : decode cL_law_ 2863 = .ok (.iload 5, 2) := by decide +kernel
theorem dL_law__2865 : decode cL_law_ 2865 = .ok (.ifCond .ne 15, 3) := by decide +kernel
theorem dL_law__2868 : decode cL_law_ 2868 = .ok (.aload_n 3, 1) := by decide +kernel
theorem dL_law__2869 : decode cL_law_ 2869 = .ok (.iconst 0, 1) := by decide +kernel
theorem dL_law__2870 : decode cL_law_ 2870 = .ok (.laload, 1) := by decide +kernel
theorem dL_law__2871 : decode cL_law_ 2871 = .ok (.iload 6, 2) := by decide +kernel
theorem dL_law__2873 : decode cL_law_ 2873 = .ok (.i2l, 1) := by decide +kernel
theorem dL_law__2874 : decode cL_law_ 2874 = .ok (.lcmp, 1) := by decide +kernel
theorem dL_law__2875 : decode cL_law_ 2875 = .ok (.ifCond .eq 5, 3) := by decide +kernel
theorem dL_law__2878 : decode cL_law_ 2878 = .ok (.iconst 0, 1) := by decide +kernel
theorem dL_law__2879 : decode cL_law_ 2879 = .ok (.ireturn, 1) := by decide +kernel
theorem dL_law__2880 : decode cL_law_ 2880 = .ok (.goto 707, 3) := by decide +kernel
theorem dL_law__2883 : decode cL_law_ 2883 = .ok (.aload_n 1, 1) := by decide +kernel
theorem dL_law__2884 : decode cL_law_ 2884 = .ok (.aload_n 0, 1) := by decide +kernel
theorem dL_law__2885 : decode cL_law_ 2885 = .ok (.iload 4, 2) := by decide +kernel
theorem dL_law__2887 : decode cL_law_ 2887 = .ok (.iconst 1, 1) := by decide +kernel
theorem dL_law__2888 : decode cL_law_ 2888 = .ok (.iadd, 1) := by decide +kernel
theorem dL_law__2889 : decode cL_law_ 2889 = .ok (.iaload, 1) := by decide +kernel
theorem dL_law__2890 : decode cL_law_ 2890 = .ok (.aload_n 3, 1) := by decide +kernel
theorem dL_law__2891 : decode cL_law_ 2891 = .ok (.invokestatic 295, 3) := by decide +kernel
theorem dL_law__2894 : decode cL_law_ 2894 = .ok (.istore 5, 2) := by decide +kernel
theorem dL_law__2896 : decode cL_law_ 2896 = .ok (.aload_n 2, 1) := by decide +kernel
theorem dL_law__2897 : decode cL_law_ 2897 = .ok (.aload_n 0, 1) := by decide +kernel
theorem dL_law__2898 : decode cL_law_ 2898 = .ok (.iload 4, 2) := by decide +kernel
theorem dL_law__2900 : decode cL_law_ 2900 = .ok (.iconst 1, 1) := by decide +kernel
theorem dL_law__2901 : decode cL_law_ 2901 = .ok (.iadd, 1) := by decide +kernel
theorem dL_law__2902 : decode cL_law_ 2902 = .ok (.iaload, 1) := by decide +kernel
theorem dL_law__2903 : decode cL_law_ 2903 = .ok (.invokevirtual 297, 3) := by decide +kernel
theorem dL_law__2906 : decode cL_law_ 2906 = .ok (.istore 6, 2) := by decide +kernel
theorem dL_law__2908 : decode cL_law_ 2908 = .ok (.aload_n 2, 1) := by decide +kernel
theorem dL_law__2909 : decode cL_law_ 2909 = .ok (.invokevirtual 174, 3) := by decide +kernel
theorem dL_law__2912 : decode cL_law_ 2912 = .ok (.iload 5, 2) := by decide +kernel
theorem dL_law__2914 : decode cL_law_ 2914 = .ok (.if_icmp .eq 5, 3) := by decide +kernel
theorem dL_law__2917 : decode cL_law_ 2917 = .ok (.iconst 0, 1) := by decide +kernel
theorem dL_law__2918 : decode cL_law_ 2918 = .ok (.ireturn, 1) := by decide +kernel
theorem dL_law__2919 : decode cL_law_ 2919 = .ok (.iload 5, 2) := by decide +kernel
theorem dL_law__2921 : decode cL_law_ 2921 = .ok (.ifCond .ne 15, 3) := by decide +kernel
theorem dL_law__2924 : decode cL_law_ 2924 = .ok (.aload_n 3, 1) := by decide +kernel
theorem dL_law__2925 : decode cL_law_ 2925 = .ok (.iconst 0, 1) := by decide +kernel
theorem dL_law__2926 : decode cL_law_ 2926 = .ok (.laload, 1) := by decide +kernel
theorem dL_law__2927 : decode cL_law_ 2927 = .ok (.iload 6, 2) := by decide +kernel
theorem dL_law__2929 : decode cL_law_ 2929 = .ok (.i2l, 1) := by decide +kernel
theorem dL_law__2930 : decode cL_law_ 2930 = .ok (.lcmp, 1) := by decide +kernel
theorem dL_law__2931 : decode cL_law_ 2931 = .ok (.ifCond .eq 5, 3) := by decide +kernel
theorem dL_law__2934 : decode cL_law_ 2934 = .ok (.iconst 0, 1) := by decide +kernel
theorem dL_law__2935 : decode cL_law_ 2935 = .ok (.ireturn, 1) := by decide +kernel
theorem dL_law__2936 : decode cL_law_ 2936 = .ok (.goto 651, 3) := by decide +kernel
theorem dL_law__2939 : decode cL_law_ 2939 = .ok (.aload_n 1, 1) := by decide +kernel
theorem dL_law__2940 : decode cL_law_ 2940 = .ok (.aload_n 0, 1) := by decide +kernel
theorem dL_law__2941 : decode cL_law_ 2941 = .ok (.iload 4, 2) := by decide +kernel
theorem dL_law__2943 : decode cL_law_ 2943 = .ok (.iconst 1, 1) := by decide +kernel
theorem dL_law__2944 : decode cL_law_ 2944 = .ok (.iadd, 1) := by decide +kernel
theorem dL_law__2945 : decode cL_law_ 2945 = .ok (.iaload, 1) := by decide +kernel
theorem dL_law__2946 : decode cL_law_ 2946 = .ok (.aload_n 3, 1) := by decide +kernel
theorem dL_law__2947 : decode cL_law_ 2947 = .ok (.invokestatic 298, 3) := by decide +kernel
theorem dL_law__2950 : decode cL_law_ 2950 = .ok (.istore 5, 2) := by decide +kernel
theorem dL_law__2952 : decode cL_law_ 2952 = .ok (.aload_n 2, 1) := by decide +kernel
theorem dL_law__2953 : decode cL_law_ 2953 = .ok (.aload_n 0, 1) := by decide +kernel
theorem dL_law__2954 : decode cL_law_ 2954 = .ok (.iload 4, 2) := by decide +kernel
theorem dL_law__2956 : decode cL_law_ 2956 = .ok (.iconst 1, 1) := by decide +kernel
theorem dL_law__2957 : decode cL_law_ 2957 = .ok (.iadd, 1) := by decide +kernel
theorem dL_law__2958 : decode cL_law_ 2958 = .ok (.iaload, 1) := by decide +kernel
theorem dL_law__2959 : decode cL_law_ 2959 = .ok (.invokevirtual 300, 3) := by decide +kernel
theorem dL_law__2962 : decode cL_law_ 2962 = .ok (.istore 6, 2) := by decide +kernel
theorem dL_law__2964 : decode cL_law_ 2964 = .ok (.aload_n 2, 1) := by decide +kernel
theorem dL_law__2965 : decode cL_law_ 2965 = .ok (.invokevirtual 174, 3) := by decide +kernel
theorem dL_law__2968 : decode cL_law_ 2968 = .ok (.iload 5, 2) := by decide +kernel
theorem dL_law__2970 : decode cL_law_ 2970 = .ok (.if_icmp .eq 5, 3) := by decide +kernel
theorem dL_law__2973 : decode cL_law_ 2973 = .ok (.iconst 0, 1) := by decide +kernel
theorem dL_law__2974 : decode cL_law_ 2974 = .ok (.ireturn, 1) := by decide +kernel
theorem dL_law__2975 : decode cL_law_ 2975 = .ok (.iload 5, 2) := by decide +kernel
theorem dL_law__2977 : decode cL_law_ 2977 = .ok (.ifCond .ne 15, 3) := by decide +kernel
theorem dL_law__2980 : decode cL_law_ 2980 = .ok (.aload_n 3, 1) := by decide +kernel
theorem dL_law__2981 : decode cL_law_ 2981 = .ok (.iconst 0, 1) := by decide +kernel
theorem dL_law__2982 : decode cL_law_ 2982 = .ok (.laload, 1) := by decide +kernel
theorem dL_law__2983 : decode cL_law_ 2983 = .ok (.iload 6, 2) := by decide +kernel
theorem dL_law__2985 : decode cL_law_ 2985 = .ok (.i2l, 1) := by decide +kernel
theorem dL_law__2986 : decode cL_law_ 2986 = .ok (.lcmp, 1) := by decide +kernel
theorem dL_law__2987 : decode cL_law_ 2987 = .ok (.ifCond .eq 5, 3) := by decide +kernel
theorem dL_law__2990 : decode cL_law_ 2990 = .ok (.iconst 0, 1) := by decide +kernel
theorem dL_law__2991 : decode cL_law_ 2991 = .ok (.ireturn, 1) := by decide +kernel
theorem dL_law__2992 : decode cL_law_ 2992 = .ok (.goto 595, 3) := by decide +kernel
theorem dL_law__2995 : decode cL_law_ 2995 = .ok (.aload_n 1, 1) := by decide +kernel
theorem dL_law__2996 : decode cL_law_ 2996 = .ok (.aload_n 0, 1) := by decide +kernel
theorem dL_law__2997 : decode cL_law_ 2997 = .ok (.iload 4, 2) := by decide +kernel
theorem dL_law__2999 : decode cL_law_ 2999 = .ok (.iconst 1, 1) := by decide +kernel
theorem dL_law__3000 : decode cL_law_ 3000 = .ok (.iadd, 1) := by decide +kernel
theorem dL_law__3001 : decode cL_law_ 3001 = .ok (.iaload, 1) := by decide +kernel
theorem dL_law__3002 : decode cL_law_ 3002 = .ok (.aload_n 0, 1) := by decide +kernel
theorem dL_law__3003 : decode cL_law_ 3003 = .ok (.iload 4, 2) := by decide +kernel
theorem dL_law__3005 : decode cL_law_ 3005 = .ok (.iconst 2, 1) := by decide +kernel
theorem dL_law__3006 : decode cL_law_ 3006 = .ok (.iadd, 1) := by decide +kernel
theorem dL_law__3007 : decode cL_law_ 3007 = .ok (.iaload, 1) := by decide +kernel
theorem dL_law__3008 : decode cL_law_ 3008 = .ok (.aload_n 3, 1) := by decide +kernel
theorem dL_law__3009 : decode cL_law_ 3009 = .ok (.invokestatic 301, 3) := by decide +kernel
theorem dL_law__3012 : decode cL_law_ 3012 = .ok (.istore 5, 2) := by decide +kernel
theorem dL_law__3014 : decode cL_law_ 3014 = .ok (.aload_n 2, 1) := by decide +kernel
theorem dL_law__3015 : decode cL_law_ 3015 = .ok (.aload_n 0, 1) := by decide +kernel
theorem dL_law__3016 : decode cL_law_ 3016 = .ok (.iload 4, 2) := by decide +kernel
theorem dL_law__3018 : decode cL_law_ 3018 = .ok (.iconst 1, 1) := by decide +kernel
theorem dL_law__3019 : decode cL_law_ 3019 = .ok (.iadd, 1) := by decide +kernel
theorem dL_law__3020 : decode cL_law_ 3020 = .ok (.iaload, 1) := by decide +kernel
theorem dL_law__3021 : decode cL_law_ 3021 = .ok (.aload_n 0, 1) := by decide +kernel
theorem dL_law__3022 : decode cL_law_ 3022 = .ok (.iload 4, 2) := by decide +kernel
theorem dL_law__3024 : decode cL_law_ 3024 = .ok (.iconst 2, 1) := by decide +kernel
theorem dL_law__3025 : decode cL_law_ 3025 = .ok (.iadd, 1) := by decide +kernel
theorem dL_law__3026 : decode cL_law_ 3026 = .ok (.iaload, 1) := by decide +kernel
theorem dL_law__3027 : decode cL_law_ 3027 = .ok (.invokevirtual 303, 3) := by decide +kernel
theorem dL_law__3030 : decode cL_law_ 3030 = .ok (.istore 6, 2) := by decide +kernel
theorem dL_law__3032 : decode cL_law_ 3032 = .ok (.aload_n 2, 1) := by decide +kernel
theorem dL_law__3033 : decode cL_law_ 3033 = .ok (.invokevirtual 174, 3) := by decide +kernel
theorem dL_law__3036 : decode cL_law_ 3036 = .ok (.iload 5, 2) := by decide +kernel
theorem dL_law__3038 : decode cL_law_ 3038 = .ok (.if_icmp .eq 5, 3) := by decide +kernel
theorem dL_law__3041 : decode cL_law_ 3041 = .ok (.iconst 0, 1) := by decide +kernel
theorem dL_law__3042 : decode cL_law_ 3042 = .ok (.ireturn, 1) := by decide +kernel
theorem dL_law__3043 : decode cL_law_ 3043 = .ok (.iload 5, 2) := by decide +kernel
theorem dL_law__3045 : decode cL_law_ 3045 = .ok (.ifCond .ne 15, 3) := by decide +kernel
theorem dL_law__3048 : decode cL_law_ 3048 = .ok (.aload_n 3, 1) := by decide +kernel
theorem dL_law__3049 : decode cL_law_ 3049 = .ok (.iconst 0, 1) := by decide +kernel
theorem dL_law__3050 : decode cL_law_ 3050 = .ok (.laload, 1) := by decide +kernel
theorem dL_law__3051 : decode cL_law_ 3051 = .ok (.iload 6, 2) := by decide +kernel
theorem dL_law__3053 : decode cL_law_ 3053 = .ok (.i2l, 1) := by decide +kernel
theorem dL_law__3054 : decode cL_law_ 3054 = .ok (.lcmp, 1) := by decide +kernel
theorem dL_law__3055 : decode cL_law_ 3055 = .ok (.ifCond .eq 5, 3) := by decide +kernel
theorem dL_law__3058 : decode cL_law_ 3058 = .ok (.iconst 0, 1) := by decide +kernel
theorem dL_law__3059 : decode cL_law_ 3059 = .ok (.ireturn, 1) := by decide +kernel
theorem dL_law__3060 : decode cL_law_ 3060 = .ok (.goto 527, 3) := by decide +kernel
theorem dL_law__3063 : decode cL_law_ 3063 = .ok (.aload_n 1, 1) := by decide +kernel
theorem dL_law__3064 : decode cL_law_ 3064 = .ok (.aload_n 0, 1) := by decide +kernel
theorem dL_law__3065 : decode cL_law_ 3065 = .ok (.iload 4, 2) := by decide +kernel
theorem dL_law__3067 : decode cL_law_ 3067 = .ok (.iconst 1, 1) := by decide +kernel
theorem dL_law__3068 : decode cL_law_ 3068 = .ok (.iadd, 1) := by decide +kernel
theorem dL_law__3069 : decode cL_law_ 3069 = .ok (.iaload, 1) := by decide +kernel
theorem dL_law__3070 : decode cL_law_ 3070 = .ok (.aload_n 0, 1) := by decide +kernel
theorem dL_law__3071 : decode cL_law_ 3071 = .ok (.iload 4, 2) := by decide +kernel
theorem dL_law__3073 : decode cL_law_ 3073 = .ok (.iconst 2, 1) := by decide +kernel
theorem dL_law__3074 : decode cL_law_ 3074 = .ok (.iadd, 1) := by decide +kernel
theorem dL_law__3075 : decode cL_law_ 3075 = .ok (.iaload, 1) := by decide +kernel
theorem dL_law__3076 : decode cL_law_ 3076 = .ok (.ifCond .eq 7, 3) := by decide +kernel
theorem dL_law__3079 : decode cL_law_ 3079 = .ok (.iconst 1, 1) := by decide +kernel
theorem dL_law__3080 : decode cL_law_ 3080 = .ok (.goto 4, 3) := by decide +kernel
theorem dL_law__3083 : decode cL_law_ 3083 = .ok (.iconst 0, 1) := by decide +kernel
theorem dL_law__3084 : decode cL_law_ 3084 = .ok (.aload_n 3, 1) := by decide +kernel
theorem dL_law__3085 : decode cL_law_ 3085 = .ok (.invokestatic 304, 3) := by decide +kernel
theorem dL_law__3088 : decode cL_law_ 3088 = .ok (.istore 5, 2) := by decide +kernel
theorem dL_law__3090 : decode cL_law_ 3090 = .ok (.aload_n 2, 1) := by decide +kernel
theorem dL_law__3091 : decode cL_law_ 3091 = .ok (.aload_n 0, 1) := by decide +kernel
theorem dL_law__3092 : decode cL_law_ 3092 = .ok (.iload 4, 2) := by decide +kernel
theorem dL_law__3094 : decode cL_law_ 3094 = .ok (.iconst 1, 1) := by decide +kernel
theorem dL_law__3095 : decode cL_law_ 3095 = .ok (.iadd, 1) := by decide +kernel
theorem dL_law__3096 : decode cL_law_ 3096 = .ok (.iaload, 1) := by decide +kernel
theorem dL_law__3097 : decode cL_law_ 3097 = .ok (.aload_n 0, 1) := by decide +kernel
theorem dL_law__3098 : decode cL_law_ 3098 = .ok (.iload 4, 2) := by decide +kernel
theorem dL_law__3100 : decode cL_law_ 3100 = .ok (.iconst 2, 1) := by decide +kernel
theorem dL_law__3101 : decode cL_law_ 3101 = .ok (.iadd, 1) := by decide +kernel
theorem dL_law__3102 : decode cL_law_ 3102 = .ok (.iaload, 1) := by decide +kernel
theorem dL_law__3103 : decode cL_law_ 3103 = .ok (.ifCond .eq 7, 3) := by decide +kernel
theorem dL_law__3106 : decode cL_law_ 3106 = .ok (.iconst 1, 1) := by decide +kernel
theorem dL_law__3107 : decode cL_law_ 3107 = .ok (.goto 4, 3) := by decide +kernel
theorem dL_law__3110 : decode cL_law_ 3110 = .ok (.iconst 0, 1) := by decide +kernel
theorem dL_law__3111 : decode cL_law_ 3111 = .ok (.invokevirtual 306, 3) := by decide +kernel
