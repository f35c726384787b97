theorem dX11_echo_39 : decode cX11_echo 39 = .ok (.aload_n 2, 1) := by decide +kernel
theorem dX11_echo_40 : decode cX11_echo 40 = .ok (.iload 5, 2) := by decide +kernel
theorem dX11_echo_42 : decode cX11_echo 42 = .ok (.invokevirtual 358, 3) := by decide +kernel
theorem dX11_echo_45 : decode cX11_echo 45 = .ok (.invokestatic 362, 3) := by decide +kernel
theorem dX11_echo_48 : decode cX11_echo 48 = .ok (.istore_n 3, 1) := by decide +kernel
theorem dX11_echo_49 : decode cX11_echo 49 = .ok (.iinc 5 1, 3) := by decide +kernel
theorem dX11_echo_52 : decode cX11_echo 52 = .ok (.goto (-26), 3) := by decide +kernel
theorem dX11_echo_55 : decode cX11_echo 55 = .ok (.iinc 4 1, 3) := by decide +kernel
theorem dX11_echo_58 : decode cX11_echo 58 = .ok (.goto (-47), 3) := by decide +kernel
theorem dX11_echo_61 : decode cX11_echo 61 = .ok (.iload_n 3, 1) := by decide +kernel
theorem dX11_echo_62 : decode cX11_echo 62 = .ok (.ireturn, 1) := by decide +kernel
theorem dX11_common_0 : decode cX11_common 0 = .ok (.aload_n 0, 1) := by decide +kernel
theorem dX11_common_1 : decode cX11_common 1 = .ok (.iload_n 1, 1) := by decide +kernel
theorem dX11_common_2 : decode cX11_common 2 = .ok (.invokevirtual 153, 3) := by decide +kernel
theorem dX11_common_5 : decode cX11_common 5 = .ok (.astore_n 3, 1) := by decide +kernel
theorem dX11_common_6 : decode cX11_common 6 = .ok (.aload_n 0, 1) := by decide +kernel
theorem dX11_common_7 : decode cX11_common 7 = .ok (.iload_n 2, 1) := by decide +kernel
theorem dX11_common_8 : decode cX11_common 8 = .ok (.invokevirtual 153, 3) := by decide +kernel
theorem dX11_common_11 : decode cX11_common 11 = .ok (.astore 4, 2) := by decide +kernel
theorem dX11_common_13 : decode cX11_common 13 = .ok (.iload_n 1, 1) := by decide +kernel
theorem dX11_common_14 : decode cX11_common 14 = .ok (.iload_n 2, 1) := by decide +kernel
theorem dX11_common_15 : decode cX11_common 15 = .ok (.invokestatic 322, 3) := by decide +kernel
theorem dX11_common_18 : decode cX11_common 18 = .ok (.iconst 0, 1) := by decide +kernel
theorem dX11_common_19 : decode cX11_common 19 = .ok (.istore 5, 2) := by decide +kernel
theorem dX11_common_21 : decode cX11_common 21 = .ok (.iconst 0, 1) := by decide +kernel
theorem dX11_common_22 : decode cX11_common 22 = .ok (.istore 6, 2) := by decide +kernel
theorem dX11_common_24 : decode cX11_common 24 = .ok (.iload 6, 2) := by decide +kernel
theorem dX11_common_26 : decode cX11_common 26 = .ok (.aload_n 3, 1) := by decide +kernel
theorem dX11_common_27 : decode cX11_common 27 = .ok (.getfield 157, 3) := by decide +kernel
theorem dX11_common_30 : decode cX11_common 30 = .ok (.if_icmp .ge 45, 3) := by decide +kernel
theorem dX11_common_33 : decode cX11_common 33 = .ok (.iconst 0, 1) := by decide +kernel
theorem dX11_common_34 : decode cX11_common 34 = .ok (.istore 7, 2) := by decide +kernel
theorem dX11_common_36 : decode cX11_common 36 = .ok (.iload 7, 2) := by decide +kernel
theorem dX11_common_38 : decode cX11_common 38 = .ok (.aload 4, 2) := by decide +kernel
theorem dX11_common_40 : decode cX11_common 40 = .ok (.getfield 157, 3) := by decide +kernel
theorem dX11_common_43 : decode cX11_common 43 = .ok (.if_icmp .ge 26, 3) := by decide +kernel
theorem dX11_common_46 : decode cX11_common 46 = .ok (.iload 5, 2) := by decide +kernel
theorem dX11_common_48 : decode cX11_common 48 = .ok (.aload_n 3, 1) := by decide +kernel
theorem dX11_common_49 : decode cX11_common 49 = .ok (.iload 6, 2) := by decide +kernel
theorem dX11_common_51 : decode cX11_common 51 = .ok (.aload 4, 2) := by decide +kernel
theorem dX11_common_53 : decode cX11_common 53 = .ok (.iload 7, 2) := by decide +kernel
theorem dX11_common_55 : decode cX11_common 55 = .ok (.invokevirtual 358, 3) := by decide +kernel
theorem dX11_common_58 : decode cX11_common 58 = .ok (.invokestatic 362, 3) := by decide +kernel
theorem dX11_common_61 : decode cX11_common 61 = .ok (.istore 5, 2) := by decide +kernel
theorem dX11_common_63 : decode cX11_common 63 = .ok (.iinc 7 1, 3) := by decide +kernel
theorem dX11_common_66 : decode cX11_common 66 = .ok (.goto (-30), 3) := by decide +kernel
theorem dX11_common_69 : decode cX11_common 69 = .ok (.iinc 6 1, 3) := by decide +kernel
theorem dX11_common_72 : decode cX11_common 72 = .ok (.goto (-48), 3) := by decide +kernel
theorem dX11_common_75 : decode cX11_common 75 = .ok (.iload 5, 2) := by decide +kernel
theorem dX11_common_77 : decode cX11_common 77 = .ok (.ireturn, 1) := by decide +kernel
theorem dX11_author_0 : decode cX11_author 0 = .ok (.aload_n 0, 1) := by decide +kernel
theorem dX11_author_1 : decode cX11_author 1 = .ok (.getfield 51, 3) := by decide +kernel
theorem dX11_author_4 : decode cX11_author 4 = .ok (.aload_n 0, 1) := by decide +kernel
theorem dX11_author_5 : decode cX11_author 5 = .ok (.iload_n 1, 1) := by decide +kernel
theorem dX11_author_6 : decode cX11_author 6 = .ok (.invokevirtual 153, 3) := by decide +kernel
theorem dX11_author_9 : decode cX11_author 9 = .ok (.aload_n 0, 1) := by decide +kernel
theorem dX11_author_10 : decode cX11_author 10 = .ok (.getfield 20, 3) := by decide +kernel
theorem dX11_author_13 : decode cX11_author 13 = .ok (.getfield 182, 3) := by decide +kernel
theorem dX11_author_16 : decode cX11_author 16 = .ok (.getfield 185, 3) := by decide +kernel
theorem dX11_author_19 : decode cX11_author 19 = .ok (.invokevirtual 290, 3) := by decide +kernel
theorem dX11_author_22 : decode cX11_author 22 = .ok (.bipush 25, 2) := by decide +kernel
theorem dX11_author_24 : decode cX11_author 24 = .ok (.istore_n 3, 1) := by decide +kernel
theorem dX11_author_25 : decode cX11_author 25 = .ok (.iconst 0, 1) := by decide +kernel
theorem dX11_author_26 : decode cX11_author 26 = .ok (.istore 4, 2) := by decide +kernel
theorem dX11_author_28 : decode cX11_author 28 = .ok (.iconst 0, 1) := by decide +kernel
theorem dX11_author_29 : decode cX11_author 29 = .ok (.istore 5, 2) := by decide +kernel
theorem dX11_author_31 : decode cX11_author 31 = .ok (.iload 5, 2) := by decide +kernel
theorem dX11_author_33 : decode cX11_author 33 = .ok (.bipush 10, 2) := by decide +kernel
theorem dX11_author_35 : decode cX11_author 35 = .ok (.if_icmp .ge 75, 3) := by decide +kernel
theorem dX11_author_38 : decode cX11_author 38 = .ok (.iload_n 2, 1) := by decide +kernel
theorem dX11_author_39 : decode cX11_author 39 = .ok (.ifCond .eq 18, 3) := by decide +kernel
theorem dX11_author_42 : decode cX11_author 42 = .ok (.aload_n 0, 1) := by decide +kernel
theorem dX11_author_43 : decode cX11_author 43 = .ok (.getfield 51, 3) := by decide +kernel
theorem dX11_author_46 : decode cX11_author 46 = .ok (.getfield 297, 3) := by decide +kernel
theorem dX11_author_49 : decode cX11_author 49 = .ok (.iload 5, 2) := by decide +kernel
theorem dX11_author_51 : decode cX11_author 51 = .ok (.putfield 165, 3) := by decide +kernel
theorem dX11_author_54 : decode cX11_author 54 = .ok (.goto 15, 3) := by decide +kernel
theorem dX11_author_57 : decode cX11_author 57 = .ok (.aload_n 0, 1) := by decide +kernel
theorem dX11_author_58 : decode cX11_author 58 = .ok (.getfield 51, 3) := by decide +kernel
theorem dX11_author_61 : decode cX11_author 61 = .ok (.getfield 297, 3) := by decide +kernel
theorem dX11_author_64 : decode cX11_author 64 = .ok (.iload 5, 2) := by decide +kernel
theorem dX11_author_66 : decode cX11_author 66 = .ok (.putfield 162, 3) := by decide +kernel
theorem dX11_author_69 : decode cX11_author 69 = .ok (.aload_n 0, 1) := by decide +kernel
theorem dX11_author_70 : decode cX11_author 70 = .ok (.getfield 20, 3) := by decide +kernel
theorem dX11_author_73 : decode cX11_author 73 = .ok (.getfield 144, 3) := by decide +kernel
theorem dX11_author_76 : decode cX11_author 76 = .ok (.aload_n 0, 1) := by decide +kernel
theorem dX11_author_77 : decode cX11_author 77 = .ok (.getfield 51, 3) := by decide +kernel
theorem dX11_author_80 : decode cX11_author 80 = .ok (.getfield 297, 3) := by decide +kernel
theorem dX11_author_83 : decode cX11_author 83 = .ok (.invokevirtual 315, 3) := by decide +kernel
theorem dX11_author_86 : decode cX11_author 86 = .ok (.invokestatic 350, 3) := by decide +kernel
theorem dX11_author_89 : decode cX11_author 89 = .ok (.istore 6, 2) := by decide +kernel
theorem dX11_author_91 : decode cX11_author 91 = .ok (.iload 6, 2) := by decide +kernel
theorem dX11_author_93 : decode cX11_author 93 = .ok (.iload_n 3, 1) := by decide +kernel
theorem dX11_author_94 : decode cX11_author 94 = .ok (.if_icmp .ge 10, 3) := by decide +kernel
theorem dX11_author_97 : decode cX11_author 97 = .ok (.iload 6, 2) := by decide +kernel
theorem dX11_author_99 : decode cX11_author 99 = .ok (.istore_n 3, 1) := by decide +kernel
theorem dX11_author_100 : decode cX11_author 100 = .ok (.iload 5, 2) := by decide +kernel
theorem dX11_author_102 : decode cX11_author 102 = .ok (.istore 4, 2) := by decide +kernel
theorem dX11_author_104 : decode cX11_author 104 = .ok (.iinc 5 1, 3) := by decide +kernel
theorem dX11_author_107 : decode cX11_author 107 = .ok (.goto (-76), 3) := by decide +kernel
theorem dX11_author_110 : decode cX11_author 110 = .ok (.iload 4, 2) := by decide +kernel
theorem dX11_author_112 : decode cX11_author 112 = .ok (.ireturn, 1) := by decide +kernel
theorem dX11_shelves_0 : decode cX11_shelves 0 = .ok (.iload_n 1, 1) := by decide +kernel
theorem dX11_shelves_1 : decode cX11_shelves 1 = .ok (.iconst 1, 1) := by decide +kernel
theorem dX11_shelves_2 : decode cX11_shelves 2 = .ok (.if_icmp .lt 9, 3) := by decide +kernel
theorem dX11_shelves_5 : decode cX11_shelves 5 = .ok (.iload_n 1, 1) := by decide +kernel
theorem dX11_shelves_6 : decode cX11_shelves 6 = .ok (.bipush 99, 2) := by decide +kernel
theorem dX11_shelves_8 : decode cX11_shelves 8 = .ok (.if_icmp .le 14, 3) := by decide +kernel
theorem dX11_shelves_11 : decode cX11_shelves 11 = .ok (.new 110, 3) := by decide +kernel
theorem dX11_shelves_14 : decode cX11_shelves 14 = .ok (.dup, 1) := by decide +kernel
theorem dX11_shelves_15 : decode cX11_shelves 15 = .ok (.ldc_w 367, 3) := by decide +kernel
theorem dX11_shelves_18 : decode cX11_shelves 18 = .ok (.invokespecial 114, 3) := by decide +kernel
theorem dX11_shelves_21 : decode cX11_shelves 21 = .ok (.athrow, 1) := by decide +kernel
theorem dX11_shelves_22 : decode cX11_shelves 22 = .ok (.iload_n 2, 1) := by decide +kernel
theorem dX11_shelves_23 : decode cX11_shelves 23 = .ok (.iconst 0, 1) := by decide +kernel
theorem dX11_shelves_24 : decode cX11_shelves 24 = .ok (.invokestatic 285, 3) := by decide +kernel
theorem dX11_shelves_27 : decode cX11_shelves 27 = .ok (.aload_n 0, 1) := by decide +kernel
theorem dX11_shelves_28 : decode cX11_shelves 28 = .ok (.getfield 68, 3) := by decide +kernel
theorem dX11_shelves_31 : decode cX11_shelves 31 = .ok (.invokevirtual 369, 3) := by decide +kernel
theorem dX11_shelves_34 : decode cX11_shelves 34 = .ok (.iconst 0, 1) := by decide +kernel
theorem dX11_shelves_35 : decode cX11_shelves 35 = .ok (.istore 4, 2) := by decide +kernel
theorem dX11_shelves_37 : decode cX11_shelves 37 = .ok (.iload 4, 2) := by decide +kernel
theorem dX11_shelves_39 : decode cX11_shelves 39 = .ok (.aload_n 0, 1) := by decide +kernel
theorem dX11_shelves_40 : decode cX11_shelves 40 = .ok (.getfield 20, 3) := by decide +kernel
theorem dX11_shelves_43 : decode cX11_shelves 43 = .ok (.getfield 182, 3) := by decide +kernel
theorem dX11_shelves_46 : decode cX11_shelves 46 = .ok (.getfield 235, 3) := by decide +kernel
theorem dX11_shelves_49 : decode cX11_shelves 49 = .ok (.if_icmp .ge 71, 3) := by decide +kernel
theorem dX11_shelves_52 : decode cX11_shelves 52 = .ok (.aload_n 0, 1) := by decide +kernel
theorem dX11_shelves_53 : decode cX11_shelves 53 = .ok (.getfield 51, 3) := by decide +kernel
theorem dX11_shelves_56 : decode cX11_shelves 56 = .ok (.aload_n 0, 1) := by decide +kernel
theorem dX11_shelves_57 : decode cX11_shelves 57 = .ok (.getfield 20, 3) := by decide +kernel
theorem dX11_shelves_60 : decode cX11_shelves 60 = .ok (.getfield 182, 3) := by decide +kernel
theorem dX11_shelves_63 : decode cX11_shelves 63 = .ok (.getfield 242, 3) := by decide +kernel
theorem dX11_shelves_66 : decode cX11_shelves 66 = .ok (.iload 4, 2) := by decide +kernel
theorem dX11_shelves_68 : decode cX11_shelves 68 = .ok (.aaload, 1) := by decide +kernel
theorem dX11_shelves_69 : decode cX11_shelves 69 = .ok (.aload_n 0, 1) := by decide +kernel
theorem dX11_shelves_70 : decode cX11_shelves 70 = .ok (.getfield 20, 3) := by decide +kernel
theorem dX11_shelves_73 : decode cX11_shelves 73 = .ok (.getfield 182, 3) := by decide +kernel
theorem dX11_shelves_76 : decode cX11_shelves 76 = .ok (.getfield 185, 3) := by decide +kernel
theorem dX11_shelves_79 : decode cX11_shelves 79 = .ok (.invokevirtual 290, 3) := by decide +kernel
theorem dX11_shelves_82 : decode cX11_shelves 82 = .ok (.aload_n 0, 1) := by decide +kernel
theorem dX11_shelves_83 : decode cX11_shelves 83 = .ok (.getfield 51, 3) := by decide +kernel
theorem dX11_shelves_86 : decode cX11_shelves 86 = .ok (.aload_n 0, 1) := by decide +kernel
theorem dX11_shelves_87 : decode cX11_shelves 87 = .ok (.getfield 20, 3) := by decide +kernel
theorem dX11_shelves_90 : decode cX11_shelves 90 = .ok (.getfield 144, 3) := by decide +kernel
theorem dX11_shelves_93 : decode cX11_shelves 93 = .ok (.iload_n 2, 1) := by decide +kernel
theorem dX11_shelves_94 : decode cX11_shelves 94 = .ok (.invokevirtual 293, 3) := by decide +kernel
theorem dX11_shelves_97 : decode cX11_shelves 97 = .ok (.aload_n 0, 1) := by decide +kernel
theorem dX11_shelves_98 : decode cX11_shelves 98 = .ok (.getfield 68, 3) := by decide +kernel
theorem dX11_shelves_101 : decode cX11_shelves 101 = .ok (.aload_n 0, 1) := by decide +kernel
theorem dX11_shelves_102 : decode cX11_shelves 102 = .ok (.getfield 51, 3) := by decide +kernel
theorem dX11_shelves_105 : decode cX11_shelves 105 = .ok (.getfield 297, 3) := by decide +kernel
theorem dX11_shelves_108 : decode cX11_shelves 108 = .ok (.getfield 157, 3) := by decide +kernel
theorem dX11_shelves_111 : decode cX11_shelves 111 = .ok (.invokevirtual 370, 3) := by decide +kernel
theorem dX11_shelves_114 : decode cX11_shelves 114 = .ok (.iinc 4 1, 3) := by decide +kernel
theorem dX11_shelves_117 : decode cX11_shelves 117 = .ok (.goto (-80), 3) := by decide +kernel
theorem dX11_shelves_120 : decode cX11_shelves 120 = .ok (.iload_n 3, 1) := by decide +kernel
theorem dX11_shelves_121 : decode cX11_shelves 121 = .ok (.ifCond .eq 14, 3) := by decide +kernel
theorem dX11_shelves_124 : decode cX11_shelves 124 = .ok (.aload_n 0, 1) := by decide +kernel
theorem dX11_shelves_125 : decode cX11_shelves 125 = .ok (.getfield 68, 3) := by decide +kernel
theorem dX11_shelves_128 : decode cX11_shelves 128 = .ok (.iload_n 1, 1) := by decide +kernel
theorem dX11_shelves_129 : decode cX11_shelves 129 = .ok (.invokevirtual 372, 3) := by decide +kernel
theorem dX11_shelves_132 : decode cX11_shelves 132 = .ok (.goto 11, 3) := by decide +kernel
theorem dX11_shelves_135 : decode cX11_shelves 135 = .ok (.aload_n 0, 1) := by decide +kernel
theorem dX11_shelves_136 : decode cX11_shelves 136 = .ok (.getfield 68, 3) := by decide +kernel
theorem dX11_shelves_139 : decode cX11_shelves 139 = .ok (.iload_n 1, 1) := by decide +kernel
theorem dX11_shelves_140 : decode cX11_shelves 140 = .ok (.invokevirtual 375, 3) := by decide +kernel
theorem dX11_shelves_143 : decode cX11_shelves 143 = .ok (.ireturn, 1) := by decide +kernel
theorem dX11_tempers_0 : decode cX11_tempers 0 = .ok (.aload_n 0, 1) := by decide +kernel
theorem dX11_tempers_1 : decode cX11_tempers 1 = .ok (.iload_n 1, 1) := by decide +kernel
theorem dX11_tempers_2 : decode cX11_tempers 2 = .ok (.invokevirtual 153, 3) := by decide +kernel
theorem dX11_tempers_5 : decode cX11_tempers 5 = .ok (.astore 4, 2) := by decide +kernel
theorem dX11_tempers_7 : decode cX11_tempers 7 = .ok (.iload_n 3, 1) := by decide +kernel
theorem dX11_tempers_8 : decode cX11_tempers 8 = .ok (.iconst (-1), 1) := by decide +kernel
theorem dX11_tempers_9 : decode cX11_tempers 9 = .ok (.if_icmp .eq 7, 3) := by decide +kernel
theorem dX11_tempers_12 : decode cX11_tempers 12 = .ok (.iload_n 3, 1) := by decide +kernel
theorem dX11_tempers_13 : decode cX11_tempers 13 = .ok (.invokestatic 208, 3) := by decide +kernel
theorem dX11_tempers_16 : decode cX11_tempers 16 = .ok (.iload_n 2, 1) := by decide +kernel
theorem dX11_tempers_17 : decode cX11_tempers 17 = .ok (.iconst 0, 1) := by decide +kernel
theorem dX11_tempers_18 : decode cX11_tempers 18 = .ok (.invokestatic 285, 3) := by decide +kernel
theorem dX11_tempers_21 : decode cX11_tempers 21 = .ok (.aload_n 0, 1) := by decide +kernel
theorem dX11_tempers_22 : decode cX11_tempers 22 = .ok (.aload 4, 2) := by decide +kernel
theorem dX11_tempers_24 : decode cX11_tempers 24 = .ok (.iload_n 2, 1) := by decide +kernel
theorem dX11_tempers_25 : decode cX11_tempers 25 = .ok (.invokevirtual 378, 3) := by decide +kernel
theorem dX11_tempers_28 : decode cX11_tempers 28 = .ok (.iload_n 3, 1) := by decide +kernel
theorem dX11_tempers_29 : decode cX11_tempers 29 = .ok (.ifCond .lt 16, 3) := by decide +kernel
theorem dX11_tempers_32 : decode cX11_tempers 32 = .ok (.iload_n 3, 1) := by decide +kernel
theorem dX11_tempers_33 : decode cX11_tempers 33 = .ok (.bipush 12, 2) := by decide +kernel
theorem dX11_tempers_35 : decode cX11_tempers 35 = .ok (.if_icmp .ge 10, 3) := by decide +kernel
theorem dX11_tempers_38 : decode cX11_tempers 38 = .ok (.aload_n 0, 1) := by decide +kernel
theorem dX11_tempers_39 : decode cX11_tempers 39 = .ok (.getfield 77, 3) := by decide +kernel
theorem dX11_tempers_42 : decode cX11_tempers 42 = .ok (.iload_n 3, 1) := by decide +kernel
theorem dX11_tempers_43 : decode cX11_tempers 43 = .ok (.iaload, 1) := by decide +kernel
theorem dX11_tempers_44 : decode cX11_tempers 44 = .ok (.ireturn, 1) := by decide +kernel
theorem dX11_tempers_45 : decode cX11_tempers 45 = .ok (.iconst 0, 1) := by decide +kernel
theorem dX11_tempers_46 : decode cX11_tempers 46 = .ok (.istore 5, 2) := by decide +kernel
theorem dX11_tempers_48 : decode cX11_tempers 48 = .ok (.iconst 1, 1) := by decide +kernel
theorem dX11_tempers_49 : decode cX11_tempers 49 = .ok (.istore 6, 2) := by decide +kernel
theorem dX11_tempers_51 : decode cX11_tempers 51 = .ok (.iload 6, 2) := by decide +kernel
theorem dX11_tempers_53 : decode cX11_tempers 53 = .ok (.bipush 12, 2) := by decide +kernel
theorem dX11_tempers_55 : decode cX11_tempers 55 = .ok (.if_icmp .ge 30, 3) := by decide +kernel
theorem dX11_tempers_58 : decode cX11_tempers 58 = .ok (.aload_n 0, 1) := by decide +kernel
theorem dX11_tempers_59 : decode cX11_tempers 59 = .ok (.getfield 77, 3) := by decide +kernel
theorem dX11_tempers_62 : decode cX11_tempers 62 = .ok (.iload 6, 2) := by decide +kernel
theorem dX11_tempers_64 : decode cX11_tempers 64 = .ok (.iaload, 1) := by decide +kernel
theorem dX11_tempers_65 : decode cX11_tempers 65 = .ok (.aload_n 0, 1) := by decide +kernel
theorem dX11_tempers_66 : decode cX11_tempers 66 = .ok (.getfield 77, 3) := by decide +kernel
theorem dX11_tempers_69 : decode cX11_tempers 69 = .ok (.iload 5, 2) := by decide +kernel
theorem dX11_tempers_71 : decode cX11_tempers 71 = .ok (.iaload, 1) := by decide +kernel
theorem dX11_tempers_72 : decode cX11_tempers 72 = .ok (.if_icmp .le 7, 3) := by decide +kernel
theorem dX11_tempers_75 : decode cX11_tempers 75 = .ok (.iload 6, 2) := by decide +kernel
theorem dX11_tempers_77 : decode cX11_tempers 77 = .ok (.istore 5, 2) := by decide +kernel
theorem dX11_tempers_79 : decode cX11_tempers 79 = .ok (.iinc 6 1, 3) := by decide +kernel
theorem dX11_tempers_82 : decode cX11_tempers 82 = .ok (.goto (-31), 3) := by decide +kernel
theorem dX11_tempers_85 : decode cX11_tempers 85 = .ok (.iload 5, 2) := by decide +kernel
theorem dX11_tempers_87 : decode cX11_tempers 87 = .ok (.ireturn, 1) := by decide +kernel
theorem dX11_trial_0 : decode cX11_trial 0 = .ok (.iload_n 2, 1) := by decide +kernel
theorem dX11_trial_1 : decode cX11_trial 1 = .ok (.iconst (-1), 1) := by decide +kernel
theorem dX11_trial_2 : decode cX11_trial 2 = .ok (.if_icmp .eq 8, 3) := by decide +kernel
theorem dX11_trial_5 : decode cX11_trial 5 = .ok (.aload_n 0, 1) := by decide +kernel
theorem dX11_trial_6 : decode cX11_trial 6 = .ok (.iload_n 2, 1) := by decide +kernel
theorem dX11_trial_7 : decode cX11_trial 7 = .ok (.invokevirtual 269, 3) := by decide +kernel
theorem dX11_trial_10 : decode cX11_trial 10 = .ok (.iload_n 1, 1) := by decide +kernel
theorem dX11_trial_11 : decode cX11_trial 11 = .ok (.iconst 0, 1) := by decide +kernel
theorem dX11_trial_12 : decode cX11_trial 12 = .ok (.invokestatic 285, 3) := by decide +kernel
theorem dX11_trial_15 : decode cX11_trial 15 = .ok (.aload_n 0, 1) := by decide +kernel
theorem dX11_trial_16 : decode cX11_trial 16 = .ok (.iload_n 1, 1) := by decide +kernel
theorem dX11_trial_17 : decode cX11_trial 17 = .ok (.aload_n 0, 1) := by decide +kernel
theorem dX11_trial_18 : decode cX11_trial 18 = .ok (.getfield 20, 3) := by decide +kernel
theorem dX11_trial_21 : decode cX11_trial 21 = .ok (.getfield 182, 3) := by decide +kernel
theorem dX11_trial_24 : decode cX11_trial 24 = .ok (.getfield 381, 3) := by decide +kernel
theorem dX11_trial_27 : decode cX11_trial 27 = .ok (.invokevirtual 384, 3) := by decide +kernel
theorem dX11_trial_30 : decode cX11_trial 30 = .ok (.iload_n 2, 1) := by decide +kernel
theorem dX11_trial_31 : decode cX11_trial 31 = .ok (.ifCond .ge 13, 3) := by decide +kernel
theorem dX11_trial_34 : decode cX11_trial 34 = .ok (.aload_n 0, 1) := by decide +kernel
theorem dX11_trial_35 : decode cX11_trial 35 = .ok (.getfield 61, 3) := by decide +kernel
theorem dX11_trial_38 : decode cX11_trial 38 = .ok (.invokevirtual 387, 3) := by decide +kernel
theorem dX11_trial_41 : decode cX11_trial 41 = .ok (.goto 15, 3) := by decide +kernel
theorem dX11_trial_44 : decode cX11_trial 44 = .ok (.aload_n 0, 1) := by decide +kernel
theorem dX11_trial_45 : decode cX11_trial 45 = .ok (.getfield 61, 3) := by decide +kernel
theorem dX11_trial_48 : decode cX11_trial 48 = .ok (.getfield 242, 3) := by decide +kernel
theorem dX11_trial_51 : decode cX11_trial 51 = .ok (.iload_n 2, 1) := by decide +kernel
theorem dX11_trial_52 : decode cX11_trial 52 = .ok (.aaload, 1) := by decide +kernel
theorem dX11_trial_53 : decode cX11_trial 53 = .ok (.invokevirtual 178, 3) := by decide +kernel
theorem dX11_trial_56 : decode cX11_trial 56 = .ok (.ireturn, 1) := by decide +kernel
theorem dX11_span_0 : decode cX11_span 0 = .ok (.iload_n 1, 1) := by decide +kernel
theorem dX11_span_1 : decode cX11_span 1 = .ok (.iconst 0, 1) := by decide +kernel
theorem dX11_span_2 : decode cX11_span 2 = .ok (.invokestatic 285, 3) := by decide +kernel
theorem dX11_span_5 : decode cX11_span 5 = .ok (.sipush 192, 3) := by decide +kernel
theorem dX11_span_8 : decode cX11_span 8 = .ok (.istore_n 3, 1) := by decide +kernel
theorem dX11_span_9 : decode cX11_span 9 = .ok (.iconst 0, 1) := by decide +kernel
theorem dX11_span_10 : decode cX11_span 10 = .ok (.istore 4, 2) := by decide +kernel
theorem dX11_span_12 : decode cX11_span 12 = .ok (.iconst 1, 1) := by decide +kernel
theorem dX11_span_13 : decode cX11_span 13 = .ok (.istore 5, 2) := by decide +kernel
theorem dX11_span_15 : decode cX11_span 15 = .ok (.iload 5, 2) := by decide +kernel
theorem dX11_span_17 : decode cX11_span 17 = .ok (.bipush 6, 2) := by decide +kernel
theorem dX11_span_19 : decode cX11_span 19 = .ok (.if_icmp .gt 41, 3) := by decide +kernel
theorem dX11_span_22 : decode cX11_span 22 = .ok (.aload_n 0, 1) := by decide +kernel
theorem dX11_span_23 : decode cX11_span 23 = .ok (.iload_n 1, 1) := by decide +kernel
theorem dX11_span_24 : decode cX11_span 24 = .ok (.iload 5, 2) := by decide +kernel
theorem dX11_span_26 : decode cX11_span 26 = .ok (.invokevirtual 384, 3) := by decide +kernel
theorem dX11_span_29 : decode cX11_span 29 = .ok (.aload_n 0, 1) := by decide +kernel
theorem dX11_span_30 : decode cX11_span 30 = .ok (.getfield 61, 3) := by decide +kernel
theorem dX11_span_33 : decode cX11_span 33 = .ok (.invokevirtual 387, 3) := by decide +kernel
theorem dX11_span_36 : decode cX11_span 36 = .ok (.istore 6, 2) := by decide +kernel
theorem dX11_span_38 : decode cX11_span 38 = .ok (.iload_n 3, 1) := by decide +kernel
theorem dX11_span_39 : decode cX11_span 39 = .ok (.iload 6, 2) := by decide +kernel
theorem dX11_span_41 : decode cX11_span 41 = .ok (.invokestatic 390, 3) := by decide +kernel
theorem dX11_span_44 : decode cX11_span 44 = .ok (.istore_n 3, 1) := by decide +kernel
theorem dX11_span_45 : decode cX11_span 45 = .ok (.iload 4, 2) := by decide +kernel
theorem dX11_span_47 : decode cX11_span 47 = .ok (.iload 6, 2) := by decide +kernel
theorem dX11_span_49 : decode cX11_span 49 = .ok (.invokestatic 362, 3) := by decide +kernel
theorem dX11_span_52 : decode cX11_span 52 = .ok (.istore 4, 2) := by decide +kernel
theorem dX11_span_54 : decode cX11_span 54 = .ok (.iinc 5 1, 3) := by decide +kernel
theorem dX11_span_57 : decode cX11_span 57 = .ok (.goto (-42), 3) := by decide +kernel
theorem dX11_span_60 : decode cX11_span 60 = .ok (.iload_n 2, 1) := by decide +kernel
theorem dX11_span_61 : decode cX11_span 61 = .ok (.ifCond .eq 8, 3) := by decide +kernel
theorem dX11_span_64 : decode cX11_span 64 = .ok (.iload 4, 2) := by decide +kernel
theorem dX11_span_66 : decode cX11_span 66 = .ok (.goto 4, 3) := by decide +kernel
theorem dX11_span_69 : decode cX11_span 69 = .ok (.iload_n 3, 1) := by decide +kernel
theorem dX11_span_70 : decode cX11_span 70 = .ok (.ireturn, 1) := by decide +kernel
theorem dX11_latest_0 : decode cX11_latest 0 = .ok (.iconst 0, 1) := by decide +kernel
theorem dX11_latest_1 : decode cX11_latest 1 = .ok (.istore_n 2, 1) := by decide +kernel
theorem dX11_latest_2 : decode cX11_latest 2 = .ok (.iconst (-1), 1) := by decide +kernel
theorem dX11_latest_3 : decode cX11_latest 3 = .ok (.istore_n 3, 1) := by decide +kernel
theorem dX11_latest_4 : decode cX11_latest 4 = .ok (.iconst 0, 1) := by decide +kernel
theorem dX11_latest_5 : decode cX11_latest 5 = .ok (.istore 4, 2) := by decide +kernel
theorem dX11_latest_7 : decode cX11_latest 7 = .ok (.iload 4, 2) := by decide +kernel
theorem dX11_latest_9 : decode cX11_latest 9 = .ok (.aload_n 0, 1) := by decide +kernel
theorem dX11_latest_10 : decode cX11_latest 10 = .ok (.getfield 20, 3) := by decide +kernel
theorem dX11_latest_13 : decode cX11_latest 13 = .ok (.getfield 182, 3) := by decide +kernel
theorem dX11_latest_16 : decode cX11_latest 16 = .ok (.getfield 235, 3) := by decide +kernel
theorem dX11_latest_19 : decode cX11_latest 19 = .ok (.if_icmp .ge 40, 3) := by decide +kernel
theorem dX11_latest_22 : decode cX11_latest 22 = .ok (.aload_n 0, 1) := by decide +kernel
theorem dX11_latest_23 : decode cX11_latest 23 = .ok (.getfield 20, 3) := by decide +kernel
theorem dX11_latest_26 : decode cX11_latest 26 = .ok (.getfield 182, 3) := by decide +kernel
theorem dX11_latest_29 : decode cX11_latest 29 = .ok (.getfield 242, 3) := by decide +kernel
theorem dX11_latest_32 : decode cX11_latest 32 = .ok (.iload 4, 2) := by decide +kernel
theorem dX11_latest_34 : decode cX11_latest 34 = .ok (.aaload, 1) := by decide +kernel
theorem dX11_latest_35 : decode cX11_latest 35 = .ok (.iload_n 1, 1) := by decide +kernel
theorem dX11_latest_36 : decode cX11_latest 36 = .ok (.invokevirtual 393, 3) := by decide +kernel
theorem dX11_latest_39 : decode cX11_latest 39 = .ok (.istore 5, 2) := by decide +kernel
theorem dX11_latest_41 : decode cX11_latest 41 = .ok (.iload 5, 2) := by decide +kernel
theorem dX11_latest_43 : decode cX11_latest 43 = .ok (.iload_n 2, 1) := by decide +kernel
theorem dX11_latest_44 : decode cX11_latest 44 = .ok (.if_icmp .le 9, 3) := by decide +kernel
theorem dX11_latest_47 : decode cX11_latest 47 = .ok (.iload 5, 2) := by decide +kernel
theorem dX11_latest_49 : decode cX11_latest 49 = .ok (.istore_n 2, 1) := by decide +kernel
theorem dX11_latest_50 : decode cX11_latest 50 = .ok (.iload 4, 2) := by decide +kernel
theorem dX11_latest_52 : decode cX11_latest 52 = .ok (.istore_n 3, 1) := by decide +kernel
theorem dX11_latest_53 : decode cX11_latest 53 = .ok (.iinc 4 1, 3) := by decide +kernel
theorem dX11_latest_56 : decode cX11_latest 56 = .ok (.goto (-49), 3) := by decide +kernel
theorem dX11_latest_59 : decode cX11_latest 59 = .ok (.iload_n 3, 1) := by decide +kernel
theorem dX11_latest_60 : decode cX11_latest 60 = .ok (.ireturn, 1) := by decide +kernel
theorem dX11_seed_0 : decode cX11_seed 0 = .ok (.aload_n 0, 1) := by decide +kernel
theorem dX11_seed_1 : decode cX11_seed 1 = .ok (.getfield 20, 3) := by decide +kernel
theorem dX11_seed_4 : decode cX11_seed 4 = .ok (.getfield 182, 3) := by decide +kernel
theorem dX11_seed_7 : decode cX11_seed 7 = .ok (.getfield 381, 3) := by decide +kernel
theorem dX11_seed_10 : decode cX11_seed 10 = .ok (.istore_n 2, 1) := by decide +kernel
theorem dX11_seed_11 : decode cX11_seed 11 = .ok (.aload_n 0, 1) := by decide +kernel
theorem dX11_seed_12 : decode cX11_seed 12 = .ok (.getfield 20, 3) := by decide +kernel
theorem dX11_seed_15 : decode cX11_seed 15 = .ok (.getfield 182, 3) := by decide +kernel
theorem dX11_seed_18 : decode cX11_seed 18 = .ok (.iload_n 1, 1) := by decide +kernel
theorem dX11_seed_19 : decode cX11_seed 19 = .ok (.putfield 381, 3) := by decide +kernel
theorem dX11_seed_22 : decode cX11_seed 22 = .ok (.iload_n 2, 1) := by decide +kernel
theorem dX11_seed_23 : decode cX11_seed 23 = .ok (.ireturn, 1) := by decide +kernel
theorem dX11_undo_0 : decode cX11_undo 0 = .ok (.aload_n 0, 1) := by decide +kernel
theorem dX11_undo_1 : decode cX11_undo 1 = .ok (.getfield 30, 3) := by decide +kernel
theorem dX11_undo_4 : decode cX11_undo 4 = .ok (.aload_n 0, 1) := by decide +kernel
theorem dX11_undo_5 : decode cX11_undo 5 = .ok (.getfield 20, 3) := by decide +kernel
theorem dX11_undo_8 : decode cX11_undo 8 = .ok (.getfield 182, 3) := by decide +kernel
theorem dX11_undo_11 : decode cX11_undo 11 = .ok (.invokevirtual 396, 3) := by decide +kernel
theorem dX11_undo_14 : decode cX11_undo 14 = .ok (.ireturn, 1) := by decide +kernel
theorem dX11_image_0 : decode cX11_image 0 = .ok (.aload_n 0, 1) := by decide +kernel
theorem dX11_image_1 : decode cX11_image 1 = .ok (.getfield 24, 3) := by decide +kernel
theorem dX11_image_4 : decode cX11_image 4 = .ok (.aload_n 0, 1) := by decide +kernel
theorem dX11_image_5 : decode cX11_image 5 = .ok (.getfield 20, 3) := by decide +kernel
theorem dX11_image_8 : decode cX11_image 8 = .ok (.invokevirtual 90, 3) := by decide +kernel
theorem dX11_image_11 : decode cX11_image 11 = .ok (.aload_n 0, 1) := by decide +kernel
theorem dX11_image_12 : decode cX11_image 12 = .ok (.iconst 1, 1) := by decide +kernel
theorem dX11_image_13 : decode cX11_image 13 = .ok (.putfield 400, 3) := by decide +kernel
theorem dX11_image_16 : decode cX11_image 16 = .ok (.return_, 1) := by decide +kernel
theorem dX11_back_0 : decode cX11_back 0 = .ok (.aload_n 0, 1) := by decide +kernel
theorem dX11_back_1 : decode cX11_back 1 = .ok (.getfield 400, 3) := by decide +kernel
theorem dX11_back_4 : decode cX11_back 4 = .ok (.ifCond .ne 5, 3) := by decide +kernel
theorem dX11_back_7 : decode cX11_back 7 = .ok (.iconst 0, 1) := by decide +kernel
theorem dX11_back_8 : decode cX11_back 8 = .ok (.ireturn, 1) := by decide +kernel
theorem dX11_back_9 : decode cX11_back 9 = .ok (.aload_n 0, 1) := by decide +kernel
theorem dX11_back_10 : decode cX11_back 10 = .ok (.getfield 20, 3) := by decide +kernel
theorem dX11_back_13 : decode cX11_back 13 = .ok (.aload_n 0, 1) := by decide +kernel
theorem dX11_back_14 : decode cX11_back 14 = .ok (.getfield 24, 3) := by decide +kernel
theorem dX11_back_17 : decode cX11_back 17 = .ok (.invokevirtual 90, 3) := by decide +kernel
theorem dX11_back_20 : decode cX11_back 20 = .ok (.aload_n 0, 1) := by decide +kernel
theorem dX11_back_21 : decode cX11_back 21 = .ok (.getfield 30, 3) := by decide +kernel
theorem dX11_back_24 : decode cX11_back 24 = .ok (.invokevirtual 125, 3) := by decide +kernel
theorem dX11_back_27 : decode cX11_back 27 = .ok (.iconst 1, 1) := by decide +kernel
theorem dX11_back_28 : decode cX11_back 28 = .ok (.ireturn, 1) := by decide +kernel
theorem dX11_count_0 : decode cX11_count 0 = .ok (.iload_n 1, 1) := by decide +kernel
theorem dX11_count_1 : decode cX11_count 1 = .ok (.tableswitch 185 0 10 #[59, 70, 78, 86, 114, 125, 133, 144, 155, 166, 177], 59) := by decide +kernel
theorem dX11_count_60 : decode cX11_count 60 = .ok (.aload_n 0, 1) := by decide +kernel
theorem dX11_count_61 : decode cX11_count 61 = .ok (.getfield 20, 3) := by decide +kernel
theorem dX11_count_64 : decode cX11_count 64 = .ok (.getfield 182, 3) := by decide +kernel
theorem dX11_count_67 : decode cX11_count 67 = .ok (.getfield 235, 3) := by decide +kernel
theorem dX11_count_70 : decode cX11_count 70 = .ok (.ireturn, 1) := by decide +kernel
theorem dX11_count_71 : decode cX11_count 71 = .ok (.aload_n 0, 1) := by decide +kernel
theorem dX11_count_72 : decode cX11_count 72 = .ok (.getfield 20, 3) := by decide +kernel
theorem dX11_count_75 : decode cX11_count 75 = .ok (.getfield 403, 3) := by decide +kernel
theorem dX11_count_78 : decode cX11_count 78 = .ok (.ireturn, 1) := by decide +kernel
theorem dX11_count_79 : decode cX11_count 79 = .ok (.aload_n 0, 1) := by decide +kernel
theorem dX11_count_80 : decode cX11_count 80 = .ok (.getfield 20, 3) := by decide +kernel
theorem dX11_count_83 : decode cX11_count 83 = .ok (.getfield 117, 3) := by decide +kernel
theorem dX11_count_86 : decode cX11_count 86 = .ok (.ireturn, 1) := by decide +kernel
theorem dX11_count_87 : decode cX11_count 87 = .ok (.aload_n 0, 1) := by decide +kernel
theorem dX11_count_88 : decode cX11_count 88 = .ok (.getfield 20, 3) := by decide +kernel
theorem dX11_count_91 : decode cX11_count 91 = .ok (.getfield 144, 3) := by decide +kernel
theorem dX11_count_94 : decode cX11_count 94 = .ok (.getfield 140, 3) := by decide +kernel
theorem dX11_count_97 : decode cX11_count 97 = .ok (.ifCond .eq 16, 3) := by decide +kernel
theorem dX11_count_100 : decode cX11_count 100 = .ok (.aload_n 0, 1) := by decide +kernel
theorem dX11_count_101 : decode cX11_count 101 = .ok (.getfield 20, 3) := by decide +kernel
theorem dX11_count_104 : decode cX11_count 104 = .ok (.getfield 144, 3) := by decide +kernel
theorem dX11_count_107 : decode cX11_count 107 = .ok (.getfield 150, 3) := by decide +kernel
theorem dX11_count_110 : decode cX11_count 110 = .ok (.goto 4, 3) := by decide +kernel
theorem dX11_count_113 : decode cX11_count 113 = .ok (.iconst (-1), 1) := by decide +kernel
theorem dX11_count_114 : decode cX11_count 114 = .ok (.ireturn, 1) := by decide +kernel
theorem dX11_count_115 : decode cX11_count 115 = .ok (.aload_n 0, 1) := by decide +kernel
theorem dX11_count_116 : decode cX11_count 116 = .ok (.getfield 20, 3) := by decide +kernel
theorem dX11_count_119 : decode cX11_count 119 = .ok (.getfield 182, 3) := by decide +kernel
theorem dX11_count_122 : decode cX11_count 122 = .ok (.getfield 185, 3) := by decide +kernel
theorem dX11_count_125 : decode cX11_count 125 = .ok (.ireturn, 1) := by decide +kernel
theorem dX11_count_126 : decode cX11_count 126 = .ok (.aload_n 0, 1) := by decide +kernel
theorem dX11_count_127 : decode cX11_count 127 = .ok (.getfield 20, 3) := by decide +kernel
theorem dX11_count_130 : decode cX11_count 130 = .ok (.getfield 275, 3) := by decide +kernel
theorem dX11_count_133 : decode cX11_count 133 = .ok (.ireturn, 1) := by decide +kernel
theorem dX11_count_134 : decode cX11_count 134 = .ok (.aload_n 0, 1) := by decide +kernel
theorem dX11_count_135 : decode cX11_count 135 = .ok (.getfield 20, 3) := by decide +kernel
theorem dX11_count_138 : decode cX11_count 138 = .ok (.getfield 182, 3) := by decide +kernel
theorem dX11_count_141 : decode cX11_count 141 = .ok (.invokevirtual 387, 3) := by decide +kernel
theorem dX11_count_144 : decode cX11_count 144 = .ok (.ireturn, 1) := by decide +kernel
theorem dX11_count_145 : decode cX11_count 145 = .ok (.aload_n 0, 1) := by decide +kernel
theorem dX11_count_146 : decode cX11_count 146 = .ok (.getfield 20, 3) := by decide +kernel
theorem dX11_count_149 : decode cX11_count 149 = .ok (.getfield 182, 3) := by decide +kernel
theorem dX11_count_152 : decode cX11_count 152 = .ok (.invokevirtual 406, 3) := by decide +kernel
theorem dX11_count_155 : decode cX11_count 155 = .ok (.ireturn, 1) := by decide +kernel
theorem dX11_count_156 : decode cX11_count 156 = .ok (.aload_n 0, 1) := by decide +kernel
theorem dX11_count_157 : decode cX11_count 157 = .ok (.getfield 20, 3) := by decide +kernel
theorem dX11_count_160 : decode cX11_count 160 = .ok (.getfield 182, 3) := by decide +kernel
theorem dX11_count_163 : decode cX11_count 163 = .ok (.invokevirtual 409, 3) := by decide +kernel
theorem dX11_count_166 : decode cX11_count 166 = .ok (.ireturn, 1) := by decide +kernel
theorem dX11_count_167 : decode cX11_count 167 = .ok (.aload_n 0, 1) := by decide +kernel
theorem dX11_count_168 : decode cX11_count 168 = .ok (.getfield 20, 3) := by decide +kernel
theorem dX11_count_171 : decode cX11_count 171 = .ok (.getfield 182, 3) := by decide +kernel
theorem dX11_count_174 : decode cX11_count 174 = .ok (.getfield 282, 3) := by decide +kernel
theorem dX11_count_177 : decode cX11_count 177 = .ok (.ireturn, 1) := by decide +kernel
theorem dX11_count_178 : decode cX11_count 178 = .ok (.aload_n 0, 1) := by decide +kernel
theorem dX11_count_179 : decode cX11_count 179 = .ok (.getfield 30, 3) := by decide +kernel
theorem dX11_count_182 : decode cX11_count 182 = .ok (.getfield 412, 3) := by decide +kernel
theorem dX11_count_185 : decode cX11_count 185 = .ok (.ireturn, 1) := by decide +kernel
theorem dX11_count_186 : decode cX11_count 186 = .ok (.iconst (-1), 1) := by decide +kernel
theorem dX11_count_187 : decode cX11_count 187 = .ok (.ireturn, 1) := by decide +kernel
theorem dX11_putBytes_0 : decode cX11_putBytes 0 = .ok (.bipush 24, 2) := by decide +kernel
theorem dX11_putBytes_2 : decode cX11_putBytes 2 = .ok (.istore_n 2, 1) := by decide +kernel
theorem dX11_putBytes_3 : decode cX11_putBytes 3 = .ok (.iload_n 2, 1) := by decide +kernel
theorem dX11_putBytes_4 : decode cX11_putBytes 4 = .ok (.ifCond .lt 45, 3) := by decide +kernel
theorem dX11_putBytes_7 : decode cX11_putBytes 7 = .ok (.aload_n 0, 1) := by decide +kernel
theorem dX11_putBytes_8 : decode cX11_putBytes 8 = .ok (.getfield 80, 3) := by decide +kernel
theorem dX11_putBytes_11 : decode cX11_putBytes 11 = .ok (.sipush 400, 3) := by decide +kernel
theorem dX11_putBytes_14 : decode cX11_putBytes 14 = .ok (.if_icmp .ge 29, 3) := by decide +kernel
theorem dX11_putBytes_17 : decode cX11_putBytes 17 = .ok (.aload_n 0, 1) := by decide +kernel
theorem dX11_putBytes_18 : decode cX11_putBytes 18 = .ok (.getfield 9, 3) := by decide +kernel
theorem dX11_putBytes_21 : decode cX11_putBytes 21 = .ok (.aload_n 0, 1) := by decide +kernel
theorem dX11_putBytes_22 : decode cX11_putBytes 22 = .ok (.getfield 80, 3) := by decide +kernel
theorem dX11_putBytes_25 : decode cX11_putBytes 25 = .ok (.iload_n 1, 1) := by decide +kernel
theorem dX11_putBytes_26 : decode cX11_putBytes 26 = .ok (.iload_n 2, 1) := by decide +kernel
theorem dX11_putBytes_27 : decode cX11_putBytes 27 = .ok (.iushr, 1) := by decide +kernel
theorem dX11_putBytes_28 : decode cX11_putBytes 28 = .ok (.sipush 255, 3) := by decide +kernel
theorem dX11_putBytes_31 : decode cX11_putBytes 31 = .ok (.iand, 1) := by decide +kernel
theorem dX11_putBytes_32 : decode cX11_putBytes 32 = .ok (.iastore, 1) := by decide +kernel
theorem dX11_putBytes_33 : decode cX11_putBytes 33 = .ok (.aload_n 0, 1) := by decide +kernel
theorem dX11_putBytes_34 : decode cX11_putBytes 34 = .ok (.dup, 1) := by decide +kernel
theorem dX11_putBytes_35 : decode cX11_putBytes 35 = .ok (.getfield 80, 3) := by decide +kernel
theorem dX11_putBytes_38 : decode cX11_putBytes 38 = .ok (.iconst 1, 1) := by decide +kernel
theorem dX11_putBytes_39 : decode cX11_putBytes 39 = .ok (.iadd, 1) := by decide +kernel
theorem dX11_putBytes_40 : decode cX11_putBytes 40 = .ok (.putfield 80, 3) := by decide +kernel
theorem dX11_putBytes_43 : decode cX11_putBytes 43 = .ok (.iinc 2 (-8), 3) := by decide +kernel
theorem dX11_putBytes_46 : decode cX11_putBytes 46 = .ok (.goto (-43), 3) := by decide +kernel
theorem dX11_putBytes_49 : decode cX11_putBytes 49 = .ok (.return_, 1) := by decide +kernel
theorem dX11_endReading_0 : decode cX11_endReading 0 = .ok (.aload_n 0, 1) := by decide +kernel
theorem dX11_endReading_1 : decode cX11_endReading 1 = .ok (.iconst 0, 1) := by decide +kernel
theorem dX11_endReading_2 : decode cX11_endReading 2 = .ok (.putfield 80, 3) := by decide +kernel
theorem dX11_endReading_5 : decode cX11_endReading 5 = .ok (.aload_n 0, 1) := by decide +kernel
theorem dX11_endReading_6 : decode cX11_endReading 6 = .ok (.iload_n 1, 1) := by decide +kernel
theorem dX11_endReading_7 : decode cX11_endReading 7 = .ok (.putfield 13, 3) := by decide +kernel
theorem dX11_endReading_10 : decode cX11_endReading 10 = .ok (.return_, 1) := by decide +kernel
theorem dX11_areKinds_0 : decode cX11_areKinds 0 = .ok (.iload_n 1, 1) := by decide +kernel
theorem dX11_areKinds_1 : decode cX11_areKinds 1 = .ok (.iconst 1, 1) := by decide +kernel
theorem dX11_areKinds_2 : decode cX11_areKinds 2 = .ok (.if_icmp .lt 9, 3) := by decide +kernel
theorem dX11_areKinds_5 : decode cX11_areKinds 5 = .ok (.iload_n 1, 1) := by decide +kernel
theorem dX11_areKinds_6 : decode cX11_areKinds 6 = .ok (.bipush 24, 2) := by decide +kernel
theorem dX11_areKinds_8 : decode cX11_areKinds 8 = .ok (.if_icmp .le 5, 3) := by decide +kernel
theorem dX11_areKinds_11 : decode cX11_areKinds 11 = .ok (.iconst 0, 1) := by decide +kernel
theorem dX11_areKinds_12 : decode cX11_areKinds 12 = .ok (.ireturn, 1) := by decide +kernel
theorem dX11_areKinds_13 : decode cX11_areKinds 13 = .ok (.iconst 0, 1) := by decide +kernel
theorem dX11_areKinds_14 : decode cX11_areKinds 14 = .ok (.istore_n 2, 1) := by decide +kernel
theorem dX11_areKinds_15 : decode cX11_areKinds 15 = .ok (.iload_n 2, 1) := by decide +kernel
theorem dX11_areKinds_16 : decode cX11_areKinds 16 = .ok (.iload_n 1, 1) := by decide +kernel
theorem dX11_areKinds_17 : decode cX11_areKinds 17 = .ok (.if_icmp .ge 31, 3) := by decide +kernel
theorem dX11_areKinds_20 : decode cX11_areKinds 20 = .ok (.aload_n 0, 1) := by decide +kernel
theorem dX11_areKinds_21 : decode cX11_areKinds 21 = .ok (.getfield 9, 3) := by decide +kernel
theorem dX11_areKinds_24 : decode cX11_areKinds 24 = .ok (.iload_n 2, 1) := by decide +kernel
theorem dX11_areKinds_25 : decode cX11_areKinds 25 = .ok (.iaload, 1) := by decide +kernel
theorem dX11_areKinds_26 : decode cX11_areKinds 26 = .ok (.ifCond .lt 14, 3) := by decide +kernel
theorem dX11_areKinds_29 : decode cX11_areKinds 29 = .ok (.aload_n 0, 1) := by decide +kernel
theorem dX11_areKinds_30 : decode cX11_areKinds 30 = .ok (.getfield 9, 3) := by decide +kernel
theorem dX11_areKinds_33 : decode cX11_areKinds 33 = .ok (.iload_n 2, 1) := by decide +kernel
theorem dX11_areKinds_34 : decode cX11_areKinds 34 = .ok (.iaload, 1) := by decide +kernel
theorem dX11_areKinds_35 : decode cX11_areKinds 35 = .ok (.bipush 12, 2) := by decide +kernel
theorem dX11_areKinds_37 : decode cX11_areKinds 37 = .ok (.if_icmp .lt 5, 3) := by decide +kernel
theorem dX11_areKinds_40 : decode cX11_areKinds 40 = .ok (.iconst 0, 1) := by decide +kernel
theorem dX11_areKinds_41 : decode cX11_areKinds 41 = .ok (.ireturn, 1) := by decide +kernel
theorem dX11_areKinds_42 : decode cX11_areKinds 42 = .ok (.iinc 2 1, 3) := by decide +kernel
theorem dX11_areKinds_45 : decode cX11_areKinds 45 = .ok (.goto (-30), 3) := by decide +kernel
theorem dX11_areKinds_48 : decode cX11_areKinds 48 = .ok (.iconst 1, 1) := by decide +kernel
theorem dX11_areKinds_49 : decode cX11_areKinds 49 = .ok (.ireturn, 1) := by decide +kernel
theorem dX11_mailOf_0 : decode cX11_mailOf 0 = .ok (.aload_n 0, 1) := by decide +kernel
theorem dX11_mailOf_1 : decode cX11_mailOf 1 = .ok (.iload_n 1, 1) := by decide +kernel
theorem dX11_mailOf_2 : decode cX11_mailOf 2 = .ok (.invokevirtual 269, 3) := by decide +kernel
theorem dX11_mailOf_5 : decode cX11_mailOf 5 = .ok (.aload_n 0, 1) := by decide +kernel
theorem dX11_mailOf_6 : decode cX11_mailOf 6 = .ok (.getfield 20, 3) := by decide +kernel
theorem dX11_mailOf_9 : decode cX11_mailOf 9 = .ok (.getfield 182, 3) := by decide +kernel
theorem dX11_mailOf_12 : decode cX11_mailOf 12 = .ok (.getfield 242, 3) := by decide +kernel
theorem dX11_mailOf_15 : decode cX11_mailOf 15 = .ok (.iload_n 1, 1) := by decide +kernel
theorem dX11_mailOf_16 : decode cX11_mailOf 16 = .ok (.aaload, 1) := by decide +kernel
theorem dX11_mailOf_17 : decode cX11_mailOf 17 = .ok (.areturn, 1) := by decide +kernel
theorem dX11_needLetter_0 : decode cX11_needLetter 0 = .ok (.iload_n 1, 1) := by decide +kernel
theorem dX11_needLetter_1 : decode cX11_needLetter 1 = .ok (.ifCond .lt 17, 3) := by decide +kernel
theorem dX11_needLetter_4 : decode cX11_needLetter 4 = .ok (.iload_n 1, 1) := by decide +kernel
theorem dX11_needLetter_5 : decode cX11_needLetter 5 = .ok (.aload_n 0, 1) := by decide +kernel
theorem dX11_needLetter_6 : decode cX11_needLetter 6 = .ok (.getfield 20, 3) := by decide +kernel
theorem dX11_needLetter_9 : decode cX11_needLetter 9 = .ok (.getfield 182, 3) := by decide +kernel
theorem dX11_needLetter_12 : decode cX11_needLetter 12 = .ok (.getfield 235, 3) := by decide +kernel
theorem dX11_needLetter_15 : decode cX11_needLetter 15 = .ok (.if_icmp .lt 14, 3) := by decide +kernel
theorem dX11_needLetter_18 : decode cX11_needLetter 18 = .ok (.new 413, 3) := by decide +kernel
theorem dX11_needLetter_21 : decode cX11_needLetter 21 = .ok (.dup, 1) := by decide +kernel
theorem dX11_needLetter_22 : decode cX11_needLetter 22 = .ok (.ldc_w 415, 3) := by decide +kernel
theorem dX11_needLetter_25 : decode cX11_needLetter 25 = .ok (.invokespecial 417, 3) := by decide +kernel
theorem dX11_needLetter_28 : decode cX11_needLetter 28 = .ok (.athrow, 1) := by decide +kernel
theorem dX11_needLetter_29 : decode cX11_needLetter 29 = .ok (.return_, 1) := by decide +kernel
theorem dX11_needLine_0 : decode cX11_needLine 0 = .ok (.iload_n 1, 1) := by decide +kernel
theorem dX11_needLine_1 : decode cX11_needLine 1 = .ok (.ifCond .lt 11, 3) := by decide +kernel
theorem dX11_needLine_4 : decode cX11_needLine 4 = .ok (.iload_n 1, 1) := by decide +kernel
theorem dX11_needLine_5 : decode cX11_needLine 5 = .ok (.aload_n 0, 1) := by decide +kernel
theorem dX11_needLine_6 : decode cX11_needLine 6 = .ok (.getfield 157, 3) := by decide +kernel
theorem dX11_needLine_9 : decode cX11_needLine 9 = .ok (.if_icmp .lt 14, 3) := by decide +kernel
theorem dX11_needLine_12 : decode cX11_needLine 12 = .ok (.new 413, 3) := by decide +kernel
theorem dX11_needLine_15 : decode cX11_needLine 15 = .ok (.dup, 1) := by decide +kernel
theorem dX11_needLine_16 : decode cX11_needLine 16 = .ok (.ldc_w 418, 3) := by decide +kernel
theorem dX11_needLine_19 : decode cX11_needLine 19 = .ok (.invokespecial 417, 3) := by decide +kernel
theorem dX11_needLine_22 : decode cX11_needLine 22 = .ok (.athrow, 1) := by decide +kernel
theorem dX11_needLine_23 : decode cX11_needLine 23 = .ok (.return_, 1) := by decide +kernel
theorem dX11_needKind_0 : decode cX11_needKind 0 = .ok (.iload_n 0, 1) := by decide +kernel
theorem dX11_needKind_1 : decode cX11_needKind 1 = .ok (.ifCond .lt 9, 3) := by decide +kernel
theorem dX11_needKind_4 : decode cX11_needKind 4 = .ok (.iload_n 0, 1) := by decide +kernel
theorem dX11_needKind_5 : decode cX11_needKind 5 = .ok (.bipush 12, 2) := by decide +kernel
theorem dX11_needKind_7 : decode cX11_needKind 7 = .ok (.if_icmp .lt 14, 3) := by decide +kernel
theorem dX11_needKind_10 : decode cX11_needKind 10 = .ok (.new 413, 3) := by decide +kernel
theorem dX11_needKind_13 : decode cX11_needKind 13 = .ok (.dup, 1) := by decide +kernel
theorem dX11_needKind_14 : decode cX11_needKind 14 = .ok (.ldc_w 420, 3) := by decide +kernel
theorem dX11_needKind_17 : decode cX11_needKind 17 = .ok (.invokespecial 417, 3) := by decide +kernel
theorem dX11_needKind_20 : decode cX11_needKind 20 = .ok (.athrow, 1) := by decide +kernel
theorem dX11_needKind_21 : decode cX11_needKind 21 = .ok (.return_, 1) := by decide +kernel
theorem dX11_needPromise_0 : decode cX11_needPromise 0 = .ok (.iload_n 1, 1) := by decide +kernel
theorem dX11_needPromise_1 : decode cX11_needPromise 1 = .ok (.ifCond .lt 14, 3) := by decide +kernel
theorem dX11_needPromise_4 : decode cX11_needPromise 4 = .ok (.iload_n 1, 1) := by decide +kernel
theorem dX11_needPromise_5 : decode cX11_needPromise 5 = .ok (.aload_n 0, 1) := by decide +kernel
theorem dX11_needPromise_6 : decode cX11_needPromise 6 = .ok (.getfield 20, 3) := by decide +kernel
theorem dX11_needPromise_9 : decode cX11_needPromise 9 = .ok (.getfield 403, 3) := by decide +kernel
theorem dX11_needPromise_12 : decode cX11_needPromise 12 = .ok (.if_icmp .lt 14, 3) := by decide +kernel
theorem dX11_needPromise_15 : decode cX11_needPromise 15 = .ok (.new 413, 3) := by decide +kernel
theorem dX11_needPromise_18 : decode cX11_needPromise 18 = .ok (.dup, 1) := by decide +kernel
theorem dX11_needPromise_19 : decode cX11_needPromise 19 = .ok (.ldc_w 422, 3) := by decide +kernel
theorem dX11_needPromise_22 : decode cX11_needPromise 22 = .ok (.invokespecial 417, 3) := by decide +kernel
theorem dX11_needPromise_25 : decode cX11_needPromise 25 = .ok (.athrow, 1) := by decide +kernel
theorem dX11_needPromise_26 : decode cX11_needPromise 26 = .ok (.return_, 1) := by decide +kernel
theorem dX11_needAhead_0 : decode cX11_needAhead 0 = .ok (.iload_n 0, 1) := by decide +kernel
theorem dX11_needAhead_1 : decode cX11_needAhead 1 = .ok (.iload_n 1, 1) := by decide +kernel
theorem dX11_needAhead_2 : decode cX11_needAhead 2 = .ok (.if_icmp .lt 9, 3) := by decide +kernel
theorem dX11_needAhead_5 : decode cX11_needAhead 5 = .ok (.iload_n 0, 1) := by decide +kernel
theorem dX11_needAhead_6 : decode cX11_needAhead 6 = .ok (.bipush 40, 2) := by decide +kernel
theorem dX11_needAhead_8 : decode cX11_needAhead 8 = .ok (.if_icmp .le 14, 3) := by decide +kernel
theorem dX11_needAhead_11 : decode cX11_needAhead 11 = .ok (.new 110, 3) := by decide +kernel
theorem dX11_needAhead_14 : decode cX11_needAhead 14 = .ok (.dup, 1) := by decide +kernel
theorem dX11_needAhead_15 : decode cX11_needAhead 15 = .ok (.ldc_w 424, 3) := by decide +kernel
theorem dX11_needAhead_18 : decode cX11_needAhead 18 = .ok (.invokespecial 114, 3) := by decide +kernel
theorem dX11_needAhead_21 : decode cX11_needAhead 21 = .ok (.athrow, 1) := by decide +kernel
theorem dX11_needAhead_22 : decode cX11_needAhead 22 = .ok (.return_, 1) := by decide +kernel
theorem dX11_isNoDigit_0 : decode cX11_isNoDigit 0 = .ok (.iload_n 0, 1) := by decide +kernel
theorem dX11_isNoDigit_1 : decode cX11_isNoDigit 1 = .ok (.ifCond .lt 9, 3) := by decide +kernel
theorem dX11_isNoDigit_4 : decode cX11_isNoDigit 4 = .ok (.iload_n 0, 1) := by decide +kernel
theorem dX11_isNoDigit_5 : decode cX11_isNoDigit 5 = .ok (.bipush 10, 2) := by decide +kernel
theorem dX11_isNoDigit_7 : decode cX11_isNoDigit 7 = .ok (.if_icmp .lt 7, 3) := by decide +kernel
theorem dX11_isNoDigit_10 : decode cX11_isNoDigit 10 = .ok (.iconst 1, 1) := by decide +kernel
theorem dX11_isNoDigit_11 : decode cX11_isNoDigit 11 = .ok (.goto 4, 3) := by decide +kernel
theorem dX11_isNoDigit_14 : decode cX11_isNoDigit 14 = .ok (.iconst 0, 1) := by decide +kernel
theorem dX11_isNoDigit_15 : decode cX11_isNoDigit 15 = .ok (.ireturn, 1) := by decide +kernel
theorem dX11_needDigit_0 : decode cX11_needDigit 0 = .ok (.iload_n 0, 1) := by decide +kernel
theorem dX11_needDigit_1 : decode cX11_needDigit 1 = .ok (.invokestatic 230, 3) := by decide +kernel
theorem dX11_needDigit_4 : decode cX11_needDigit 4 = .ok (.ifCond .eq 14, 3) := by decide +kernel
theorem dX11_needDigit_7 : decode cX11_needDigit 7 = .ok (.new 110, 3) := by decide +kernel
theorem dX11_needDigit_10 : decode cX11_needDigit 10 = .ok (.dup, 1) := by decide +kernel
theorem dX11_needDigit_11 : decode cX11_needDigit 11 = .ok (.ldc_w 426, 3) := by decide +kernel
theorem dX11_needDigit_14 : decode cX11_needDigit 14 = .ok (.invokespecial 114, 3) := by decide +kernel
theorem dX11_needDigit_17 : decode cX11_needDigit 17 = .ok (.athrow, 1) := by decide +kernel
theorem dX11_needDigit_18 : decode cX11_needDigit 18 = .ok (.return_, 1) := by decide +kernel
theorem dX11_needTwo_0 : decode cX11_needTwo 0 = .ok (.iload_n 0, 1) := by decide +kernel
theorem dX11_needTwo_1 : decode cX11_needTwo 1 = .ok (.iload_n 1, 1) := by decide +kernel
theorem dX11_needTwo_2 : decode cX11_needTwo 2 = .ok (.if_icmp .ne 14, 3) := by decide +kernel
theorem dX11_needTwo_5 : decode cX11_needTwo 5 = .ok (.new 110, 3) := by decide +kernel
theorem dX11_needTwo_8 : decode cX11_needTwo 8 = .ok (.dup, 1) := by decide +kernel
theorem dX11_needTwo_9 : decode cX11_needTwo 9 = .ok (.ldc_w 428, 3) := by decide +kernel
theorem dX11_needTwo_12 : decode cX11_needTwo 12 = .ok (.invokespecial 114, 3) := by decide +kernel
theorem dX11_needTwo_15 : decode cX11_needTwo 15 = .ok (.athrow, 1) := by decide +kernel
theorem dX11_needTwo_16 : decode cX11_needTwo 16 = .ok (.return_, 1) := by decide +kernel
theorem dX11_seasonOf_0 : decode cX11_seasonOf 0 = .ok (.iload_n 0, 1) := by decide +kernel
theorem dX11_seasonOf_1 : decode cX11_seasonOf 1 = .ok (.bipush 13, 2) := by decide +kernel
theorem dX11_seasonOf_3 : decode cX11_seasonOf 3 = .ok (.idiv, 1) := by decide +kernel
theorem dX11_seasonOf_4 : decode cX11_seasonOf 4 = .ok (.iconst 4, 1) := by decide +kernel
theorem dX11_seasonOf_5 : decode cX11_seasonOf 5 = .ok (.irem, 1) := by decide +kernel
theorem dX11_seasonOf_6 : decode cX11_seasonOf 6 = .ok (.ireturn, 1) := by decide +kernel
theorem dX11_fillLastsAhead_0 : decode cX11_fillLastsAhead 0 = .ok (.iconst 0, 1) := by decide +kernel
theorem dX11_fillLastsAhead_1 : decode cX11_fillLastsAhead 1 = .ok (.istore_n 1, 1) := by decide +kernel
theorem dX11_fillLastsAhead_2 : decode cX11_fillLastsAhead 2 = .ok (.iload_n 1, 1) := by decide +kernel
theorem dX11_fillLastsAhead_3 : decode cX11_fillLastsAhead 3 = .ok (.aload_n 0, 1) := by decide +kernel
theorem dX11_fillLastsAhead_4 : decode cX11_fillLastsAhead 4 = .ok (.getfield 20, 3) := by decide +kernel
theorem dX11_fillLastsAhead_7 : decode cX11_fillLastsAhead 7 = .ok (.getfield 182, 3) := by decide +kernel
theorem dX11_fillLastsAhead_10 : decode cX11_fillLastsAhead 10 = .ok (.getfield 235, 3) := by decide +kernel
theorem dX11_fillLastsAhead_13 : decode cX11_fillLastsAhead 13 = .ok (.if_icmp .ge 84, 3) := by decide +kernel
theorem dX11_fillLastsAhead_16 : decode cX11_fillLastsAhead 16 = .ok (.aload_n 0, 1) := by decide +kernel
theorem dX11_fillLastsAhead_17 : decode cX11_fillLastsAhead 17 = .ok (.getfield 51, 3) := by decide +kernel
theorem dX11_fillLastsAhead_20 : decode cX11_fillLastsAhead 20 = .ok (.aload_n 0, 1) := by decide +kernel
theorem dX11_fillLastsAhead_21 : decode cX11_fillLastsAhead 21 = .ok (.getfield 20, 3) := by decide +kernel
theorem dX11_fillLastsAhead_24 : decode cX11_fillLastsAhead 24 = .ok (.getfield 182, 3) := by decide +kernel
theorem dX11_fillLastsAhead_27 : decode cX11_fillLastsAhead 27 = .ok (.getfield 242, 3) := by decide +kernel
theorem dX11_fillLastsAhead_30 : decode cX11_fillLastsAhead 30 = .ok (.iload_n 1, 1) := by decide +kernel
theorem dX11_fillLastsAhead_31 : decode cX11_fillLastsAhead 31 = .ok (.aaload, 1) := by decide +kernel
theorem dX11_fillLastsAhead_32 : decode cX11_fillLastsAhead 32 = .ok (.aload_n 0, 1) := by decide +kernel
theorem dX11_fillLastsAhead_33 : decode cX11_fillLastsAhead 33 = .ok (.getfield 20, 3) := by decide +kernel
theorem dX11_fillLastsAhead_36 : decode cX11_fillLastsAhead 36 = .ok (.getfield 182, 3) := by decide +kernel
theorem dX11_fillLastsAhead_39 : decode cX11_fillLastsAhead 39 = .ok (.getfield 185, 3) := by decide +kernel
theorem dX11_fillLastsAhead_42 : decode cX11_fillLastsAhead 42 = .ok (.invokevirtual 290, 3) := by decide +kernel
theorem dX11_fillLastsAhead_45 : decode cX11_fillLastsAhead 45 = .ok (.iconst 0, 1) := by decide +kernel
theorem dX11_fillLastsAhead_46 : decode cX11_fillLastsAhead 46 = .ok (.istore_n 2, 1) := by decide +kernel
theorem dX11_fillLastsAhead_47 : decode cX11_fillLastsAhead 47 = .ok (.iload_n 2, 1) := by decide +kernel
theorem dX11_fillLastsAhead_48 : decode cX11_fillLastsAhead 48 = .ok (.bipush 40, 2) := by decide +kernel
theorem dX11_fillLastsAhead_50 : decode cX11_fillLastsAhead 50 = .ok (.if_icmp .gt 41, 3) := by decide +kernel
theorem dX11_fillLastsAhead_53 : decode cX11_fillLastsAhead 53 = .ok (.aload_n 0, 1) := by decide +kernel
theorem dX11_fillLastsAhead_54 : decode cX11_fillLastsAhead 54 = .ok (.getfield 74, 3) := by decide +kernel
theorem dX11_fillLastsAhead_57 : decode cX11_fillLastsAhead 57 = .ok (.iload_n 1, 1) := by decide +kernel
theorem dX11_fillLastsAhead_58 : decode cX11_fillLastsAhead 58 = .ok (.aaload, 1) := by decide +kernel
theorem dX11_fillLastsAhead_59 : decode cX11_fillLastsAhead 59 = .ok (.iload_n 2, 1) := by decide +kernel
theorem dX11_fillLastsAhead_60 : decode cX11_fillLastsAhead 60 = .ok (.aload_n 0, 1) := by decide +kernel
theorem dX11_fillLastsAhead_61 : decode cX11_fillLastsAhead 61 = .ok (.getfield 51, 3) := by decide +kernel
theorem dX11_fillLastsAhead_64 : decode cX11_fillLastsAhead 64 = .ok (.getfield 297, 3) := by decide +kernel
theorem dX11_fillLastsAhead_67 : decode cX11_fillLastsAhead 67 = .ok (.invokevirtual 178, 3) := by decide +kernel
theorem dX11_fillLastsAhead_70 : decode cX11_fillLastsAhead 70 = .ok (.iastore, 1) := by decide +kernel
theorem dX11_fillLastsAhead_71 : decode cX11_fillLastsAhead 71 = .ok (.aload_n 0, 1) := by decide +kernel
theorem dX11_fillLastsAhead_72 : decode cX11_fillLastsAhead 72 = .ok (.getfield 51, 3) := by decide +kernel
theorem dX11_fillLastsAhead_75 : decode cX11_fillLastsAhead 75 = .ok (.aload_n 0, 1) := by decide +kernel
theorem dX11_fillLastsAhead_76 : decode cX11_fillLastsAhead 76 = .ok (.getfield 20, 3) := by decide +kernel
theorem dX11_fillLastsAhead_79 : decode cX11_fillLastsAhead 79 = .ok (.getfield 144, 3) := by decide +kernel
theorem dX11_fillLastsAhead_82 : decode cX11_fillLastsAhead 82 = .ok (.invokevirtual 304, 3) := by decide +kernel
theorem dX11_fillLastsAhead_85 : decode cX11_fillLastsAhead 85 = .ok (.iinc 2 1, 3) := by decide +kernel
theorem dX11_fillLastsAhead_88 : decode cX11_fillLastsAhead 88 = .ok (.goto (-41), 3) := by decide +kernel
theorem dX11_fillLastsAhead_91 : decode cX11_fillLastsAhead 91 = .ok (.iinc 1 1, 3) := by decide +kernel
theorem dX11_fillLastsAhead_94 : decode cX11_fillLastsAhead 94 = .ok (.goto (-92), 3) := by decide +kernel
theorem dX11_fillLastsAhead_97 : decode cX11_fillLastsAhead 97 = .ok (.return_, 1) := by decide +kernel
theorem dX11_firstMeeting_0 : decode cX11_firstMeeting 0 = .ok (.iconst 0, 1) := by decide +kernel
theorem dX11_firstMeeting_1 : decode cX11_firstMeeting 1 = .ok (.istore_n 3, 1) := by decide +kernel
theorem dX11_firstMeeting_2 : decode cX11_firstMeeting 2 = .ok (.iload_n 3, 1) := by decide +kernel
theorem dX11_firstMeeting_3 : decode cX11_firstMeeting 3 = .ok (.bipush 40, 2) := by decide +kernel
theorem dX11_firstMeeting_5 : decode cX11_firstMeeting 5 = .ok (.if_icmp .gt 30, 3) := by decide +kernel
theorem dX11_firstMeeting_8 : decode cX11_firstMeeting 8 = .ok (.aload_n 0, 1) := by decide +kernel
theorem dX11_firstMeeting_9 : decode cX11_firstMeeting 9 = .ok (.getfield 74, 3) := by decide +kernel
theorem dX11_firstMeeting_12 : decode cX11_firstMeeting 12 = .ok (.iload_n 1, 1) := by decide +kernel
theorem dX11_firstMeeting_13 : decode cX11_firstMeeting 13 = .ok (.aaload, 1) := by decide +kernel
theorem dX11_firstMeeting_14 : decode cX11_firstMeeting 14 = .ok (.iload_n 3, 1) := by decide +kernel
theorem dX11_firstMeeting_15 : decode cX11_firstMeeting 15 = .ok (.iaload, 1) := by decide +kernel
theorem dX11_firstMeeting_16 : decode cX11_firstMeeting 16 = .ok (.aload_n 0, 1) := by decide +kernel
theorem dX11_firstMeeting_17 : decode cX11_firstMeeting 17 = .ok (.getfield 74, 3) := by decide +kernel
theorem dX11_firstMeeting_20 : decode cX11_firstMeeting 20 = .ok (.iload_n 2, 1) := by decide +kernel
theorem dX11_firstMeeting_21 : decode cX11_firstMeeting 21 = .ok (.aaload, 1) := by decide +kernel
theorem dX11_firstMeeting_22 : decode cX11_firstMeeting 22 = .ok (.iload_n 3, 1) := by decide +kernel
theorem dX11_firstMeeting_23 : decode cX11_firstMeeting 23 = .ok (.iaload, 1) := by decide +kernel
theorem dX11_firstMeeting_24 : decode cX11_firstMeeting 24 = .ok (.if_icmp .ne 5, 3) := by decide +kernel
theorem dX11_firstMeeting_27 : decode cX11_firstMeeting 27 = .ok (.iload_n 3, 1) := by decide +kernel
theorem dX11_firstMeeting_28 : decode cX11_firstMeeting 28 = .ok (.ireturn, 1) := by decide +kernel
theorem dX11_firstMeeting_29 : decode cX11_firstMeeting 29 = .ok (.iinc 3 1, 3) := by decide +kernel
theorem dX11_firstMeeting_32 : decode cX11_firstMeeting 32 = .ok (.goto (-30), 3) := by decide +kernel
theorem dX11_firstMeeting_35 : decode cX11_firstMeeting 35 = .ok (.iconst (-1), 1) := by decide +kernel
theorem dX11_firstMeeting_36 : decode cX11_firstMeeting 36 = .ok (.ireturn, 1) := by decide +kernel
theorem dX11_firstBinding_0 : decode cX11_firstBinding 0 = .ok (.aload_n 0, 1) := by decide +kernel
theorem dX11_firstBinding_1 : decode cX11_firstBinding 1 = .ok (.getfield 51, 3) := by decide +kernel
theorem dX11_firstBinding_4 : decode cX11_firstBinding 4 = .ok (.aload_n 1, 1) := by decide +kernel
theorem dX11_firstBinding_5 : decode cX11_firstBinding 5 = .ok (.aload_n 0, 1) := by decide +kernel
theorem dX11_firstBinding_6 : decode cX11_firstBinding 6 = .ok (.getfield 20, 3) := by decide +kernel
theorem dX11_firstBinding_9 : decode cX11_firstBinding 9 = .ok (.getfield 182, 3) := by decide +kernel
theorem dX11_firstBinding_12 : decode cX11_firstBinding 12 = .ok (.getfield 185, 3) := by decide +kernel
theorem dX11_firstBinding_15 : decode cX11_firstBinding 15 = .ok (.invokevirtual 290, 3) := by decide +kernel
theorem dX11_firstBinding_18 : decode cX11_firstBinding 18 = .ok (.iconst 0, 1) := by decide +kernel
theorem dX11_firstBinding_19 : decode cX11_firstBinding 19 = .ok (.istore_n 3, 1) := by decide +kernel
theorem dX11_firstBinding_20 : decode cX11_firstBinding 20 = .ok (.iload_n 3, 1) := by decide +kernel
theorem dX11_firstBinding_21 : decode cX11_firstBinding 21 = .ok (.bipush 40, 2) := by decide +kernel
theorem dX11_firstBinding_23 : decode cX11_firstBinding 23 = .ok (.if_icmp .gt 47, 3) := by decide +kernel
theorem dX11_firstBinding_26 : decode cX11_firstBinding 26 = .ok (.aload_n 0, 1) := by decide +kernel
theorem dX11_firstBinding_27 : decode cX11_firstBinding 27 = .ok (.getfield 20, 3) := by decide +kernel
theorem dX11_firstBinding_30 : decode cX11_firstBinding 30 = .ok (.aload_n 0, 1) := by decide +kernel
theorem dX11_firstBinding_31 : decode cX11_firstBinding 31 = .ok (.getfield 51, 3) := by decide +kernel
theorem dX11_firstBinding_34 : decode cX11_firstBinding 34 = .ok (.getfield 297, 3) := by decide +kernel
theorem dX11_firstBinding_37 : decode cX11_firstBinding 37 = .ok (.invokevirtual 338, 3) := by decide +kernel
theorem dX11_firstBinding_40 : decode cX11_firstBinding 40 = .ok (.iload_n 2, 1) := by decide +kernel
theorem dX11_firstBinding_41 : decode cX11_firstBinding 41 = .ok (.ishr, 1) := by decide +kernel
theorem dX11_firstBinding_42 : decode cX11_firstBinding 42 = .ok (.iconst 1, 1) := by decide +kernel
theorem dX11_firstBinding_43 : decode cX11_firstBinding 43 = .ok (.iand, 1) := by decide +kernel
theorem dX11_firstBinding_44 : decode cX11_firstBinding 44 = .ok (.iconst 1, 1) := by decide +kernel
theorem dX11_firstBinding_45 : decode cX11_firstBinding 45 = .ok (.if_icmp .ne 5, 3) := by decide +kernel
theorem dX11_firstBinding_48 : decode cX11_firstBinding 48 = .ok (.iload_n 3, 1) := by decide +kernel
theorem dX11_firstBinding_49 : decode cX11_firstBinding 49 = .ok (.ireturn, 1) := by decide +kernel
theorem dX11_firstBinding_50 : decode cX11_firstBinding 50 = .ok (.aload_n 0, 1) := by decide +kernel
theorem dX11_firstBinding_51 : decode cX11_firstBinding 51 = .ok (.getfield 51, 3) := by decide +kernel
theorem dX11_firstBinding_54 : decode cX11_firstBinding 54 = .ok (.aload_n 0, 1) := by decide +kernel
theorem dX11_firstBinding_55 : decode cX11_firstBinding 55 = .ok (.getfield 20, 3) := by decide +kernel
theorem dX11_firstBinding_58 : decode cX11_firstBinding 58 = .ok (.getfield 144, 3) := by decide +kernel
theorem dX11_firstBinding_61 : decode cX11_firstBinding 61 = .ok (.invokevirtual 304, 3) := by decide +kernel
theorem dX11_firstBinding_64 : decode cX11_firstBinding 64 = .ok (.iinc 3 1, 3) := by decide +kernel
theorem dX11_firstBinding_67 : decode cX11_firstBinding 67 = .ok (.goto (-47), 3) := by decide +kernel
theorem dX11_firstBinding_70 : decode cX11_firstBinding 70 = .ok (.iconst (-1), 1) := by decide +kernel
theorem dX11_firstBinding_71 : decode cX11_firstBinding 71 = .ok (.ireturn, 1) := by decide +kernel
theorem dX11_tallyTempers_0 : decode cX11_tallyTempers 0 = .ok (.iconst 0, 1) := by decide +kernel
theorem dX11_tallyTempers_1 : decode cX11_tallyTempers 1 = .ok (.istore_n 3, 1) := by decide +kernel
theorem dX11_tallyTempers_2 : decode cX11_tallyTempers 2 = .ok (.iload_n 3, 1) := by decide +kernel
theorem dX11_tallyTempers_3 : decode cX11_tallyTempers 3 = .ok (.bipush 12, 2) := by decide +kernel
theorem dX11_tallyTempers_5 : decode cX11_tallyTempers 5 = .ok (.if_icmp .ge 16, 3) := by decide +kernel
theorem dX11_tallyTempers_8 : decode cX11_tallyTempers 8 = .ok (.aload_n 0, 1) := by decide +kernel
theorem dX11_tallyTempers_9 : decode cX11_tallyTempers 9 = .ok (.getfield 77, 3) := by decide +kernel
theorem dX11_tallyTempers_12 : decode cX11_tallyTempers 12 = .ok (.iload_n 3, 1) := by decide +kernel
theorem dX11_tallyTempers_13 : decode cX11_tallyTempers 13 = .ok (.iconst 0, 1) := by decide +kernel
theorem dX11_tallyTempers_14 : decode cX11_tallyTempers 14 = .ok (.iastore, 1) := by decide +kernel
theorem dX11_tallyTempers_15 : decode cX11_tallyTempers 15 = .ok (.iinc 3 1, 3) := by decide +kernel
theorem dX11_tallyTempers_18 : decode cX11_tallyTempers 18 = .ok (.goto (-16), 3) := by decide +kernel
theorem dX11_tallyTempers_21 : decode cX11_tallyTempers 21 = .ok (.iconst 0, 1) := by decide +kernel
theorem dX11_tallyTempers_22 : decode cX11_tallyTempers 22 = .ok (.istore_n 3, 1) := by decide +kernel
theorem dX11_tallyTempers_23 : decode cX11_tallyTempers 23 = .ok (.iload_n 3, 1) := by decide +kernel
theorem dX11_tallyTempers_24 : decode cX11_tallyTempers 24 = .ok (.bipush 10, 2) := by decide +kernel
theorem dX11_tallyTempers_26 : decode cX11_tallyTempers 26 = .ok (.if_icmp .ge 88, 3) := by decide +kernel
theorem dX11_tallyTempers_29 : decode cX11_tallyTempers 29 = .ok (.aload_n 0, 1) := by decide +kernel
theorem dX11_tallyTempers_30 : decode cX11_tallyTempers 30 = .ok (.getfield 51, 3) := by decide +kernel
theorem dX11_tallyTempers_33 : decode cX11_tallyTempers 33 = .ok (.aload_n 1, 1) := by decide +kernel
theorem dX11_tallyTempers_34 : decode cX11_tallyTempers 34 = .ok (.aload_n 0, 1) := by decide +kernel
theorem dX11_tallyTempers_35 : decode cX11_tallyTempers 35 = .ok (.getfield 20, 3) := by decide +kernel
theorem dX11_tallyTempers_38 : decode cX11_tallyTempers 38 = .ok (.getfield 182, 3) := by decide +kernel
theorem dX11_tallyTempers_41 : decode cX11_tallyTempers 41 = .ok (.getfield 185, 3) := by decide +kernel
theorem dX11_tallyTempers_44 : decode cX11_tallyTempers 44 = .ok (.invokevirtual 290, 3) := by decide +kernel
theorem dX11_tallyTempers_47 : decode cX11_tallyTempers 47 = .ok (.aload_n 0, 1) := by decide +kernel
theorem dX11_tallyTempers_48 : decode cX11_tallyTempers 48 = .ok (.getfield 51, 3) := by decide +kernel
theorem dX11_tallyTempers_51 : decode cX11_tallyTempers 51 = .ok (.getfield 297, 3) := by decide +kernel
theorem dX11_tallyTempers_54 : decode cX11_tallyTempers 54 = .ok (.iload_n 3, 1) := by decide +kernel
theorem dX11_tallyTempers_55 : decode cX11_tallyTempers 55 = .ok (.putfield 162, 3) := by decide +kernel
theorem dX11_tallyTempers_58 : decode cX11_tallyTempers 58 = .ok (.aload_n 0, 1) := by decide +kernel
theorem dX11_tallyTempers_59 : decode cX11_tallyTempers 59 = .ok (.getfield 51, 3) := by decide +kernel
theorem dX11_tallyTempers_62 : decode cX11_tallyTempers 62 = .ok (.aload_n 0, 1) := by decide +kernel
theorem dX11_tallyTempers_63 : decode cX11_tallyTempers 63 = .ok (.getfield 20, 3) := by decide +kernel
theorem dX11_tallyTempers_66 : decode cX11_tallyTempers 66 = .ok (.getfield 144, 3) := by decide +kernel
theorem dX11_tallyTempers_69 : decode cX11_tallyTempers 69 = .ok (.iload_n 2, 1) := by decide +kernel
theorem dX11_tallyTempers_70 : decode cX11_tallyTempers 70 = .ok (.invokevirtual 293, 3) := by decide +kernel
theorem dX11_tallyTempers_73 : decode cX11_tallyTempers 73 = .ok (.aload_n 0, 1) := by decide +kernel
theorem dX11_tallyTempers_74 : decode cX11_tallyTempers 74 = .ok (.getfield 51, 3) := by decide +kernel
theorem dX11_tallyTempers_77 : decode cX11_tallyTempers 77 = .ok (.getfield 297, 3) := by decide +kernel
theorem dX11_tallyTempers_80 : decode cX11_tallyTempers 80 = .ok (.invokevirtual 178, 3) := by decide +kernel
theorem dX11_tallyTempers_83 : decode cX11_tallyTempers 83 = .ok (.istore 4, 2) := by decide +kernel
theorem dX11_tallyTempers_85 : decode cX11_tallyTempers 85 = .ok (.iload 4, 2) := by decide +kernel
theorem dX11_tallyTempers_87 : decode cX11_tallyTempers 87 = .ok (.ifCond .lt 21, 3) := by decide +kernel
theorem dX11_tallyTempers_90 : decode cX11_tallyTempers 90 = .ok (.iload 4, 2) := by decide +kernel
theorem dX11_tallyTempers_92 : decode cX11_tallyTempers 92 = .ok (.bipush 12, 2) := by decide +kernel
theorem dX11_tallyTempers_94 : decode cX11_tallyTempers 94 = .ok (.if_icmp .ge 14, 3) := by decide +kernel
theorem dX11_tallyTempers_97 : decode cX11_tallyTempers 97 = .ok (.aload_n 0, 1) := by decide +kernel
theorem dX11_tallyTempers_98 : decode cX11_tallyTempers 98 = .ok (.getfield 77, 3) := by decide +kernel
theorem dX11_tallyTempers_101 : decode cX11_tallyTempers 101 = .ok (.iload 4, 2) := by decide +kernel
theorem dX11_tallyTempers_103 : decode cX11_tallyTempers 103 = .ok (.dup2, 1) := by decide +kernel
theorem dX11_tallyTempers_104 : decode cX11_tallyTempers 104 = .ok (.iaload, 1) := by decide +kernel
theorem dX11_tallyTempers_105 : decode cX11_tallyTempers 105 = .ok (.iconst 1, 1) := by decide +kernel
theorem dX11_tallyTempers_106 : decode cX11_tallyTempers 106 = .ok (.iadd, 1) := by decide +kernel
theorem dX11_tallyTempers_107 : decode cX11_tallyTempers 107 = .ok (.iastore, 1) := by decide +kernel
theorem dX11_tallyTempers_108 : decode cX11_tallyTempers 108 = .ok (.iinc 3 1, 3) := by decide +kernel
theorem dX11_tallyTempers_111 : decode cX11_tallyTempers 111 = .ok (.goto (-88), 3) := by decide +kernel
theorem dX11_tallyTempers_114 : decode cX11_tallyTempers 114 = .ok (.return_, 1) := by decide +kernel
theorem dX11_tryWeeks_0 : decode cX11_tryWeeks 0 = .ok (.aload_n 0, 1) := by decide +kernel
theorem dX11_tryWeeks_1 : decode cX11_tryWeeks 1 = .ok (.getfield 61, 3) := by decide +kernel
theorem dX11_tryWeeks_4 : decode cX11_tryWeeks 4 = .ok (.aload_n 0, 1) := by decide +kernel
theorem dX11_tryWeeks_5 : decode cX11_tryWeeks 5 = .ok (.getfield 20, 3) := by decide +kernel
theorem dX11_tryWeeks_8 : decode cX11_tryWeeks 8 = .ok (.getfield 182, 3) := by decide +kernel
theorem dX11_tryWeeks_11 : decode cX11_tryWeeks 11 = .ok (.invokevirtual 430, 3) := by decide +kernel
theorem dX11_tryWeeks_14 : decode cX11_tryWeeks 14 = .ok (.aload_n 0, 1) := by decide +kernel
theorem dX11_tryWeeks_15 : decode cX11_tryWeeks 15 = .ok (.getfield 61, 3) := by decide +kernel
theorem dX11_tryWeeks_18 : decode cX11_tryWeeks 18 = .ok (.iload_n 2, 1) := by decide +kernel
theorem dX11_tryWeeks_19 : decode cX11_tryWeeks 19 = .ok (.putfield 381, 3) := by decide +kernel
theorem dX11_tryWeeks_22 : decode cX11_tryWeeks 22 = .ok (.iconst 0, 1) := by decide +kernel
theorem dX11_tryWeeks_23 : decode cX11_tryWeeks 23 = .ok (.istore_n 3, 1) := by decide +kernel
theorem dX11_tryWeeks_24 : decode cX11_tryWeeks 24 = .ok (.iload_n 3, 1) := by decide +kernel
theorem dX11_tryWeeks_25 : decode cX11_tryWeeks 25 = .ok (.iload_n 1, 1) := by decide +kernel
theorem dX11_tryWeeks_26 : decode cX11_tryWeeks 26 = .ok (.if_icmp .ge 31, 3) := by decide +kernel
theorem dX11_tryWeeks_29 : decode cX11_tryWeeks 29 = .ok (.aload_n 0, 1) := by decide +kernel
theorem dX11_tryWeeks_30 : decode cX11_tryWeeks 30 = .ok (.getfield 61, 3) := by decide +kernel
theorem dX11_tryWeeks_33 : decode cX11_tryWeeks 33 = .ok (.aload_n 0, 1) := by decide +kernel
theorem dX11_tryWeeks_34 : decode cX11_tryWeeks 34 = .ok (.getfield 20, 3) := by decide +kernel
theorem dX11_tryWeeks_37 : decode cX11_tryWeeks 37 = .ok (.getfield 144, 3) := by decide +kernel
theorem dX11_tryWeeks_40 : decode cX11_tryWeeks 40 = .ok (.aload_n 0, 1) := by decide +kernel
theorem dX11_tryWeeks_41 : decode cX11_tryWeeks 41 = .ok (.getfield 20, 3) := by decide +kernel
theorem dX11_tryWeeks_44 : decode cX11_tryWeeks 44 = .ok (.getfield 275, 3) := by decide +kernel
theorem dX11_tryWeeks_47 : decode cX11_tryWeeks 47 = .ok (.invokevirtual 278, 3) := by decide +kernel
theorem dX11_tryWeeks_50 : decode cX11_tryWeeks 50 = .ok (.pop, 1) := by decide +kernel
theorem dX11_tryWeeks_51 : decode cX11_tryWeeks 51 = .ok (.iinc 3 1, 3) := by decide +kernel
theorem dX11_tryWeeks_54 : decode cX11_tryWeeks 54 = .ok (.goto (-30), 3) := by decide +kernel
theorem dX11_tryWeeks_57 : decode cX11_tryWeeks 57 = .ok (.return_, 1) := by decide +kernel
theorem dX12_thrown_0 : decode cX12_thrown 0 = .ok (.aload_n 0, 1) := by decide +kernel
theorem dX12_thrown_1 : decode cX12_thrown 1 = .ok (.getfield 3, 3) := by decide +kernel
theorem dX12_thrown_4 : decode cX12_thrown 4 = .ok (.ireturn, 1) := by decide +kernel
theorem dX12_throwsIf_0 : decode cX12_throwsIf 0 = .ok (.iload_n 1, 1) := by decide +kernel
theorem dX12_throwsIf_1 : decode cX12_throwsIf 1 = .ok (.ifCond .eq 8, 3) := by decide +kernel
theorem dX12_throwsIf_4 : decode cX12_throwsIf 4 = .ok (.aload_n 0, 1) := by decide +kernel
theorem dX12_throwsIf_5 : decode cX12_throwsIf 5 = .ok (.iload_n 2, 1) := by decide +kernel
theorem dX12_throwsIf_6 : decode cX12_throwsIf 6 = .ok (.putfield 3, 3) := by decide +kernel
theorem dX12_throwsIf_9 : decode cX12_throwsIf 9 = .ok (.iload_n 1, 1) := by decide +kernel
theorem dX12_throwsIf_10 : decode cX12_throwsIf 10 = .ok (.ireturn, 1) := by decide +kernel
theorem dX12_in_0 : decode cX12_in 0 = .ok (.iload_n 0, 1) := by decide +kernel
theorem dX12_in_1 : decode cX12_in 1 = .ok (.iload_n 1, 1) := by decide +kernel
theorem dX12_in_2 : decode cX12_in 2 = .ok (.if_icmp .lt 12, 3) := by decide +kernel
theorem dX12_in_5 : decode cX12_in 5 = .ok (.iload_n 0, 1) := by decide +kernel
theorem dX12_in_6 : decode cX12_in 6 = .ok (.iload_n 2, 1) := by decide +kernel
theorem dX12_in_7 : decode cX12_in 7 = .ok (.if_icmp .gt 7, 3) := by decide +kernel
theorem dX12_in_10 : decode cX12_in 10 = .ok (.iconst 1, 1) := by decide +kernel
theorem dX12_in_11 : decode cX12_in 11 = .ok (.goto 4, 3) := by decide +kernel
theorem dX12_in_14 : decode cX12_in 14 = .ok (.iconst 0, 1) := by decide +kernel
theorem dX12_in_15 : decode cX12_in 15 = .ok (.ireturn, 1) := by decide +kernel
theorem dX12_hasBit_0 : decode cX12_hasBit 0 = .ok (.iload_n 0, 1) := by decide +kernel
theorem dX12_hasBit_1 : decode cX12_hasBit 1 = .ok (.iload_n 1, 1) := by decide +kernel
theorem dX12_hasBit_2 : decode cX12_hasBit 2 = .ok (.ishr, 1) := by decide +kernel
theorem dX12_hasBit_3 : decode cX12_hasBit 3 = .ok (.iconst 1, 1) := by decide +kernel
theorem dX12_hasBit_4 : decode cX12_hasBit 4 = .ok (.iand, 1) := by decide +kernel
theorem dX12_hasBit_5 : decode cX12_hasBit 5 = .ok (.iconst 1, 1) := by decide +kernel
theorem dX12_hasBit_6 : decode cX12_hasBit 6 = .ok (.if_icmp .ne 7, 3) := by decide +kernel
theorem dX12_hasBit_9 : decode cX12_hasBit 9 = .ok (.iconst 1, 1) := by decide +kernel
theorem dX12_hasBit_10 : decode cX12_hasBit 10 = .ok (.goto 4, 3) := by decide +kernel
theorem dX12_hasBit_13 : decode cX12_hasBit 13 = .ok (.iconst 0, 1) := by decide +kernel
theorem dX12_hasBit_14 : decode cX12_hasBit 14 = .ok (.ireturn, 1) := by decide +kernel
theorem dX12_init_0 : decode cX12_init 0 = .ok (.aload_n 0, 1) := by decide +kernel
theorem dX12_init_1 : decode cX12_init 1 = .ok (.invokespecial 7, 3) := by decide +kernel
theorem dX12_init_4 : decode cX12_init 4 = .ok (.aload_n 0, 1) := by decide +kernel
theorem dX12_init_5 : decode cX12_init 5 = .ok (.sipush 2158, 3) := by decide +kernel
theorem dX12_init_8 : decode cX12_init 8 = .ok (.newarray .int, 2) := by decide +kernel
theorem dX12_init_10 : decode cX12_init 10 = .ok (.putfield 13, 3) := by decide +kernel
theorem dX12_init_13 : decode cX12_init 13 = .ok (.aload_n 0, 1) := by decide +kernel
theorem dX12_init_14 : decode cX12_init 14 = .ok (.sipush 1309, 3) := by decide +kernel
theorem dX12_init_17 : decode cX12_init 17 = .ok (.newarray .int, 2) := by decide +kernel
theorem dX12_init_19 : decode cX12_init 19 = .ok (.putfield 17, 3) := by decide +kernel
theorem dX12_init_22 : decode cX12_init 22 = .ok (.aload_n 0, 1) := by decide +kernel
theorem dX12_init_23 : decode cX12_init 23 = .ok (.sipush 1309, 3) := by decide +kernel
theorem dX12_init_26 : decode cX12_init 26 = .ok (.newarray .int, 2) := by decide +kernel
theorem dX12_init_28 : decode cX12_init 28 = .ok (.putfield 20, 3) := by decide +kernel
theorem dX12_init_31 : decode cX12_init 31 = .ok (.aload_n 0, 1) := by decide +kernel
theorem dX12_init_32 : decode cX12_init 32 = .ok (.sipush 460, 3) := by decide +kernel
theorem dX12_init_35 : decode cX12_init 35 = .ok (.newarray .int, 2) := by decide +kernel
theorem dX12_init_37 : decode cX12_init 37 = .ok (.putfield 23, 3) := by decide +kernel
theorem dX12_init_40 : decode cX12_init 40 = .ok (.aload_n 0, 1) := by decide +kernel
theorem dX12_init_41 : decode cX12_init 41 = .ok (.sipush 5520, 3) := by decide +kernel
theorem dX12_init_44 : decode cX12_init 44 = .ok (.newarray .int, 2) := by decide +kernel
theorem dX12_init_46 : decode cX12_init 46 = .ok (.putfield 26, 3) := by decide +kernel
theorem dX12_init_49 : decode cX12_init 49 = .ok (.aload_n 0, 1) := by decide +kernel
theorem dX12_init_50 : decode cX12_init 50 = .ok (.sipush 400, 3) := by decide +kernel
theorem dX12_init_53 : decode cX12_init 53 = .ok (.newarray .byte, 2) := by decide +kernel
theorem dX12_init_55 : decode cX12_init 55 = .ok (.putfield 29, 3) := by decide +kernel
theorem dX12_init_58 : decode cX12_init 58 = .ok (.aload_n 0, 1) := by decide +kernel
theorem dX12_init_59 : decode cX12_init 59 = .ok (.iconst (-1), 1) := by decide +kernel
theorem dX12_init_60 : decode cX12_init 60 = .ok (.putfield 33, 3) := by decide +kernel
theorem dX12_init_63 : decode cX12_init 63 = .ok (.aload_n 0, 1) := by decide +kernel
theorem dX12_init_64 : decode cX12_init 64 = .ok (.iconst 5, 1) := by decide +kernel
theorem dX12_init_65 : decode cX12_init 65 = .ok (.newarray .int, 2) := by decide +kernel
theorem dX12_init_67 : decode cX12_init 67 = .ok (.putfield 36, 3) := by decide +kernel
theorem dX12_init_70 : decode cX12_init 70 = .ok (.aload_n 0, 1) := by decide +kernel
theorem dX12_init_71 : decode cX12_init 71 = .ok (.sipush 400, 3) := by decide +kernel
theorem dX12_init_74 : decode cX12_init 74 = .ok (.newarray .int, 2) := by decide +kernel
theorem dX12_init_76 : decode cX12_init 76 = .ok (.putfield 39, 3) := by decide +kernel
theorem dX12_init_79 : decode cX12_init 79 = .ok (.aload_n 0, 1) := by decide +kernel
theorem dX12_init_80 : decode cX12_init 80 = .ok (.bipush 24, 2) := by decide +kernel
theorem dX12_init_82 : decode cX12_init 82 = .ok (.newarray .int, 2) := by decide +kernel
theorem dX12_init_84 : decode cX12_init 84 = .ok (.putfield 42, 3) := by decide +kernel
theorem dX12_init_87 : decode cX12_init 87 = .ok (.aload_n 0, 1) := by decide +kernel
theorem dX12_init_88 : decode cX12_init 88 = .ok (.bipush 24, 2) := by decide +kernel
theorem dX12_init_90 : decode cX12_init 90 = .ok (.newarray .int, 2) := by decide +kernel
theorem dX12_init_92 : decode cX12_init 92 = .ok (.putfield 45, 3) := by decide +kernel
theorem dX12_init_95 : decode cX12_init 95 = .ok (.aload_n 0, 1) := by decide +kernel
theorem dX12_init_96 : decode cX12_init 96 = .ok (.bipush 41, 2) := by decide +kernel
theorem dX12_init_98 : decode cX12_init 98 = .ok (.newarray .int, 2) := by decide +kernel
theorem dX12_init_100 : decode cX12_init 100 = .ok (.putfield 48, 3) := by decide +kernel
theorem dX12_init_103 : decode cX12_init 103 = .ok (.aload_n 0, 1) := by decide +kernel
theorem dX12_init_104 : decode cX12_init 104 = .ok (.bipush 8, 2) := by decide +kernel
theorem dX12_init_106 : decode cX12_init 106 = .ok (.newarray .int, 2) := by decide +kernel
theorem dX12_init_108 : decode cX12_init 108 = .ok (.putfield 51, 3) := by decide +kernel
theorem dX12_init_111 : decode cX12_init 111 = .ok (.aload_n 0, 1) := by decide +kernel
theorem dX12_init_112 : decode cX12_init 112 = .ok (.sipush 256, 3) := by decide +kernel
theorem dX12_init_115 : decode cX12_init 115 = .ok (.newarray .int, 2) := by decide +kernel
theorem dX12_init_117 : decode cX12_init 117 = .ok (.putfield 54, 3) := by decide +kernel
theorem dX12_init_120 : decode cX12_init 120 = .ok (.aload_n 0, 1) := by decide +kernel
theorem dX12_init_121 : decode cX12_init 121 = .ok (.bipush 12, 2) := by decide +kernel
theorem dX12_init_123 : decode cX12_init 123 = .ok (.newarray .int, 2) := by decide +kernel
theorem dX12_init_125 : decode cX12_init 125 = .ok (.putfield 57, 3) := by decide +kernel
theorem dX12_init_128 : decode cX12_init 128 = .ok (.aload_n 0, 1) := by decide +kernel
theorem dX12_init_129 : decode cX12_init 129 = .ok (.getfield 13, 3) := by decide +kernel
theorem dX12_init_132 : decode cX12_init 132 = .ok (.bipush 7, 2) := by decide +kernel
theorem dX12_init_134 : decode cX12_init 134 = .ok (.iconst 1, 1) := by decide +kernel
theorem dX12_init_135 : decode cX12_init 135 = .ok (.iastore, 1) := by decide +kernel
theorem dX12_init_136 : decode cX12_init 136 = .ok (.iconst 0, 1) := by decide +kernel
theorem dX12_init_137 : decode cX12_init 137 = .ok (.istore_n 1, 1) := by decide +kernel
theorem dX12_init_138 : decode cX12_init 138 = .ok (.iload_n 1, 1) := by decide +kernel
theorem dX12_init_139 : decode cX12_init 139 = .ok (.bipush 12, 2) := by decide +kernel
theorem dX12_init_141 : decode cX12_init 141 = .ok (.if_icmp .ge 19, 3) := by decide +kernel
theorem dX12_init_144 : decode cX12_init 144 = .ok (.aload_n 0, 1) := by decide +kernel
theorem dX12_init_145 : decode cX12_init 145 = .ok (.getfield 13, 3) := by decide +kernel
theorem dX12_init_148 : decode cX12_init 148 = .ok (.bipush 8, 2) := by decide +kernel
theorem dX12_init_150 : decode cX12_init 150 = .ok (.iload_n 1, 1) := by decide +kernel
theorem dX12_init_151 : decode cX12_init 151 = .ok (.iadd, 1) := by decide +kernel
theorem dX12_init_152 : decode cX12_init 152 = .ok (.iconst 3, 1) := by decide +kernel
theorem dX12_init_153 : decode cX12_init 153 = .ok (.iastore, 1) := by decide +kernel
theorem dX12_init_154 : decode cX12_init 154 = .ok (.iinc 1 1, 3) := by decide +kernel
theorem dX12_init_157 : decode cX12_init 157 = .ok (.goto (-19), 3) := by decide +kernel
theorem dX12_init_160 : decode cX12_init 160 = .ok (.return_, 1) := by decide +kernel
theorem dX12_image_0 : decode cX12_image 0 = .ok (.aload_n 0, 1) := by decide +kernel
theorem dX12_image_1 : decode cX12_image 1 = .ok (.iconst 0, 1) := by decide +kernel
theorem dX12_image_2 : decode cX12_image 2 = .ok (.putfield 3, 3) := by decide +kernel
theorem dX12_image_5 : decode cX12_image 5 = .ok (.iconst 0, 1) := by decide +kernel
theorem dX12_image_6 : decode cX12_image 6 = .ok (.istore_n 1, 1) := by decide +kernel
theorem dX12_image_7 : decode cX12_image 7 = .ok (.iload_n 1, 1) := by decide +kernel
theorem dX12_image_8 : decode cX12_image 8 = .ok (.sipush 1309, 3) := by decide +kernel
theorem dX12_image_11 : decode cX12_image 11 = .ok (.if_icmp .ge 21, 3) := by decide +kernel
theorem dX12_image_14 : decode cX12_image 14 = .ok (.aload_n 0, 1) := by decide +kernel
theorem dX12_image_15 : decode cX12_image 15 = .ok (.getfield 17, 3) := by decide +kernel
theorem dX12_image_18 : decode cX12_image 18 = .ok (.iload_n 1, 1) := by decide +kernel
theorem dX12_image_19 : decode cX12_image 19 = .ok (.aload_n 0, 1) := by decide +kernel
theorem dX12_image_20 : decode cX12_image 20 = .ok (.getfield 13, 3) := by decide +kernel
theorem dX12_image_23 : decode cX12_image 23 = .ok (.iload_n 1, 1) := by decide +kernel
theorem dX12_image_24 : decode cX12_image 24 = .ok (.iaload, 1) := by decide +kernel
theorem dX12_image_25 : decode cX12_image 25 = .ok (.iastore, 1) := by decide +kernel
theorem dX12_image_26 : decode cX12_image 26 = .ok (.iinc 1 1, 3) := by decide +kernel
theorem dX12_image_29 : decode cX12_image 29 = .ok (.goto (-22), 3) := by decide +kernel
theorem dX12_image_32 : decode cX12_image 32 = .ok (.aload_n 0, 1) := by decide +kernel
theorem dX12_image_33 : decode cX12_image 33 = .ok (.iconst 1, 1) := by decide +kernel
theorem dX12_image_34 : decode cX12_image 34 = .ok (.putfield 60, 3) := by decide +kernel
theorem dX12_image_37 : decode cX12_image 37 = .ok (.return_, 1) := by decide +kernel
theorem dX12_back_0 : decode cX12_back 0 = .ok (.aload_n 0, 1) := by decide +kernel
theorem dX12_back_1 : decode cX12_back 1 = .ok (.iconst 0, 1) := by decide +kernel
theorem dX12_back_2 : decode cX12_back 2 = .ok (.putfield 3, 3) := by decide +kernel
theorem dX12_back_5 : decode cX12_back 5 = .ok (.aload_n 0, 1) := by decide +kernel
theorem dX12_back_6 : decode cX12_back 6 = .ok (.getfield 60, 3) := by decide +kernel
theorem dX12_back_9 : decode cX12_back 9 = .ok (.ifCond .ne 5, 3) := by decide +kernel
theorem dX12_back_12 : decode cX12_back 12 = .ok (.iconst 0, 1) := by decide +kernel
theorem dX12_back_13 : decode cX12_back 13 = .ok (.ireturn, 1) := by decide +kernel
theorem dX12_back_14 : decode cX12_back 14 = .ok (.iconst 0, 1) := by decide +kernel
theorem dX12_back_15 : decode cX12_back 15 = .ok (.istore_n 1, 1) := by decide +kernel
theorem dX12_back_16 : decode cX12_back 16 = .ok (.iload_n 1, 1) := by decide +kernel
theorem dX12_back_17 : decode cX12_back 17 = .ok (.sipush 1309, 3) := by decide +kernel
theorem dX12_back_20 : decode cX12_back 20 = .ok (.if_icmp .ge 21, 3) := by decide +kernel
theorem dX12_back_23 : decode cX12_back 23 = .ok (.aload_n 0, 1) := by decide +kernel
theorem dX12_back_24 : decode cX12_back 24 = .ok (.getfield 13, 3) := by decide +kernel
theorem dX12_back_27 : decode cX12_back 27 = .ok (.iload_n 1, 1) := by decide +kernel
theorem dX12_back_28 : decode cX12_back 28 = .ok (.aload_n 0, 1) := by decide +kernel
theorem dX12_back_29 : decode cX12_back 29 = .ok (.getfield 17, 3) := by decide +kernel
theorem dX12_back_32 : decode cX12_back 32 = .ok (.iload_n 1, 1) := by decide +kernel
theorem dX12_back_33 : decode cX12_back 33 = .ok (.iaload, 1) := by decide +kernel
theorem dX12_back_34 : decode cX12_back 34 = .ok (.iastore, 1) := by decide +kernel
theorem dX12_back_35 : decode cX12_back 35 = .ok (.iinc 1 1, 3) := by decide +kernel
theorem dX12_back_38 : decode cX12_back 38 = .ok (.goto (-22), 3) := by decide +kernel
theorem dX12_back_41 : decode cX12_back 41 = .ok (.aload_n 0, 1) := by decide +kernel
theorem dX12_back_42 : decode cX12_back 42 = .ok (.iconst 0, 1) := by decide +kernel
theorem dX12_back_43 : decode cX12_back 43 = .ok (.putfield 64, 3) := by decide +kernel
theorem dX12_back_46 : decode cX12_back 46 = .ok (.iconst 1, 1) := by decide +kernel
theorem dX12_back_47 : decode cX12_back 47 = .ok (.ireturn, 1) := by decide +kernel
theorem dX12_remembers_0 : decode cX12_remembers 0 = .ok (.aload_n 0, 1) := by decide +kernel
theorem dX12_remembers_1 : decode cX12_remembers 1 = .ok (.getfield 64, 3) := by decide +kernel
theorem dX12_remembers_4 : decode cX12_remembers 4 = .ok (.bipush 12, 2) := by decide +kernel
theorem dX12_remembers_6 : decode cX12_remembers 6 = .ok (.if_icmp .ne 37, 3) := by decide +kernel
theorem dX12_remembers_9 : decode cX12_remembers 9 = .ok (.iconst 0, 1) := by decide +kernel
theorem dX12_remembers_10 : decode cX12_remembers 10 = .ok (.istore_n 1, 1) := by decide +kernel
theorem dX12_remembers_11 : decode cX12_remembers 11 = .ok (.iload_n 1, 1) := by decide +kernel
theorem dX12_remembers_12 : decode cX12_remembers 12 = .ok (.sipush 5060, 3) := by decide +kernel
theorem dX12_remembers_15 : decode cX12_remembers 15 = .ok (.if_icmp .ge 25, 3) := by decide +kernel
theorem dX12_remembers_18 : decode cX12_remembers 18 = .ok (.aload_n 0, 1) := by decide +kernel
theorem dX12_remembers_19 : decode cX12_remembers 19 = .ok (.getfield 26, 3) := by decide +kernel
theorem dX12_remembers_22 : decode cX12_remembers 22 = .ok (.iload_n 1, 1) := by decide +kernel
theorem dX12_remembers_23 : decode cX12_remembers 23 = .ok (.aload_n 0, 1) := by decide +kernel
theorem dX12_remembers_24 : decode cX12_remembers 24 = .ok (.getfield 26, 3) := by decide +kernel
theorem dX12_remembers_27 : decode cX12_remembers 27 = .ok (.iload_n 1, 1) := by decide +kernel
theorem dX12_remembers_28 : decode cX12_remembers 28 = .ok (.sipush 460, 3) := by decide +kernel
theorem dX12_remembers_31 : decode cX12_remembers 31 = .ok (.iadd, 1) := by decide +kernel
theorem dX12_remembers_32 : decode cX12_remembers 32 = .ok (.iaload, 1) := by decide +kernel
theorem dX12_remembers_33 : decode cX12_remembers 33 = .ok (.iastore, 1) := by decide +kernel
theorem dX12_remembers_34 : decode cX12_remembers 34 = .ok (.iinc 1 1, 3) := by decide +kernel
theorem dX12_remembers_37 : decode cX12_remembers 37 = .ok (.goto (-26), 3) := by decide +kernel
theorem dX12_remembers_40 : decode cX12_remembers 40 = .ok (.goto 13, 3) := by decide +kernel
theorem dX12_remembers_43 : decode cX12_remembers 43 = .ok (.aload_n 0, 1) := by decide +kernel
theorem dX12_remembers_44 : decode cX12_remembers 44 = .ok (.dup, 1) := by decide +kernel
theorem dX12_remembers_45 : decode cX12_remembers 45 = .ok (.getfield 64, 3) := by decide +kernel
theorem dX12_remembers_48 : decode cX12_remembers 48 = .ok (.iconst 1, 1) := by decide +kernel
theorem dX12_remembers_49 : decode cX12_remembers 49 = .ok (.iadd, 1) := by decide +kernel
theorem dX12_remembers_50 : decode cX12_remembers 50 = .ok (.putfield 64, 3) := by decide +kernel
theorem dX12_remembers_53 : decode cX12_remembers 53 = .ok (.iconst 0, 1) := by decide +kernel
theorem dX12_remembers_54 : decode cX12_remembers 54 = .ok (.istore_n 1, 1) := by decide +kernel
theorem dX12_remembers_55 : decode cX12_remembers 55 = .ok (.iload_n 1, 1) := by decide +kernel
theorem dX12_remembers_56 : decode cX12_remembers 56 = .ok (.sipush 460, 3) := by decide +kernel
theorem dX12_remembers_59 : decode cX12_remembers 59 = .ok (.if_icmp .ge 32, 3) := by decide +kernel
theorem dX12_remembers_62 : decode cX12_remembers 62 = .ok (.aload_n 0, 1) := by decide +kernel
theorem dX12_remembers_63 : decode cX12_remembers 63 = .ok (.getfield 26, 3) := by decide +kernel
theorem dX12_remembers_66 : decode cX12_remembers 66 = .ok (.sipush 460, 3) := by decide +kernel
theorem dX12_remembers_69 : decode cX12_remembers 69 = .ok (.aload_n 0, 1) := by decide +kernel
theorem dX12_remembers_70 : decode cX12_remembers 70 = .ok (.getfield 64, 3) := by decide +kernel
theorem dX12_remembers_73 : decode cX12_remembers 73 = .ok (.iconst 1, 1) := by decide +kernel
theorem dX12_remembers_74 : decode cX12_remembers 74 = .ok (.isub, 1) := by decide +kernel
theorem dX12_remembers_75 : decode cX12_remembers 75 = .ok (.imul, 1) := by decide +kernel
theorem dX12_remembers_76 : decode cX12_remembers 76 = .ok (.iload_n 1, 1) := by decide +kernel
theorem dX12_remembers_77 : decode cX12_remembers 77 = .ok (.iadd, 1) := by decide +kernel
theorem dX12_remembers_78 : decode cX12_remembers 78 = .ok (.aload_n 0, 1) := by decide +kernel
theorem dX12_remembers_79 : decode cX12_remembers 79 = .ok (.getfield 13, 3) := by decide +kernel
theorem dX12_remembers_82 : decode cX12_remembers 82 = .ok (.iload_n 1, 1) := by decide +kernel
theorem dX12_remembers_83 : decode cX12_remembers 83 = .ok (.iaload, 1) := by decide +kernel
theorem dX12_remembers_84 : decode cX12_remembers 84 = .ok (.iastore, 1) := by decide +kernel
theorem dX12_remembers_85 : decode cX12_remembers 85 = .ok (.iinc 1 1, 3) := by decide +kernel
theorem dX12_remembers_88 : decode cX12_remembers 88 = .ok (.goto (-33), 3) := by decide +kernel
theorem dX12_remembers_91 : decode cX12_remembers 91 = .ok (.return_, 1) := by decide +kernel
theorem dX12_undo_0 : decode cX12_undo 0 = .ok (.aload_n 0, 1) := by decide +kernel
theorem dX12_undo_1 : decode cX12_undo 1 = .ok (.iconst 0, 1) := by decide +kernel
theorem dX12_undo_2 : decode cX12_undo 2 = .ok (.putfield 3, 3) := by decide +kernel
theorem dX12_undo_5 : decode cX12_undo 5 = .ok (.aload_n 0, 1) := by decide +kernel
theorem dX12_undo_6 : decode cX12_undo 6 = .ok (.getfield 64, 3) := by decide +kernel
theorem dX12_undo_9 : decode cX12_undo 9 = .ok (.ifCond .ne 5, 3) := by decide +kernel
theorem dX12_undo_12 : decode cX12_undo 12 = .ok (.iconst 0, 1) := by decide +kernel
theorem dX12_undo_13 : decode cX12_undo 13 = .ok (.ireturn, 1) := by decide +kernel
theorem dX12_undo_14 : decode cX12_undo 14 = .ok (.aload_n 0, 1) := by decide +kernel
theorem dX12_undo_15 : decode cX12_undo 15 = .ok (.dup, 1) := by decide +kernel
theorem dX12_undo_16 : decode cX12_undo 16 = .ok (.getfield 64, 3) := by decide +kernel
theorem dX12_undo_19 : decode cX12_undo 19 = .ok (.iconst 1, 1) := by decide +kernel
theorem dX12_undo_20 : decode cX12_undo 20 = .ok (.isub, 1) := by decide +kernel
theorem dX12_undo_21 : decode cX12_undo 21 = .ok (.putfield 64, 3) := by decide +kernel
theorem dX12_undo_24 : decode cX12_undo 24 = .ok (.iconst 0, 1) := by decide +kernel
theorem dX12_undo_25 : decode cX12_undo 25 = .ok (.istore_n 1, 1) := by decide +kernel
theorem dX12_undo_26 : decode cX12_undo 26 = .ok (.iload_n 1, 1) := by decide +kernel
theorem dX12_undo_27 : decode cX12_undo 27 = .ok (.sipush 460, 3) := by decide +kernel
theorem dX12_undo_30 : decode cX12_undo 30 = .ok (.if_icmp .ge 30, 3) := by decide +kernel
theorem dX12_undo_33 : decode cX12_undo 33 = .ok (.aload_n 0, 1) := by decide +kernel
theorem dX12_undo_34 : decode cX12_undo 34 = .ok (.getfield 13, 3) := by decide +kernel
theorem dX12_undo_37 : decode cX12_undo 37 = .ok (.iload_n 1, 1) := by decide +kernel
theorem dX12_undo_38 : decode cX12_undo 38 = .ok (.aload_n 0, 1) := by decide +kernel
theorem dX12_undo_39 : decode cX12_undo 39 = .ok (.getfield 26, 3) := by decide +kernel
theorem dX12_undo_42 : decode cX12_undo 42 = .ok (.sipush 460, 3) := by decide +kernel
theorem dX12_undo_45 : decode cX12_undo 45 = .ok (.aload_n 0, 1) := by decide +kernel
theorem dX12_undo_46 : decode cX12_undo 46 = .ok (.getfield 64, 3) := by decide +kernel
theorem dX12_undo_49 : decode cX12_undo 49 = .ok (.imul, 1) := by decide +kernel
theorem dX12_undo_50 : decode cX12_undo 50 = .ok (.iload_n 1, 1) := by decide +kernel
theorem dX12_undo_51 : decode cX12_undo 51 = .ok (.iadd, 1) := by decide +kernel
theorem dX12_undo_52 : decode cX12_undo 52 = .ok (.iaload, 1) := by decide +kernel
theorem dX12_undo_53 : decode cX12_undo 53 = .ok (.iastore, 1) := by decide +kernel
theorem dX12_undo_54 : decode cX12_undo 54 = .ok (.iinc 1 1, 3) := by decide +kernel
theorem dX12_undo_57 : decode cX12_undo 57 = .ok (.goto (-31), 3) := by decide +kernel
theorem dX12_undo_60 : decode cX12_undo 60 = .ok (.iconst 1, 1) := by decide +kernel
theorem dX12_undo_61 : decode cX12_undo 61 = .ok (.ireturn, 1) := by decide +kernel
theorem dX12_letters_0 : decode cX12_letters 0 = .ok (.aload_n 0, 1) := by decide +kernel
theorem dX12_letters_1 : decode cX12_letters 1 = .ok (.getfield 13, 3) := by decide +kernel
theorem dX12_letters_4 : decode cX12_letters 4 = .ok (.iconst 0, 1) := by decide +kernel
theorem dX12_letters_5 : decode cX12_letters 5 = .ok (.iaload, 1) := by decide +kernel
theorem dX12_letters_6 : decode cX12_letters 6 = .ok (.ireturn, 1) := by decide +kernel
theorem dX12_promises_0 : decode cX12_promises 0 = .ok (.aload_n 0, 1) := by decide +kernel
theorem dX12_promises_1 : decode cX12_promises 1 = .ok (.getfield 13, 3) := by decide +kernel
theorem dX12_promises_4 : decode cX12_promises 4 = .ok (.iconst 1, 1) := by decide +kernel
theorem dX12_promises_5 : decode cX12_promises 5 = .ok (.iaload, 1) := by decide +kernel
theorem dX12_promises_6 : decode cX12_promises 6 = .ok (.ireturn, 1) := by decide +kernel
theorem dX12_at_0 : decode cX12_at 0 = .ok (.bipush 36, 2) := by decide +kernel
theorem dX12_at_2 : decode cX12_at 2 = .ok (.bipush 53, 2) := by decide +kernel
theorem dX12_at_4 : decode cX12_at 4 = .ok (.iload_n 0, 1) := by decide +kernel
theorem dX12_at_5 : decode cX12_at 5 = .ok (.imul, 1) := by decide +kernel
theorem dX12_at_6 : decode cX12_at 6 = .ok (.iadd, 1) := by decide +kernel
theorem dX12_at_7 : decode cX12_at 7 = .ok (.iload_n 1, 1) := by decide +kernel
theorem dX12_at_8 : decode cX12_at 8 = .ok (.iadd, 1) := by decide +kernel
theorem dX12_at_9 : decode cX12_at 9 = .ok (.ireturn, 1) := by decide +kernel
theorem dX12_of_0 : decode cX12_of 0 = .ok (.aload_n 0, 1) := by decide +kernel
theorem dX12_of_1 : decode cX12_of 1 = .ok (.getfield 13, 3) := by decide +kernel
