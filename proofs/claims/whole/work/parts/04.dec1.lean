theorem dX11_echo_39 : decode cX11_echo 39 = .ok (.aload_n 2, 1) := by decide +kernel
theorem dX11_echo_40 : decode cX11_echo 40 = .ok (.iload 5, 2) := by decide +kernel
theorem dX11_echo_42 : decode cX11_echo 42 = .ok (.invokevirtual 358, 3) := by decide +kernel
theorem dX11_echo_45 : decode cX11_echo 45 = .ok (.invokestatic 362, 3) := by decide +kernel
theorem dX11_echo_48 : decode cX11_echo 48 = .ok (.istore_n 3, 1) := by decide +kernel
theorem dX11_echo_49 : decode cX11_echo 49 = .ok (.iinc 5 1, 3) := by decide +kernel
theorem dX11_echo_52 : decode cX11_echo 52 = .ok (.goto (-26), 3) := by decide +kernel
theorem dX11_echo_55 : decode cX11_echo 55 = .ok (.iinc 4 1, 3) := by decide +kernel
theorem dX11_echo_58 : decode cX11_echo 58 = .ok (.goto (-47), 3) := by decide +kernel
theorem dX11_echo_61 : decode cX11_echo 61 = .ok (.iload_n 3, 1) := by decide +kernel
theorem dX11_echo_62 : decode cX11_echo 62 = .ok (.ireturn, 1) := by decide +kernel
theorem dX11_common_0 : decode cX11_common 0 = .ok (.aload_n 0, 1) := by decide +kernel
theorem dX11_common_1 : decode cX11_common 1 = .ok (.iload_n 1, 1) := by decide +kernel
theorem dX11_common_2 : decode cX11_common 2 = .ok (.invokevirtual 153, 3) := by decide +kernel
theorem dX11_common_5 : decode cX11_common 5 = .ok (.astore_n 3, 1) := by decide +kernel
theorem dX11_common_6 : decode cX11_common 6 = .ok (.aload_n 0, 1) := by decide +kernel
theorem dX11_common_7 : decode cX11_common 7 = .ok (.iload_n 2, 1) := by decide +kernel
theorem dX11_common_8 : decode cX11_common 8 = .ok (.invokevirtual 153, 3) := by decide +kernel
theorem dX11_common_11 : decode cX11_common 11 = .ok (.astore 4, 2) := by decide +kernel
theorem dX11_common_13 : decode cX11_common 13 = .ok (.iload_n 1, 1) := by decide +kernel
theorem dX11_common_14 : decode cX11_common 14 = .ok (.iload_n 2, 1) := by decide +kernel
theorem dX11_common_15 : decode cX11_common 15 = .ok (.invokestatic 322, 3) := by decide +kernel
theorem dX11_common_18 : decode cX11_common 18 = .ok (.iconst 0, 1) := by decide +kernel
theorem dX11_common_19 : decode cX11_common 19 = .ok (.istore 5, 2) := by decide +kernel
theorem dX11_common_21 : decode cX11_common 21 = .ok (.iconst 0, 1) := by decide +kernel
theorem dX11_common_22 : decode cX11_common 22 = .ok (.istore 6, 2) := by decide +kernel
theorem dX11_common_24 : decode cX11_common 24 = .ok (.iload 6, 2) := by decide +kernel
theorem dX11_common_26 : decode cX11_common 26 = .ok (.aload_n 3, 1) := by decide +kernel
theorem dX11_common_27 : decode cX11_common 27 = .ok (.getfield 157, 3) := by decide +kernel
theorem dX11_common_30 : decode cX11_common 30 = .ok (.if_icmp .ge 45, 3) := by decide +kernel
theorem dX11_common_33 : decode cX11_common 33 = .ok (.iconst 0, 1) := by decide +kernel
theorem dX11_common_34 : decode cX11_common 34 = .ok (.istore 7, 2) := by decide +kernel
theorem dX11_common_36 : decode cX11_common 36 = .ok (.iload 7, 2) := by decide +kernel
theorem dX11_common_38 : decode cX11_common 38 = .ok (.aload 4, 2) := by decide +kernel
theorem dX11_common_40 : decode cX11_common 40 = .ok (.getfield 157, 3) := by decide +kernel
theorem dX11_common_43 : decode cX11_common 43 = .ok (.if_icmp .ge 26, 3) := by decide +kernel
theorem dX11_common_46 : decode cX11_common 46 = .ok (.iload 5, 2) := by decide +kernel
theorem dX11_common_48 : decode cX11_common 48 = .ok (.aload_n 3, 1) := by decide +kernel
theorem dX11_common_49 : decode cX11_common 49 = .ok (.iload 6, 2) := by decide +kernel
theorem dX11_common_51 : decode cX11_common 51 = .ok (.aload 4, 2) := by decide +kernel
theorem dX11_common_53 : decode cX11_common 53 = .ok (.iload 7, 2) := by decide +kernel
theorem dX11_common_55 : decode cX11_common 55 = .ok (.invokevirtual 358, 3) := by decide +kernel
theorem dX11_common_58 : decode cX11_common 58 = .ok (.invokestatic 362, 3) := by decide +kernel
theorem dX11_common_61 : decode cX11_common 61 = .ok (.istore 5, 2) := by decide +kernel
theorem dX11_common_63 : decode cX11_common 63 = .ok (.iinc 7 1, 3) := by decide +kernel
theorem dX11_common_66 : decode cX11_common 66 = .ok (.goto (-30), 3) := by decide +kernel
theorem dX11_common_69 : decode cX11_common 69 = .ok (.iinc 6 1, 3) := by decide +kernel
theorem dX11_common_72 : decode cX11_common 72 = .ok (.goto (-48), 3) := by decide +kernel
theorem dX11_common_75 : decode cX11_common 75 = .ok (.iload 5, 2) := by decide +kernel
theorem dX11_common_77 : decode cX11_common 77 = .ok (.ireturn, 1) := by decide +kernel
theorem dX11_author_0 : decode cX11_author 0 = .ok (.aload_n 0, 1) := by decide +kernel
theorem dX11_author_1 : decode cX11_author 1 = .ok (.getfield 51, 3) := by decide +kernel
theorem dX11_author_4 : decode cX11_author 4 = .ok (.aload_n 0, 1) := by decide +kernel
theorem dX11_author_5 : decode cX11_author 5 = .ok (.iload_n 1, 1) := by decide +kernel
theorem dX11_author_6 : decode cX11_author 6 = .ok (.invokevirtual 153, 3) := by decide +kernel
theorem dX11_author_9 : decode cX11_author 9 = .ok (.aload_n 0, 1) := by decide +kernel
theorem dX11_author_10 : decode cX11_author 10 = .ok (.getfield 20, 3) := by decide +kernel
theorem dX11_author_13 : decode cX11_author 13 = .ok (.getfield 182, 3) := by decide +kernel
theorem dX11_author_16 : decode cX11_author 16 = .ok (.getfield 185, 3) := by decide +kernel
theorem dX11_author_19 : decode cX11_author 19 = .ok (.invokevirtual 290, 3) := by decide +kernel
theorem dX11_author_22 : decode cX11_author 22 = .ok (.bipush 25, 2) := by decide +kernel
theorem dX11_author_24 : decode cX11_author 24 = .ok (.istore_n 3, 1) := by decide +kernel
theorem dX11_author_25 : decode cX11_author 25 = .ok (.iconst 0, 1) := by decide +kernel
theorem dX11_author_26 : decode cX11_author 26 = .ok (.istore 4, 2) := by decide +kernel
theorem dX11_author_28 : decode cX11_author 28 = .ok (.iconst 0, 1) := by decide +kernel
theorem dX11_author_29 : decode cX11_author 29 = .ok (.istore 5, 2) := by decide +kernel
theorem dX11_author_31 : decode cX11_author 31 = .ok (.iload 5, 2) := by decide +kernel
theorem dX11_author_33 : decode cX11_author 33 = .ok (.bipush 10, 2) := by decide +kernel
theorem dX11_author_35 : decode cX11_author 35 = .ok (.if_icmp .ge 75, 3) := by decide +kernel
theorem dX11_author_38 : decode cX11_author 38 = .ok (.iload_n 2, 1) := by decide +kernel
theorem dX11_author_39 : decode cX11_author 39 = .ok (.ifCond .eq 18, 3) := by decide +kernel
theorem dX11_author_42 : decode cX11_author 42 = .ok (.aload_n 0, 1) := by decide +kernel
theorem dX11_author_43 : decode cX11_author 43 = .ok (.getfield 51, 3) := by decide +kernel
theorem dX11_author_46 : decode cX11_author 46 = .ok (.getfield 297, 3) := by decide +kernel
theorem dX11_author_49 : decode cX11_author 49 = .ok (.iload 5, 2) := by decide +kernel
theorem dX11_author_51 : decode cX11_author 51 = .ok (.putfield 165, 3) := by decide +kernel
theorem dX11_author_54 : decode cX11_author 54 = .ok (.goto 15, 3) := by decide +kernel
theorem dX11_author_57 : decode cX11_author 57 = .ok (.aload_n 0, 1) := by decide +kernel
theorem dX11_author_58 : decode cX11_author 58 = .ok (.getfield 51, 3) := by decide +kernel
theorem dX11_author_61 : decode cX11_author 61 = .ok (.getfield 297, 3) := by decide +kernel
theorem dX11_author_64 : decode cX11_author 64 = .ok (.iload 5, 2) := by decide +kernel
theorem dX11_author_66 : decode cX11_author 66 = .ok (.putfield 162, 3) := by decide +kernel
theorem dX11_author_69 : decode cX11_author 69 = .ok (.aload_n 0, 1) := by decide +kernel
theorem dX11_author_70 : decode cX11_author 70 = .ok (.getfield 20, 3) := by decide +kernel
theorem dX11_author_73 : decode cX11_author 73 = .ok (.getfield 144, 3) := by decide +kernel
theorem dX11_author_76 : decode cX11_author 76 = .ok (.aload_n 0, 1) := by decide +kernel
theorem dX11_author_77 : decode cX11_author 77 = .ok (.getfield 51, 3) := by decide +kernel
theorem dX11_author_80 : decode cX11_author 80 = .ok (.getfield 297, 3) := by decide +kernel
theorem dX11_author_83 : decode cX11_author 83 = .ok (.invokevirtual 315, 3) := by decide +kernel
theorem dX11_author_86 : decode cX11_author 86 = .ok (.invokestatic 350, 3) := by decide +kernel
theorem dX11_author_89 : decode cX11_author 89 = .ok (.istore 6, 2) := by decide +kernel
theorem dX11_author_91 : decode cX11_author 91 = .ok (.iload 6, 2) := by decide +kernel
theorem dX11_author_93 : decode cX11_author 93 = .ok (.iload_n 3, 1) := by decide +kernel
theorem dX11_author_94 : decode cX11_author 94 = .ok (.if_icmp .ge 10, 3) := by decide +kernel
theorem dX11_author_97 : decode cX11_author 97 = .ok (.iload 6, 2) := by decide +kernel
theorem dX11_author_99 : decode cX11_author 99 = .ok (.istore_n 3, 1) := by decide +kernel
theorem dX11_author_100 : decode cX11_author 100 = .ok (.iload 5, 2) := by decide +kernel
theorem dX11_author_102 : decode cX11_author 102 = .ok (.istore 4, 2) := by decide +kernel
theorem dX11_author_104 : decode cX11_author 104 = .ok (.iinc 5 1, 3) := by decide +kernel
theorem dX11_author_107 : decode cX11_author 107 = .ok (.goto (-76), 3) := by decide +kernel
theorem dX11_author_110 : decode cX11_author 110 = .ok (.iload 4, 2) := by decide +kernel
theorem dX11_author_112 : decode cX11_author 112 = .ok (.ireturn, 1) := by decide +kernel
theorem dX11_shelves_0 : decode cX11_shelves 0 = .ok (.iload_n 1, 1) := by decide +kernel
theorem dX11_shelves_1 : decode cX11_shelves 1 = .ok (.iconst 1, 1) := by decide +kernel
theorem dX11_shelves_2 : decode cX11_shelves 2 = .ok (.if_icmp .lt 9, 3) := by decide +kernel
theorem dX11_shelves_5 : decode cX11_shelves 5 = .ok (.iload_n 1, 1) := by decide +kernel
theorem dX11_shelves_6 : decode cX11_shelves 6 = .ok (.bipush 99, 2) := by decide +kernel
theorem dX11_shelves_8 : decode cX11_shelves 8 = .ok (.if_icmp .le 14, 3) := by decide +kernel
theorem dX11_shelves_11 : decode cX11_shelves 11 = .ok (.new 110, 3) := by decide +kernel
theorem dX11_shelves_14 : decode cX11_shelves 14 = .ok (.dup, 1) := by decide +kernel
theorem dX11_shelves_15 : decode cX11_shelves 15 = .ok (.ldc_w 367, 3) := by decide +kernel
theorem dX11_shelves_18 : decode cX11_shelves 18 = .ok (.invokespecial 114, 3) := by decide +kernel
theorem dX11_shelves_21 : decode cX11_shelves 21 = .ok (.athrow, 1) := by decide +kernel
theorem dX11_shelves_22 : decode cX11_shelves 22 = .ok (.iload_n 2, 1) := by decide +kernel
theorem dX11_shelves_23 : decode cX11_shelves 23 = .ok (.iconst 0, 1) := by decide +kernel
theorem dX11_shelves_24 : decode cX11_shelves 24 = .ok (.invokestatic 285, 3) := by decide +kernel
theorem dX11_shelves_27 : decode cX11_shelves 27 = .ok (.aload_n 0, 1) := by decide +kernel
theorem dX11_shelves_28 : decode cX11_shelves 28 = .ok (.getfield 68, 3) := by decide +kernel
theorem dX11_shelves_31 : decode cX11_shelves 31 = .ok (.invokevirtual 369, 3) := by decide +kernel
theorem dX11_shelves_34 : decode cX11_shelves 34 = .ok (.iconst 0, 1) := by decide +kernel
theorem dX11_shelves_35 : decode cX11_shelves 35 = .ok (.istore 4, 2) := by decide +kernel
theorem dX11_shelves_37 : decode cX11_shelves 37 = .ok (.iload 4, 2) := by decide +kernel
theorem dX11_shelves_39 : decode cX11_shelves 39 = .ok (.aload_n 0, 1) := by decide +kernel
theorem dX11_shelves_40 : decode cX11_shelves 40 = .ok (.getfield 20, 3) := by decide +kernel
theorem dX11_shelves_43 : decode cX11_shelves 43 = .ok (.getfield 182, 3) := by decide +kernel
theorem dX11_shelves_46 : decode cX11_shelves 46 = .ok (.getfield 235, 3) := by decide +kernel
theorem dX11_shelves_49 : decode cX11_shelves 49 = .ok (.if_icmp .ge 71, 3) := by decide +kernel
theorem dX11_shelves_52 : decode cX11_shelves 52 = .ok (.aload_n 0, 1) := by decide +kernel
theorem dX11_shelves_53 : decode cX11_shelves 53 = .ok (.getfield 51, 3) := by decide +kernel
theorem dX11_shelves_56 : decode cX11_shelves 56 = .ok (.aload_n 0, 1) := by decide +kernel
theorem dX11_shelves_57 : decode cX11_shelves 57 = .ok (.getfield 20, 3) := by decide +kernel
theorem dX11_shelves_60 : decode cX11_shelves 60 = .ok (.getfield 182, 3) := by decide +kernel
theorem dX11_shelves_63 : decode cX11_shelves 63 = .ok (.getfield 242, 3) := by decide +kernel
theorem dX11_shelves_66 : decode cX11_shelves 66 = .ok (.iload 4, 2) := by decide +kernel
theorem dX11_shelves_68 : decode cX11_shelves 68 = .ok (.aaload, 1) := by decide +kernel
theorem dX11_shelves_69 : decode cX11_shelves 69 = .ok (.aload_n 0, 1) := by decide +kernel
theorem dX11_shelves_70 : decode cX11_shelves 70 = .ok (.getfield 20, 3) := by decide +kernel
theorem dX11_shelves_73 : decode cX11_shelves 73 = .ok (.getfield 182, 3) := by decide +kernel
theorem dX11_shelves_76 : decode cX11_shelves 76 = .ok (.getfield 185, 3) := by decide +kernel
theorem dX11_shelves_79 : decode cX11_shelves 79 = .ok (.invokevirtual 290, 3) := by decide +kernel
theorem dX11_shelves_82 : decode cX11_shelves 82 = .ok (.aload_n 0, 1) := by decide +kernel
theorem dX11_shelves_83 : decode cX11_shelves 83 = .ok (.getfield 51, 3) := by decide +kernel
theorem dX11_shelves_86 : decode cX11_shelves 86 = .ok (.aload_n 0, 1) := by decide +kernel
theorem dX11_shelves_87 : decode cX11_shelves 87 = .ok (.getfield 20, 3) := by decide +kernel
theorem dX11_shelves_90 : decode cX11_shelves 90 = .ok (.getfield 144, 3) := by decide +kernel
theorem dX11_shelves_93 : decode cX11_shelves 93 = .ok (.iload_n 2, 1) := by decide +kernel
theorem dX11_shelves_94 : decode cX11_shelves 94 = .ok (.invokevirtual 293, 3) := by decide +kernel
theorem dX11_shelves_97 : decode cX11_shelves 97 = .ok (.aload_n 0, 1) := by decide +kernel
theorem dX11_shelves_98 : decode cX11_shelves 98 = .ok (.getfield 68, 3) := by decide +kernel
theorem dX11_shelves_101 : decode cX11_shelves 101 = .ok (.aload_n 0, 1) := by decide +kernel
theorem dX11_shelves_102 : decode cX11_shelves 102 = .ok (.getfield 51, 3) := by decide +kernel
theorem dX11_shelves_105 : decode cX11_shelves 105 = .ok (.getfield 297, 3) := by decide +kernel
theorem dX11_shelves_108 : decode cX11_shelves 108 = .ok (.getfield 157, 3) := by decide +kernel
theorem dX11_shelves_111 : decode cX11_shelves 111 = .ok (.invokevirtual 370, 3) := by decide +kernel
theorem dX11_shelves_114 : decode cX11_shelves 114 = .ok (.iinc 4 1, 3) := by decide +kernel
theorem dX11_shelves_117 : decode cX11_shelves 117 = .ok (.goto (-80), 3) := by decide +kernel
theorem dX11_shelves_120 : decode cX11_shelves 120 = .ok (.iload_n 3, 1) := by decide +kernel
theorem dX11_shelves_121 : decode cX11_shelves 121 = .ok (.ifCond .eq 14, 3) := by decide +kernel
theorem dX11_shelves_124 : decode cX11_shelves 124 = .ok (.aload_n 0, 1) := by decide +kernel
theorem dX11_shelves_125 : decode cX11_shelves 125 = .ok (.getfield 68, 3) := by decide +kernel
theorem dX11_shelves_128 : decode cX11_shelves 128 = .ok (.iload_n 1, 1) := by decide +kernel
theorem dX11_shelves_129 : decode cX11_shelves 129 = .ok (.invokevirtual 372, 3) := by decide +kernel
theorem dX11_shelves_132 : decode cX11_shelves 132 = .ok (.goto 11, 3) := by decide +kernel
theorem dX11_shelves_135 : decode cX11_shelves 135 = .ok (.aload_n 0, 1) := by decide +kernel
theorem dX11_shelves_136 : decode cX11_shelves 136 = .ok (.getfield 68, 3) := by decide +kernel
theorem dX11_shelves_139 : decode cX11_shelves 139 = .ok (.iload_n 1, 1) := by decide +kernel
theorem dX11_shelves_140 : decode cX11_shelves 140 = .ok (.invokevirtual 375, 3) := by decide +kernel
theorem dX11_shelves_143 : decode cX11_shelves 143 = .ok (.ireturn, 1) := by decide +kernel
theorem dX11_tempers_0 : decode cX11_tempers 0 = .ok (.aload_n 0, 1) := by decide +kernel
theorem dX11_tempers_1 : decode cX11_tempers 1 = .ok (.iload_n 1, 1) := by decide +kernel
theorem dX11_tempers_2 : decode cX11_tempers 2 = .ok (.invokevirtual 153, 3) := by decide +kernel
theorem dX11_tempers_5 : decode cX11_tempers 5 = .ok (.astore 4, 2) := by decide +kernel
theorem dX11_tempers_7 : decode cX11_tempers 7 = .ok (.iload_n 3, 1) := by decide +kernel
theorem dX11_tempers_8 : decode cX11_tempers 8 = .ok (.iconst (-1), 1) := by decide +kernel
theorem dX11_tempers_9 : decode cX11_tempers 9 = .ok (.if_icmp .eq 7, 3) := by decide +kernel
theorem dX11_tempers_12 : decode cX11_tempers 12 = .ok (.iload_n 3, 1) := by decide +kernel
theorem dX11_tempers_13 : decode cX11_tempers 13 = .ok (.invokestatic 208, 3) := by decide +kernel
theorem dX11_tempers_16 : decode cX11_tempers 16 = .ok (.iload_n 2, 1) := by decide +kernel
theorem dX11_tempers_17 : decode cX11_tempers 17 = .ok (.iconst 0, 1) := by decide +kernel
theorem dX11_tempers_18 : decode cX11_tempers 18 = .ok (.invokestatic 285, 3) := by decide +kernel
theorem dX11_tempers_21 : decode cX11_tempers 21 = .ok (.aload_n 0, 1) := by decide +kernel
theorem dX11_tempers_22 : decode cX11_tempers 22 = .ok (.aload 4, 2) := by decide +kernel
theorem dX11_tempers_24 : decode cX11_tempers 24 = .ok (.iload_n 2, 1) := by decide +kernel
theorem dX11_tempers_25 : decode cX11_tempers 25 = .ok (.invokevirtual 378, 3) := by decide +kernel
theorem dX11_tempers_28 : decode cX11_tempers 28 = .ok (.iload_n 3, 1) := by decide +kernel
theorem dX11_tempers_29 : decode cX11_tempers 29 = .ok (.ifCond .lt 16, 3) := by decide +kernel
theorem dX11_tempers_32 : decode cX11_tempers 32 = .ok (.iload_n 3, 1) := by decide +kernel
theorem dX11_tempers_33 : decode cX11_tempers 33 = .ok (.bipush 12, 2) := by decide +kernel
theorem dX11_tempers_35 : decode cX11_tempers 35 = .ok (.if_icmp .ge 10, 3) := by decide +kernel
theorem dX11_tempers_38 : decode cX11_tempers 38 = .ok (.aload_n 0, 1) := by decide +kernel
theorem dX11_tempers_39 : decode cX11_tempers 39 = .ok (.getfield 77, 3) := by decide +kernel
theorem dX11_tempers_42 : decode cX11_tempers 42 = .ok (.iload_n 3, 1) := by decide +kernel
theorem dX11_tempers_43 : decode cX11_tempers 43 = .ok (.iaload, 1) := by decide +kernel
theorem dX11_tempers_44 : decode cX11_tempers 44 = .ok (.ireturn, 1) := by decide +kernel
theorem dX11_tempers_45 : decode cX11_tempers 45 = .ok (.iconst 0, 1) := by decide +kernel
theorem dX11_tempers_46 : decode cX11_tempers 46 = .ok (.istore 5, 2) := by decide +kernel
theorem dX11_tempers_48 : decode cX11_tempers 48 = .ok (.iconst 1, 1) := by decide +kernel
theorem dX11_tempers_49 : decode cX11_tempers 49 = .ok (.istore 6, 2) := by decide +kernel
theorem dX11_tempers_51 : decode cX11_tempers 51 = .ok (.iload 6, 2) := by decide +kernel
theorem dX11_tempers_53 : decode cX11_tempers 53 = .ok (.bipush 12, 2) := by decide +kernel
theorem dX11_tempers_55 : decode cX11_tempers 55 = .ok (.if_icmp .ge 30, 3) := by decide +kernel
theorem dX11_tempers_58 : decode cX11_tempers 58 = .ok (.aload_n 0, 1) := by decide +kernel
theorem dX11_tempers_59 : decode cX11_tempers 59 = .ok (.getfield 77, 3) := by decide +kernel
theorem dX11_tempers_62 : decode cX11_tempers 62 = .ok (.iload 6, 2) := by decide +kernel
theorem dX11_tempers_64 : decode cX11_tempers 64 = .ok (.iaload, 1) := by decide +kernel
theorem dX11_tempers_65 : decode cX11_tempers 65 = .ok (.aload_n 0, 1) := by decide +kernel
theorem dX11_tempers_66 : decode cX11_tempers 66 = .ok (.getfield 77, 3) := by decide +kernel
theorem dX11_tempers_69 : decode cX11_tempers 69 = .ok (.iload 5, 2) := by decide +kernel
theorem dX11_tempers_71 : decode cX11_tempers 71 = .ok (.iaload, 1) := by decide +kernel
theorem dX11_tempers_72 : decode cX11_tempers 72 = .ok (.if_icmp .le 7, 3) := by decide +kernel
theorem dX11_tempers_75 : decode cX11_tempers 75 = .ok (.iload 6, 2) := by decide +kernel
theorem dX11_tempers_77 : decode cX11_tempers 77 = .ok (.istore 5, 2) := by decide +kernel
theorem dX11_tempers_79 : decode cX11_tempers 79 = .ok (.iinc 6 1, 3) := by decide +kernel
theorem dX11_tempers_82 : decode cX11_tempers 82 = .ok (.goto (-31), 3) := by decide +kernel
theorem dX11_tempers_85 : decode cX11_tempers 85 = .ok (.iload 5, 2) := by decide +kernel
theorem dX11_tempers_87 : decode cX11_tempers 87 = .ok (.ireturn, 1) := by decide +kernel
theorem dX11_trial_0 : decode cX11_trial 0 = .ok (.iload_n 2, 1) := by decide +kernel
theorem dX11_trial_1 : decode cX11_trial 1 = .ok (.iconst (-1), 1) := by decide +kernel
theorem dX11_trial_2 : decode cX11_trial 2 = .ok (.if_icmp .eq 8, 3) := by decide +kernel
theorem dX11_trial_5 : decode cX11_trial 5 = .ok (.aload_n 0, 1) := by decide +kernel
theorem dX11_trial_6 : decode cX11_trial 6 = .ok (.iload_n 2, 1) := by decide +kernel
theorem dX11_trial_7 : decode cX11_trial 7 = .ok (.invokevirtual 269, 3) := by decide +kernel
theorem dX11_trial_10 : decode cX11_trial 10 = .ok (.iload_n 1, 1) := by decide +kernel
theorem dX11_trial_11 : decode cX11_trial 11 = .ok (.iconst 0, 1) := by decide +kernel
theorem dX11_trial_12 : decode cX11_trial 12 = .ok (.invokestatic 285, 3) := by decide +kernel
theorem dX11_trial_15 : decode cX11_trial 15 = .ok (.aload_n 0, 1) := by decide +kernel
theorem dX11_trial_16 : decode cX11_trial 16 = .ok (.iload_n 1, 1) := by decide +kernel
theorem dX11_trial_17 : decode cX11_trial 17 = .ok (.aload_n 0, 1) := by decide +kernel
theorem dX11_trial_18 : decode cX11_trial 18 = .ok (.getfield 20, 3) := by decide +kernel
theorem dX11_trial_21 : decode cX11_trial 21 = .ok (.getfield 182, 3) := by decide +kernel
theorem dX11_trial_24 : decode cX11_trial 24 = .ok (.getfield 381, 3) := by decide +kernel
theorem dX11_trial_27 : decode cX11_trial 27 = .ok (.invokevirtual 384, 3) := by decide +kernel
theorem dX11_trial_30 : decode cX11_trial 30 = .ok (.iload_n 2, 1) := by decide +kernel
theorem dX11_trial_31 : decode cX11_trial 31 = .ok (.ifCond .ge 13, 3) := by decide +kernel
theorem dX11_trial_34 : decode cX11_trial 34 = .ok (.aload_n 0, 1) := by decide +kernel
theorem dX11_trial_35 : decode cX11_trial 35 = .ok (.getfield 61, 3) := by decide +kernel
theorem dX11_trial_38 : decode cX11_trial 38 = .ok (.invokevirtual 387, 3) := by decide +kernel
theorem dX11_trial_41 : decode cX11_trial 41 = .ok (.goto 15, 3) := by decide +kernel
theorem dX11_trial_44 : decode cX11_trial 44 = .ok (.aload_n 0, 1) := by decide +kernel
theorem dX11_trial_45 : decode cX11_trial 45 = .ok (.getfield 61, 3) := by decide +kernel
theorem dX11_trial_48 : decode cX11_trial 48 = .ok (.getfield 242, 3) := by decide +kernel
theorem dX11_trial_51 : decode cX11_trial 51 = .ok (.iload_n 2, 1) := by decide +kernel
theorem dX11_trial_52 : decode cX11_trial 52 = .ok (.aaload, 1) := by decide +kernel
theorem dX11_trial_53 : decode cX11_trial 53 = .ok (.invokevirtual 178, 3) := by decide +kernel
theorem dX11_trial_56 : decode cX11_trial 56 = .ok (.ireturn, 1) := by decide +kernel
theorem dX11_span_0 : decode cX11_span 0 = .ok (.iload_n 1, 1) := by decide +kernel
theorem dX11_span_1 : decode cX11_span 1 = .ok (.iconst 0, 1) := by decide +kernel
theorem dX11_span_2 : decode cX11_span 2 = .ok (.invokestatic 285, 3) := by decide +kernel
theorem dX11_span_5 : decode cX11_span 5 = .ok (.sipush 192, 3) := by decide +kernel
theorem dX11_span_8 : decode cX11_span 8 = .ok (.istore_n 3, 1) := by decide +kernel
theorem dX11_span_9 : decode cX11_span 9 = .ok (.iconst 0, 1) := by decide +kernel
theorem dX11_span_10 : decode cX11_span 10 = .ok (.istore 4, 2) := by decide +kernel
theorem dX11_span_12 : decode cX11_span 12 = .ok (.iconst 1, 1) := by decide +kernel
theorem dX11_span_13 : decode cX11_span 13 = .ok (.istore 5, 2) := by decide +kernel
theorem dX11_span_15 : decode cX11_span 15 = .ok (.iload 5, 2) := by decide +kernel
theorem dX11_span_17 : decode cX11_span 17 = .ok (.bipush 6, 2) := by decide +kernel
theorem dX11_span_19 : decode cX11_span 19 = .ok (.if_icmp .gt 41, 3) := by decide +kernel
theorem dX11_span_22 : decode cX11_span 22 = .ok (.aload_n 0, 1) := by decide +kernel
theorem dX11_span_23 : decode cX11_span 23 = .ok (.iload_n 1, 1) := by decide +kernel
theorem dX11_span_24 : decode cX11_span 24 = .ok (.iload 5, 2) := by decide +kernel
theorem dX11_span_26 : decode cX11_span 26 = .ok (.invokevirtual 384, 3) := by decide +kernel
theorem dX11_span_29 : decode cX11_span 29 = .ok (.aload_n 0, 1) := by decide +kernel
theorem dX11_span_30 : decode cX11_span 30 = .ok (.getfield 61, 3) := by decide +kernel
theorem dX11_span_33 : decode cX11_span 33 = .ok (.invokevirtual 387, 3) := by decide +kernel
theorem dX11_span_36 : decode cX11_span 36 = .ok (.istore 6, 2) := by decide +kernel
theorem dX11_span_38 : decode cX11_span 38 = .ok (.iload_n 3, 1) := by decide +kernel
theorem dX11_span_39 : decode cX11_span 39 = .ok (.iload 6, 2) := by decide +kernel
theorem dX11_span_41 : decode cX11_span 41 = .ok (.invokestatic 390, 3) := by decide +kernel
theorem dX11_span_44 : decode cX11_span 44 = .ok (.istore_n 3, 1) := by decide +kernel
theorem dX11_span_45 : decode cX11_span 45 = .ok (.iload 4, 2) := by decide +kernel
theorem dX11_span_47 : decode cX11_span 47 = .ok (.iload 6, 2) := by decide +kernel
theorem dX11_span_49 : decode cX11_span 49 = .ok (.invokestatic 362, 3) := by decide +kernel
theorem dX11_span_52 : decode cX11_span 52 = .ok (.istore 4, 2) := by decide +kernel
theorem dX11_span_54 : decode cX11_span 54 = .ok (.iinc 5 1, 3) := by decide +kernel
theorem dX11_span_57 : decode cX11_span 57 = .ok (.goto (-42), 3) := by decide +kernel
theorem dX11_span_60 : decode cX11_span 60 = .ok (.iload_n 2, 1) := by decide +kernel
theorem dX11_span_61 : decode cX11_span 61 = .ok (.ifCond .eq 8, 3) := by decide +kernel
theorem dX11_span_64 : decode cX11_span 64 = .ok (.iload 4, 2) := by decide +kernel
theorem dX11_span_66 : decode cX11_span 66 = .ok (.goto 4, 3) := by decide +kernel
theorem dX11_span_69 : decode cX11_span 69 = .ok (.iload_n 3, 1) := by decide +kernel
theorem dX11_span_70 : decode cX11_span 70 = .ok (.ireturn, 1) := by decide +kernel
theorem dX11_latest_0 : decode cX11_latest 0 = .ok (.iconst 0, 1) := by decide +kernel
theorem dX11_latest_1 : decode cX11_latest 1 = .ok (.istore_n 2, 1) := by decide +kernel
theorem dX11_latest_2 : decode cX11_latest 2 = .ok (.iconst (-1), 1) := by decide +kernel
theorem dX11_latest_3 : decode cX11_latest 3 = .ok (.istore_n 3, 1) := by decide +kernel
theorem dX11_latest_4 : decode cX11_latest 4 = .ok (.iconst 0, 1) := by decide +kernel
theorem dX11_latest_5 : decode cX11_latest 5 = .ok (.istore 4, 2) := by decide +kernel
theorem dX11_latest_7 : decode cX11_latest 7 = .ok (.iload 4, 2) := by decide +kernel
theorem dX11_latest_9 : decode cX11_latest 9 = .ok (.aload_n 0, 1) := by decide +kernel
theorem dX11_latest_10 : decode cX11_latest 10 = .ok (.getfield 20, 3) := by decide +kernel
theorem dX11_latest_13 : decode cX11_latest 13 = .ok (.getfield 182, 3) := by decide +kernel
theorem dX11_latest_16 : decode cX11_latest 16 = .ok (.getfield 235, 3) := by decide +kernel
theorem dX11_latest_19 : decode cX11_latest 19 = .ok (.if_icmp .ge 40, 3) := by decide +kernel
theorem dX11_latest_22 : decode cX11_latest 22 = .ok (.aload_n 0, 1) := by decide +kernel
theorem dX11_latest_23 : decode cX11_latest 23 = .ok (.getfield 20, 3) := by decide +kernel
theorem dX11_latest_26 : decode cX11_latest 26 = .ok (.getfield 182, 3) := by decide +kernel
theorem dX11_latest_29 : decode cX11_latest 29 = .ok (.getfield 242, 3) := by decide +kernel
theorem dX11_latest_32 : decode cX11_latest 32 = .ok (.iload 4, 2) := by decide +kernel
theorem dX11_latest_34 : decode cX11_latest 34 = .ok (.aaload, 1) := by decide +kernel
theorem dX11_latest_35 : decode cX11_latest 35 = .ok (.iload_n 1, 1) := by decide +kernel
theorem dX11_latest_36 : decode cX11_latest 36 = .ok (.invokevirtual 393, 3) := by decide +kernel
theorem dX11_latest_39 : decode cX11_latest 39 = .ok (.istore 5, 2) := by decide +kernel
theorem dX11_latest_41 : decode cX11_latest 41 = .ok (.iload 5, 2) := by decide +kernel
theorem dX11_latest_43 : decode cX11_latest 43 = .ok (.iload_n 2, 1) := by decide +kernel
theorem dX11_latest_44 : decode cX11_latest 44 = .ok (.if_icmp .le 9, 3) := by decide +kernel
theorem dX11_latest_47 : decode cX11_latest 47 = .ok (.iload 5, 2) := by decide +kernel
theorem dX11_latest_49 : decode cX11_latest 49 = .ok (.istore_n 2, 1) := by decide +kernel
theorem dX11_latest_50 : decode cX11_latest 50 = .ok (.iload 4, 2) := by decide +kernel
theorem dX11_latest_52 : decode cX11_latest 52 = .ok (.istore_n 3, 1) := by decide +kernel
theorem dX11_latest_53 : decode cX11_latest 53 = .ok (.iinc 4 1, 3) := by decide +kernel
theorem dX11_latest_56 : decode cX11_latest 56 = .ok (.goto (-49), 3) := by decide +kernel
theorem dX11_latest_59 : decode cX11_latest 59 = .ok (.iload_n 3, 1) := by decide +kernel
theorem dX11_latest_60 : decode cX11_latest 60 = .ok (.ireturn, 1) := by decide +kernel
theorem dX11_seed_0 : decode cX11_seed 0 = .ok (.aload_n 0, 1) := by decide +kernel
theorem dX11_seed_1 : decode cX11_seed 1 = .ok (.getfield 20, 3) := by decide +kernel
theorem dX11_seed_4 : decode cX11_seed 4 = .ok (.getfield 182, 3) := by decide +kernel
theorem dX11_seed_7 : decode cX11_seed 7 = .ok (.getfield 381, 3) := by decide +kernel
theorem dX11_seed_10 : decode cX11_seed 10 = .ok (.istore_n 2, 1) := by decide +kernel
theorem dX11_seed_11 : decode cX11_seed 11 = .ok (.aload_n 0, 1) := by decide +kernel
theorem dX11_seed_12 : decode cX11_seed 12 = .ok (.getfield 20, 3) := by decide +kernel
theorem dX11_seed_15 : decode cX11_seed 15 = .ok (.getfield 182, 3) := by decide +kernel
theorem dX11_seed_18 : decode cX11_seed 18 = .ok (.iload_n 1, 1) := by decide +kernel
theorem dX11_seed_19 : decode cX11_seed 19 = .ok (.putfield 381, 3) := by decide +kernel
theorem dX11_seed_22 : decode cX11_seed 22 = .ok (.iload_n 2, 1) := by decide +kernel
theorem dX11_seed_23 : decode cX11_seed 23 = .ok (.ireturn, 1) := by decide +kernel
theorem dX11_undo_0 : decode cX11_undo 0 = .ok (.aload_n 0, 1) := by decide +kernel
theorem dX11_undo_1 : decode cX11_undo 1 = .ok (.getfield 30, 3) := by decide +kernel
theorem dX11_undo_4 : decode cX11_undo 4 = .ok (.aload_n 0, 1) := by decide +kernel
theorem dX11_undo_5 : decode cX11_undo 5 = .ok (.getfield 20, 3) := by decide +kernel
theorem dX11_undo_8 : decode cX11_undo 8 = .ok (.getfield 182, 3) := by decide +kernel
theorem dX11_undo_11 : decode cX11_undo 11 = .ok (.invokevirtual 396, 3) := by decide +kernel
theorem dX11_undo_14 : decode cX11_undo 14 = .ok (.ireturn, 1) := by decide +kernel
theorem dX11_image_0 : decode cX11_image 0 = .ok (.aload_n 0, 1) := by decide +kernel
theorem dX11_image_1 : decode cX11_image 1 = .ok (.getfield 24, 3) := by decide +kernel
theorem dX11_image_4 : decode cX11_image 4 = .ok (.aload_n 0, 1) := by decide +kernel
theorem dX11_image_5 : decode cX11_image 5 = .ok (.getfield 20, 3) := by decide +kernel
theorem dX11_image_8 : decode cX11_image 8 = .ok (.invokevirtual 90, 3) := by decide +kernel
theorem dX11_image_11 : decode cX11_image 11 = .ok (.aload_n 0, 1) := by decide +kernel
theorem dX11_image_12 : decode cX11_image 12 = .ok (.iconst 1, 1) := by decide +kernel
theorem dX11_image_13 : decode cX11_image 13 = .ok (.putfield 400, 3) := by decide +kernel
theorem dX11_image_16 : decode cX11_image 16 = .ok (.return_, 1) := by decide +kernel
theorem dX11_back_0 : decode cX11_back 0 = .ok (.aload_n 0, 1) := by decide +kernel
theorem dX11_back_1 : decode cX11_back 1 = .ok (.getfield 400, 3) := by decide +kernel
theorem dX11_back_4 : decode cX11_back 4 = .ok (.ifCond .ne 5, 3) := by decide +kernel
theorem dX11_back_7 : decode cX11_back 7 = .ok (.iconst 0, 1) := by decide +kernel
theorem dX11_back_8 : decode cX11_back 8 = .ok (.ireturn, 1) := by decide +kernel
theorem dX11_back_9 : decode cX11_back 9 = .ok (.aload_n 0, 1) := by decide +kernel
theorem dX11_back_10 : decode cX11_back 10 = .ok (.getfield 20, 3) := by decide +kernel
theorem dX11_back_13 : decode cX11_back 13 = .ok (.aload_n 0, 1) := by decide +kernel
theorem dX11_back_14 : decode cX11_back 14 = .ok (.getfield 24, 3) := by decide +kernel
theorem dX11_back_17 : decode cX11_back 17 = .ok (.invokevirtual 90, 3) := by decide +kernel
theorem dX11_back_20 : decode cX11_back 20 = .ok (.aload_n 0, 1) := by decide +kernel
theorem dX11_back_21 : decode cX11_back 21 = .ok (.getfield 30, 3) := by decide +kernel
theorem dX11_back_24 : decode cX11_back 24 = .ok (.invokevirtual 125, 3) := by decide +kernel
theorem dX11_back_27 : decode cX11_back 27 = .ok (.iconst 1, 1) := by decide +kernel
theorem dX11_back_28 : decode cX11_back 28 = .ok (.ireturn, 1) := by decide +kernel
theorem dX11_count_0 : decode cX11_count 0 = .ok (.iload_n 1, 1) := by decide +kernel
theorem dX11_count_1 : decode cX11_count 1 = .ok (.tableswitch 185 0 10 #[59, 70, 78, 86, 114, 125, 133, 144, 155, 166, 177], 59) := by decide +kernel
theorem dX11_count_60 : decode cX11_count 60 = .ok (.aload_n 0, 1) := by decide +kernel
theorem dX11_count_61 : decode cX11_count 61 = .ok (.getfield 20, 3) := by decide +kernel
theorem dX11_count_64 : decode cX11_count 64 = .ok (.getfield 182, 3) := by decide +kernel
theorem dX11_count_67 : decode cX11_count 67 = .ok (.getfield 235, 3) := by decide +kernel
theorem dX11_count_70 : decode cX11_count 70 = .ok (.ireturn, 1) := by decide +kernel
theorem dX11_count_71 : decode cX11_count 71 = .ok (.aload_n 0, 1) := by decide +kernel
theorem dX11_count_72 : decode cX11_count 72 = .ok (.getfield 20, 3) := by decide +kernel
theorem dX11_count_75 : decode cX11_count 75 = .ok (.getfield 403, 3) := by decide +kernel
theorem dX11_count_78 : decode cX11_count 78 = .ok (.ireturn, 1) := by decide +kernel
theorem dX11_count_79 : decode cX11_count 79 = .ok (.aload_n 0, 1) := by decide +kernel
theorem dX11_count_80 : decode cX11_count 80 = .ok (.getfield 20, 3) := by decide +kernel
theorem dX11_count_83 : decode cX11_count 83 = .ok (.getfield 117, 3) := by decide +kernel
theorem dX11_count_86 : decode cX11_count 86 = .ok (.ireturn, 1) := by decide +kernel
theorem dX11_count_87 : decode cX11_count 87 = .ok (.aload_n 0, 1) := by decide +kernel
theorem dX11_count_88 : decode cX11_count 88 = .ok (.getfield 20, 3) := by decide +kernel
theorem dX11_count_91 : decode cX11_count 91 = .ok (.getfield 144, 3) := by decide +kernel
theorem dX11_count_94 : decode cX11_count 94 = .ok (.getfield 140, 3) := by decide +kernel
theorem dX11_count_97 : decode cX11_count 97 = .ok (.ifCond .eq 16, 3) := by decide +kernel
theorem dX11_count_100 : decode cX11_count 100 = .ok (.aload_n 0, 1) := by decide +kernel
theorem dX11_count_101 : decode cX11_count 101 = .ok (.getfield 20, 3) := by decide +kernel
theorem dX11_count_104 : decode cX11_count 104 = .ok (.getfield 144, 3) := by decide +kernel
theorem dX11_count_107 : decode cX11_count 107 = .ok (.getfield 150, 3) := by decide +kernel
theorem dX11_count_110 : decode cX11_count 110 = .ok (.goto 4, 3) := by decide +kernel
theorem dX11_count_113 : decode cX11_count 113 = .ok (.iconst (-1), 1) := by decide +kernel
theorem dX11_count_114 : decode cX11_count 114 = .ok (.ireturn, 1) := by decide +kernel
theorem dX11_count_115 : decode cX11_count 115 = .ok (.aload_n 0, 1) := by decide +kernel
theorem dX11_count_116 : decode cX11_count 116 = .ok (.getfield 20, 3) := by decide +kernel
theorem dX11_count_119 : decode cX11_count 119 = .ok (.getfield 182, 3) := by decide +kernel
theorem dX11_count_122 : decode cX11_count 122 = .ok (.getfield 185, 3) := by decide +kernel
theorem dX11_count_125 : decode cX11_count 125 = .ok (.ireturn, 1) := by decide +kernel
theorem dX11_count_126 : decode cX11_count 126 = .ok (.aload_n 0, 1) := by decide +kernel
theorem dX11_count_127 : decode cX11_count 127 = .ok (.getfield 20, 3) := by decide +kernel
theorem dX11_count_130 : decode cX11_count 130 = .ok (.getfield 275, 3) := by decide +kernel
theorem dX11_count_133 : decode cX11_count 133 = .ok (.ireturn, 1) := by decide +kernel
theorem dX11_count_134 : decode cX11_count 134 = .ok (.aload_n 0, 1) := by decide +kernel
theorem dX11_count_135 : decode cX11_count 135 = .ok (.getfield 20, 3) := by decide +kernel
theorem dX11_count_138 : decode cX11_count 138 = .ok (.getfield 182, 3) := by decide +kernel
theorem dX11_count_141 : decode cX11_count 141 = .ok (.invokevirtual 387, 3) := by decide +kernel
theorem dX11_count_144 : decode cX11_count 144 = .ok (.ireturn, 1) := by decide +kernel
theorem dX11_count_145 : decode cX11_count 145 = .ok (.aload_n 0, 1) := by decide +kernel
theorem dX11_count_146 : decode cX11_count 146 = .ok (.getfield 20, 3) := by decide +kernel
theorem dX11_count_149 : decode cX11_count 149 = .ok (.getfield 182, 3) := by decide +kernel
theorem dX11_count_152 : decode cX11_count 152 = .ok (.invokevirtual 406, 3) := by decide +kernel
theorem dX11_count_155 : decode cX11_count 155 = .ok (.ireturn, 1) := by decide +kernel
theorem dX11_count_156 : decode cX11_count 156 = .ok (.aload_n 0, 1) := by decide +kernel
theorem dX11_count_157 : decode cX11_count 157 = .ok (.getfield 20, 3) := by decide +kernel
theorem dX11_count_160 : decode cX11_count 160 = .ok (.getfield 182, 3) := by decide +kernel
theorem dX11_count_163 : decode cX11_count 163 = .ok (.invokevirtual 409, 3) := by decide +kernel
theorem dX11_count_166 : decode cX11_count 166 = .ok (.ireturn, 1) := by decide +kernel
theorem dX11_count_167 : decode cX11_count 167 = .ok (.aload_n 0, 1) := by decide +kernel
theorem dX11_count_168 : decode cX11_count 168 = .ok (.getfield 20, 3) := by decide +kernel
theorem dX11_count_171 : decode cX11_count 171 = .ok (.getfield 182, 3) := by decide +kernel
theorem dX11_count_174 : decode cX11_count 174 = .ok (.getfield 282, 3) := by decide +kernel
theorem dX11_count_177 : decode cX11_count 177 = .ok (.ireturn, 1) := by decide +kernel
theorem dX11_count_178 : decode cX11_count 178 = .ok (.aload_n 0, 1) := by decide +kernel
theorem dX11_count_179 : decode cX11_count 179 = .ok (.getfield 30, 3) := by decide +kernel
theorem dX11_count_182 : decode cX11_count 182 = .ok (.getfield 412, 3) := by decide +kernel
theorem dX11_count_185 : decode cX11_count 185 = .ok (.ireturn, 1) := by decide +kernel
theorem dX11_count_186 : decode cX11_count 186 = .ok (.iconst (-1), 1) := by decide +kernel
theorem dX11_count_187 : decode cX11_count 187 = .ok (.ireturn, 1) := by decide +kernel
theorem dX11_putBytes_0 : decode cX11_putBytes 0 = .ok (.bipush 24, 2) := by decide +kernel
theorem dX11_putBytes_2 : decode cX11_putBytes 2 = .ok (.istore_n 2, 1) := by decide +kernel
theorem dX11_putBytes_3 : decode cX11_putBytes 3 = .ok (.iload_n 2, 1) := by decide +kernel
theorem dX11_putBytes_4 : decode cX11_putBytes 4 = .ok (.ifCond .lt 45, 3) := by decide +kernel
theorem dX11_putBytes_7 : decode cX11_putBytes 7 = .ok (.aload_n 0, 1) := by decide +kernel
theorem dX11_putBytes_8 : decode cX11_putBytes 8 = .ok (.getfield 80, 3) := by decide +kernel
theorem dX11_putBytes_11 : decode cX11_putBytes 11 = .ok (.sipush 400, 3) := by decide +kernel
theorem dX11_putBytes_14 : decode cX11_putBytes 14 = .ok (.if_icmp .ge 29, 3) := by decide +kernel
theorem dX11_putBytes_17 : decode cX11_putBytes 17 = .ok (.aload_n 0, 1) := by decide +kernel
theorem dX11_putBytes_18 : decode cX11_putBytes 18 = .ok (.getfield 9, 3) := by decide +kernel
theorem dX11_putBytes_21 : decode cX11_putBytes 21 = .ok (.aload_n 0, 1) := by decide +kernel
theorem dX11_putBytes_22 : decode cX11_putBytes 22 = .ok (.getfield 80, 3) := by decide +kernel
theorem dX11_putBytes_25 : decode cX11_putBytes 25 = .ok (.iload_n 1, 1) := by decide +kernel
theorem dX11_putBytes_26 : decode cX11_putBytes 26 = .ok (.iload_n 2, 1) := by decide +kernel
theorem dX11_putBytes_27 : decode cX11_putBytes 27 = .ok (.iushr, 1) := by decide +kernel
theorem dX11_putBytes_28 : decode cX11_putBytes 28 = .ok (.sipush 255, 3) := by decide +kernel
theorem dX11_putBytes_31 : decode cX11_putBytes 31 = .ok (.iand, 1) := by decide +kernel
theorem dX11_putBytes_32 : decode cX11_putBytes 32 = .ok (.iastore, 1) := by decide +kernel
theorem dX11_putBytes_33 : decode cX11_putBytes 33 = .ok (.aload_n 0, 1) := by decide +kernel
theorem dX11_putBytes_34 : decode cX11_putBytes 34 = .ok (.dup, 1) := by decide +kernel
theorem dX11_putBytes_35 : decode cX11_putBytes 35 = .ok (.getfield 80, 3) := by decide +kernel
theorem dX11_putBytes_38 : decode cX11_putBytes 38 = .ok (.iconst 1, 1) := by decide +kernel
theorem dX11_putBytes_39 : decode cX11_putBytes 39 = .ok (.iadd, 1) := by decide +kernel
theorem dX11_putBytes_40 : decode cX11_putBytes 40 = .ok (.putfield 80, 3) := by decide +kernel
theorem dX11_putBytes_43 : decode cX11_putBytes 43 = .ok (.iinc 2 (-8), 3) := by decide +kernel
theorem dX11_putBytes_46 : decode cX11_putBytes 46 = .ok (.goto (-43), 3) := by decide +kernel
theorem dX11_putBytes_49 : decode cX11_putBytes 49 = .ok (.return_, 1) := by decide +kernel
theorem dX11_endReading_0 : decode cX11_endReading 0 = .ok (.aload_n 0, 1) := by decide +kernel
theorem dX11_endReading_1 : decode cX11_endReading 1 = .ok (.iconst 0, 1) := by decide +kernel
theorem dX11_endReading_2 : decode cX11_endReading 2 = .ok (.putfield 80, 3) := by decide +kernel
theorem dX11_endReading_5 : decode cX11_endReading 5 = .ok (.aload_n 0, 1) := by decide +kernel
theorem dX11_endReading_6 : decode cX11_endReading 6 = .ok (.iload_n 1, 1) := by decide +kernel
theorem dX11_endReading_7 : decode cX11_endReading 7 = .ok (.putfield 13, 3) := by decide +kernel
theorem dX11_endReading_10 : decode cX11_endReading 10 = .ok (.return_, 1) := by decide +kernel
theorem dX11_areKinds_0 : decode cX11_areKinds 0 = .ok (.iload_n 1, 1) := by decide +kernel
theorem dX11_areKinds_1 : decode cX11_areKinds 1 = .ok (.iconst 1, 1) := by decide +kernel
theorem dX11_areKinds_2 : decode cX11_areKinds 2 = .ok (.if_icmp .lt 9, 3) := by decide +kernel
theorem dX11_areKinds_5 : decode cX11_areKinds 5 = .ok (.iload_n 1, 1) := by decide +kernel
theorem dX11_areKinds_6 : decode cX11_areKinds 6 = .ok (.bipush 24, 2) := by decide +kernel
theorem dX11_areKinds_8 : decode cX11_areKinds 8 = .ok (.if_icmp .le 5, 3) := by decide +kernel
theorem dX11_areKinds_11 : decode cX11_areKinds 11 = .ok (.iconst 0, 1) := by decide +kernel
theorem dX11_areKinds_12 : decode cX11_areKinds 12 = .ok (.ireturn, 1) := by decide +kernel
theorem dX11_areKinds_13 : decode cX11_areKinds 13 = .ok (.iconst 0, 1) := by decide +kernel
theorem dX11_areKinds_14 : decode cX11_areKinds 14 = .ok (.istore_n 2, 1) := by decide +kernel
theorem dX11_areKinds_15 : decode cX11_areKinds 15 = .ok (.iload_n 2, 1) := by decide +kernel
theorem dX11_areKinds_16 : decode cX11_areKinds 16 = .ok (.iload_n 1, 1) := by decide +kernel
theorem dX11_areKinds_17 : decode cX11_areKinds 17 = .ok (.if_icmp .ge 31, 3) := by decide +kernel
theorem dX11_areKinds_20 : decode cX11_areKinds 20 = .ok (.aload_n 0, 1) := by decide +kernel
theorem dX11_areKinds_21 : decode cX11_areKinds 21 = .ok (.getfield 9, 3) := by decide +kernel
theorem dX11_areKinds_24 : decode cX11_areKinds 24 = .ok (.iload_n 2, 1) := by decide +kernel
theorem dX11_areKinds_25 : decode cX11_areKinds 25 = .ok (.iaload, 1) := by decide +kernel
theorem dX11_areKinds_26 : decode cX11_areKinds 26 = .ok (.ifCond .lt 14, 3) := by decide +kernel
theorem dX11_areKinds_29 : decode cX11_areKinds 29 = .ok (.aload_n 0, 1) := by decide +kernel
theorem dX11_areKinds_30 : decode cX11_areKinds 30 = .ok (.getfield 9, 3) := by decide +kernel
theorem dX11_areKinds_33 : decode cX11_areKinds 33 = .ok (.iload_n 2, 1) := by decide +kernel
theorem dX11_areKinds_34 : decode cX11_areKinds 34 = .ok (.iaload, 1) := by decide +kernel
theorem dX11_areKinds_35 : decode cX11_areKinds 35 = .ok (.bipush 12, 2) := by decide +kernel
theorem dX11_areKinds_37 : decode cX11_areKinds 37 = .ok (.if_icmp .lt 5, 3) := by decide +kernel
theorem dX11_areKinds_40 : decode cX11_areKinds 40 = .ok (.iconst 0, 1) := by decide +kernel
theorem dX11_areKinds_41 : decode cX11_areKinds 41 = .ok (.ireturn, 1) := by decide +kernel
theorem dX11_areKinds_42 : decode cX11_areKinds 42 = .ok (.iinc 2 1, 3) := by decide +kernel
theorem dX11_areKinds_45 : decode cX11_areKinds 45 = .ok (.goto (-30), 3) := by decide +kernel
theorem dX11_areKinds_48 : decode cX11_areKinds 48 = .ok (.iconst 1, 1) := by decide +kernel
theorem dX11_areKinds_49 : decode cX11_areKinds 49 = .ok (.ireturn, 1) := by decide +kernel
theorem dX11_mailOf_0 : decode cX11_mailOf 0 = .ok (.aload_n 0, 1) := by decide +kernel
theorem dX11_mailOf_1 : decode cX11_mailOf 1 = .ok (.iload_n 1, 1) := by decide +kernel
theorem dX11_mailOf_2 : decode cX11_mailOf 2 = .ok (.invokevirtual 269, 3) := by decide +kernel
theorem dX11_mailOf_5 : decode cX11_mailOf 5 = .ok (.aload_n 0, 1) := by decide +kernel
theorem dX11_mailOf_6 : decode cX11_mailOf 6 = .ok (.getfield 20, 3) := by decide +kernel
theorem dX11_mailOf_9 : decode cX11_mailOf 9 = .ok (.getfield 182, 3) := by decide +kernel
theorem dX11_mailOf_12 : decode cX11_mailOf 12 = .ok (.getfield 242, 3) := by decide +kernel
theorem dX11_mailOf_15 : decode cX11_mailOf 15 = .ok (.iload_n 1, 1) := by decide +kernel
theorem dX11_mailOf_16 : decode cX11_mailOf 16 = .ok (.aaload, 1) := by decide +kernel
theorem dX11_mailOf_17 : decode cX11_mailOf 17 = .ok (.areturn, 1) := by decide +kernel
theorem dX11_needLetter_0 : decode cX11_needLetter 0 = .ok (.iload_n 1, 1) := by decide +kernel
theorem dX11_needLetter_1 : decode cX11_needLetter 1 = .ok (.ifCond .lt 17, 3) := by decide +kernel
theorem dX11_needLetter_4 : decode cX11_needLetter 4 = .ok (.iload_n 1, 1) := by decide +kernel
theorem dX11_needLetter_5 : decode cX11_needLetter 5 = .ok (.aload_n 0, 1) := by decide +kernel
theorem dX11_needLetter_6 : decode cX11_needLetter 6 = .ok (.getfield 20, 3) := by decide +kernel
theorem dX11_needLetter_9 : decode cX11_needLetter 9 = .ok (.getfield 182, 3) := by decide +kernel
theorem dX11_needLetter_12 : decode cX11_needLetter 12 = .ok (.getfield 235, 3) := by decide +kernel
theorem dX11_needLetter_15 : decode cX11_needLetter 15 = .ok (.if_icmp .lt 14, 3) := by decide +kernel
theorem dX11_needLetter_18 : decode cX11_needLetter 18 = .ok (.new 413, 3) := by decide +kernel
theorem dX11_needLetter_21 : decode cX11_needLetter 21 = .ok (.dup, 1) := by decide +kernel
theorem dX11_needLetter_22 : decode cX11_needLetter 22 = .ok (.ldc_w 415, 3) := by decide +kernel
theorem dX11_needLetter_25 : decode cX11_needLetter 25 = .ok (.invokespecial 417, 3) := by decide +kernel
theorem dX11_needLetter_28 : decode cX11_needLetter 28 = .ok (.athrow, 1) := by decide +kernel
theorem dX11_needLetter_29 : decode cX11_needLetter 29 = .ok (.return_, 1) := by decide +kernel
theorem dX11_needLine_0 : decode cX11_needLine 0 = .ok (.iload_n 1, 1) := by decide +kernel
theorem dX11_needLine_1 : decode cX11_needLine 1 = .ok (.ifCond .lt 11, 3) := by decide +kernel
theorem dX11_needLine_4 : decode cX11_needLine 4 = .ok (.iload_n 1, 1) := by decide +kernel
theorem dX11_needLine_5 : decode cX11_needLine 5 = .ok (.aload_n 0, 1) := by decide +kernel
theorem dX11_needLine_6 : decode cX11_needLine 6 = .ok (.getfield 157, 3) := by decide +kernel
theorem dX11_needLine_9 : decode cX11_needLine 9 = .ok (.if_icmp .lt 14, 3) := by decide +kernel
theorem dX11_needLine_12 : decode cX11_needLine 12 = .ok (.new 413, 3) := by decide +kernel
theorem dX11_needLine_15 : decode cX11_needLine 15 = .ok (.dup, 1) := by decide +kernel
theorem dX11_needLine_16 : decode cX11_needLine 16 = .ok (.ldc_w 418, 3) := by decide +kernel
theorem dX11_needLine_19 : decode cX11_needLine 19 = .ok (.invokespecial 417, 3) := by decide +kernel
theorem dX11_needLine_22 : decode cX11_needLine 22 = .ok (.athrow, 1) := by decide +kernel
theorem dX11_needLine_23 : decode cX11_needLine 23 = .ok (.return_, 1) := by decide +kernel
theorem dX11_needKind_0 : decode cX11_needKind 0 = .ok (.iload_n 0, 1) := by decide +kernel
theorem dX11_needKind_1 : decode cX11_needKind 1 = .ok (.ifCond .lt 9, 3) := by decide +kernel
theorem dX11_needKind_4 : decode cX11_needKind 4 = .ok (.iload_n 0, 1) := by decide +kernel
theorem dX11_needKind_5 : decode cX11_needKind 5 = .ok (.bipush 12, 2) := by decide +kernel
theorem dX11_needKind_7 : decode cX11_needKind 7 = .ok (.if_icmp .lt 14, 3) := by decide +kernel
theorem dX11_needKind_10 : decode cX11_needKind 10 = .ok (.new 413, 3) := by decide +kernel
theorem dX11_needKind_13 : decode cX11_needKind 13 = .ok (.dup, 1) := by decide +kernel
theorem dX11_needKind_14 : decode cX11_needKind 14 = .ok (.ldc_w 420, 3) := by decide +kernel
theorem dX11_needKind_17 : decode cX11_needKind 17 = .ok (.invokespecial 417, 3) := by decide +kernel
theorem dX11_needKind_20 : decode cX11_needKind 20 = .ok (.athrow, 1) := by decide +kernel
theorem dX11_needKind_21 : decode cX11_needKind 21 = .ok (.return_, 1) := by decide +kernel
theorem dX11_needPromise_0 : decode cX11_needPromise 0 = .ok (.iload_n 1, 1) := by decide +kernel
theorem dX11_needPromise_1 : decode cX11_needPromise 1 = .ok (.ifCond .lt 14, 3) := by decide +kernel
theorem dX11_needPromise_4 : decode cX11_needPromise 4 = .ok (.iload_n 1, 1) := by decide +kernel
theorem dX11_needPromise_5 : decode cX11_needPromise 5 = .ok (.aload_n 0, 1) := by decide +kernel
theorem dX11_needPromise_6 : decode cX11_needPromise 6 = .ok (.getfield 20, 3) := by decide +kernel
theorem dX11_needPromise_9 : decode cX11_needPromise 9 = .ok (.getfield 403, 3) := by decide +kernel
theorem dX11_needPromise_12 : decode cX11_needPromise 12 = .ok (.if_icmp .lt 14, 3) := by decide +kernel
theorem dX11_needPromise_15 : decode cX11_needPromise 15 = .ok (.new 413, 3) := by decide +kernel
theorem dX11_needPromise_18 : decode cX11_needPromise 18 = .ok (.dup, 1) := by decide +kernel
theorem dX11_needPromise_19 : decode cX11_needPromise 19 = .ok (.ldc_w 422, 3) := by decide +kernel
theorem dX11_needPromise_22 : decode cX11_needPromise 22 = .ok (.invokespecial 417, 3) := by decide +kernel
theorem dX11_needPromise_25 : decode cX11_needPromise 25 = .ok (.athrow, 1) := by decide +kernel
theorem dX11_needPromise_26 : decode cX11_needPromise 26 = .ok (.return_, 1) := by decide +kernel
theorem dX11_needAhead_0 : decode cX11_needAhead 0 = .ok (.iload_n 0, 1) := by decide +kernel
theorem dX11_needAhead_1 : decode cX11_needAhead 1 = .ok (.iload_n 1, 1) := by decide +kernel
theorem dX11_needAhead_2 : decode cX11_needAhead 2 = .ok (.if_icmp .lt 9, 3) := by decide +kernel
theorem dX11_needAhead_5 : decode cX11_needAhead 5 = .ok (.iload_n 0, 1) := by decide +kernel
theorem dX11_needAhead_6 : decode cX11_needAhead 6 = .ok (.bipush 40, 2) := by decide +kernel
theorem dX11_needAhead_8 : decode cX11_needAhead 8 = .ok (.if_icmp .le 14, 3) := by decide +kernel
theorem dX11_needAhead_11 : decode cX11_needAhead 11 = .ok (.new 110, 3) := by decide +kernel
theorem dX11_needAhead_14 : decode cX11_needAhead 14 = .ok (.dup, 1) := by decide +kernel
theorem dX11_needAhead_15 : decode cX11_needAhead 15 = .ok (.ldc_w 424, 3) := by decide +kernel
theorem dX11_needAhead_18 : decode cX11_needAhead 18 = .ok (.invokespecial 114, 3) := by decide +kernel
theorem dX11_needAhead_21 : decode cX11_needAhead 21 = .ok (.athrow, 1) := by decide +kernel
theorem dX11_needAhead_22 : decode cX11_needAhead 22 = .ok (.return_, 1) := by decide +kernel
theorem dX11_isNoDigit_0 : decode cX11_isNoDigit 0 = .ok (.iload_n 0, 1) := by decide +kernel
theorem dX11_isNoDigit_1 : decode cX11_isNoDigit 1 = .ok (.ifCond .lt 9, 3) := by decide +kernel
theorem dX11_isNoDigit_4 : decode cX11_isNoDigit 4 = .ok (.iload_n 0, 1) := by decide +kernel
theorem dX11_isNoDigit_5 : decode cX11_isNoDigit 5 = .ok (.bipush 10, 2) := by decide +kernel
theorem dX11_isNoDigit_7 : decode cX11_isNoDigit 7 = .ok (.if_icmp .lt 7, 3) := by decide +kernel
theorem dX11_isNoDigit_10 : decode cX11_isNoDigit 10 = .ok (.iconst 1, 1) := by decide +kernel
theorem dX11_isNoDigit_11 : decode cX11_isNoDigit 11 = .ok (.goto 4, 3) := by decide +kernel
theorem dX11_isNoDigit_14 : decode cX11_isNoDigit 14 = .ok (.iconst 0, 1) := by decide +kernel
theorem dX11_isNoDigit_15 : decode cX11_isNoDigit 15 = .ok (.ireturn, 1) := by decide +kernel
theorem dX11_needDigit_0 : decode cX11_needDigit 0 = .ok (.iload_n 0, 1) := by decide +kernel
theorem dX11_needDigit_1 : decode cX11_needDigit 1 = .ok (.invokestatic 230, 3) := by decide +kernel
theorem dX11_needDigit_4 : decode cX11_needDigit 4 = .ok (.ifCond .eq 14, 3) := by decide +kernel
theorem dX11_needDigit_7 : decode cX11_needDigit 7 = .ok (.new 110, 3) := by decide +kernel
theorem dX11_needDigit_10 : decode cX11_needDigit 10 = .ok (.dup, 1) := by decide +kernel
theorem dX11_needDigit_11 : decode cX11_needDigit 11 = .ok (.ldc_w 426, 3) := by decide +kernel
theorem dX11_needDigit_14 : decode cX11_needDigit 14 = .ok (.invokespecial 114, 3) := by decide +kernel
theorem dX11_needDigit_17 : decode cX11_needDigit 17 = .ok (.athrow, 1) := by decide +kernel
theorem dX11_needDigit_18 : decode cX11_needDigit 18 = .ok (.return_, 1) := by decide +kernel
theorem dX11_needTwo_0 : decode cX11_needTwo 0 = .ok (.iload_n 0, 1) := by decide +kernel
theorem dX11_needTwo_1 : decode cX11_needTwo 1 = .ok (.iload_n 1, 1) := by decide +kernel
theorem dX11_needTwo_2 : decode cX11_needTwo 2 = .ok (.if_icmp .ne 14, 3) := by decide +kernel
theorem dX11_needTwo_5 : decode cX11_needTwo 5 = .ok (.new 110, 3) := by decide +kernel
theorem dX11_needTwo_8 : decode cX11_needTwo 8 = .ok (.dup, 1) := by decide +kernel
theorem dX11_needTwo_9 : decode cX11_needTwo 9 = .ok (.ldc_w 428, 3) := by decide +kernel
theorem dX11_needTwo_12 : decode cX11_needTwo 12 = .ok (.invokespecial 114, 3) := by decide +kernel
theorem dX11_needTwo_15 : decode cX11_needTwo 15 = .ok (.athrow, 1) := by decide +kernel
theorem dX11_needTwo_16 : decode cX11_needTwo 16 = .ok (.return_, 1) := by decide +kernel
theorem dX11_seasonOf_0 : decode cX11_seasonOf 0 = .ok (.iload_n 0, 1) := by decide +kernel
theorem dX11_seasonOf_1 : decode cX11_seasonOf 1 = .ok (.bipush 13, 2) := by decide +kernel
theorem dX11_seasonOf_3 : decode cX11_seasonOf 3 = .ok (.idiv, 1) := by decide +kernel
theorem dX11_seasonOf_4 : decode cX11_seasonOf 4 = .ok (.iconst 4, 1) := by decide +kernel
theorem dX11_seasonOf_5 : decode cX11_seasonOf 5 = .ok (.irem, 1) := by decide +kernel
theorem dX11_seasonOf_6 : decode cX11_seasonOf 6 = .ok (.ireturn, 1) := by decide +kernel
theorem dX11_fillLastsAhead_0 : decode cX11_fillLastsAhead 0 = .ok (.iconst 0, 1) := by decide +kernel
theorem dX11_fillLastsAhead_1 : decode cX11_fillLastsAhead 1 = .ok (.istore_n 1, 1) := by decide +kernel
theorem dX11_fillLastsAhead_2 : decode cX11_fillLastsAhead 2 = .ok (.iload_n 1, 1) := by decide +kernel
theorem dX11_fillLastsAhead_3 : decode cX11_fillLastsAhead 3 = .ok (.aload_n 0, 1) := by decide +kernel
theorem dX11_fillLastsAhead_4 : decode cX11_fillLastsAhead 4 = .ok (.getfield 20, 3) := by decide +kernel
theorem dX11_fillLastsAhead_7 : decode cX11_fillLastsAhead 7 = .ok (.getfield 182, 3) := by decide +kernel
theorem dX11_fillLastsAhead_10 : decode cX11_fillLastsAhead 10 = .ok (.getfield 235, 3) := by decide +kernel
theorem dX11_fillLastsAhead_13 : decode cX11_fillLastsAhead 13 = .ok (.if_icmp .ge 84, 3) := by decide +kernel
theorem dX11_fillLastsAhead_16 : decode cX11_fillLastsAhead 16 = .ok (.aload_n 0, 1) := by decide +kernel
theorem dX11_fillLastsAhead_17 : decode cX11_fillLastsAhead 17 = .ok (.getfield 51, 3) := by decide +kernel
theorem dX11_fillLastsAhead_20 : decode cX11_fillLastsAhead 20 = .ok (.aload_n 0, 1) := by decide +kernel
theorem dX11_fillLastsAhead_21 : decode cX11_fillLastsAhead 21 = .ok (.getfield 20, 3) := by decide +kernel
theorem dX11_fillLastsAhead_24 : decode cX11_fillLastsAhead 24 = .ok (.getfield 182, 3) := by decide +kernel
theorem dX11_fillLastsAhead_27 : decode cX11_fillLastsAhead 27 = .ok (.getfield 242, 3) := by decide +kernel
theorem dX11_fillLastsAhead_30 : decode cX11_fillLastsAhead 30 = .ok (.iload_n 1, 1) := by decide +kernel
theorem dX11_fillLastsAhead_31 : decode cX11_fillLastsAhead 31 = .ok (.aaload, 1) := by decide +kernel
theorem dX11_fillLastsAhead_32 : decode cX11_fillLastsAhead 32 = .ok (.aload_n 0, 1) := by decide +kernel
theorem dX11_fillLastsAhead_33 : decode cX11_fillLastsAhead 33 = .ok (.getfield 20, 3) := by decide +kernel
theorem dX11_fillLastsAhead_36 : decode cX11_fillLastsAhead 36 = .ok (.getfield 182, 3) := by decide +kernel
theorem dX11_fillLastsAhead_39 : decode cX11_fillLastsAhead 39 = .ok (.getfield 185, 3) := by decide +kernel
theorem dX11_fillLastsAhead_42 : decode cX11_fillLastsAhead 42 = .ok (.invokevirtual 290, 3) := by decide +kernel
theorem dX11_fillLastsAhead_45 : decode cX11_fillLastsAhead 45 = .ok (.iconst 0, 1) := by decide +kernel
theorem dX11_fillLastsAhead_46 : decode cX11_fillLastsAhead 46 = .ok (.istore_n 2, 1) := by decide +kernel
theorem dX11_fillLastsAhead_47 : decode cX11_fillLastsAhead 47 = .ok (.iload_n 2, 1) := by decide +kernel
theorem dX11_fillLastsAhead_48 : decode cX11_fillLastsAhead 48 = .ok (.bipush 40, 2) := by decide +kernel
theorem dX11_fillLastsAhead_50 : decode cX11_fillLastsAhead 50 = .ok (.if_icmp .gt 41, 3) := by decide +kernel
theorem dX11_fillLastsAhead_53 : decode cX11_fillLastsAhead 53 = .ok (.aload_n 0, 1) := by decide +kernel
theorem dX11_fillLastsAhead_54 : decode cX11_fillLastsAhead 54 = .ok (.getfield 74, 3) := by decide +kernel
theorem dX11_fillLastsAhead_57 : decode cX11_fillLastsAhead 57 = .ok (.iload_n 1, 1) := by decide +kernel
theorem dX11_fillLastsAhead_58 : decode cX11_fillLastsAhead 58 = .ok (.aaload, 1) := by decide +kernel
theorem dX11_fillLastsAhead_59 : decode cX11_fillLastsAhead 59 = .ok (.iload_n 2, 1) := by decide +kernel
theorem dX11_fillLastsAhead_60 : decode cX11_fillLastsAhead 60 = .ok (.aload_n 0, 1) := by decide +kernel
theorem dX11_fillLastsAhead_61 : decode cX11_fillLastsAhead 61 = .ok (.getfield 51, 3) := by decide +kernel
theorem dX11_fillLastsAhead_64 : decode cX11_fillLastsAhead 64 = .ok (.getfield 297, 3) := by decide +kernel
theorem dX11_fillLastsAhead_67 : decode cX11_fillLastsAhead 67 = .ok (.invokevirtual 178, 3) := by decide +kernel
theorem dX11_fillLastsAhead_70 : decode cX11_fillLastsAhead 70 = .ok (.iastore, 1) := by decide +kernel
theorem dX11_fillLastsAhead_71 : decode cX11_fillLastsAhead 71 = .ok (.aload_n 0, 1) := by decide +kernel
theorem dX11_fillLastsAhead_72 : decode cX11_fillLastsAhead 72 = .ok (.getfield 51, 3) := by decide +kernel
theorem dX11_fillLastsAhead_75 : decode cX11_fillLastsAhead 75 = .ok (.aload_n 0, 1) := by decide +kernel
theorem dX11_fillLastsAhead_76 : decode cX11_fillLastsAhead 76 = .ok (.getfield 20, 3) := by decide +kernel
theorem dX11_fillLastsAhead_79 : decode cX11_fillLastsAhead 79 = .ok (.getfield 144, 3) := by decide +kernel
theorem dX11_fillLastsAhead_82 : decode cX11_fillLastsAhead 82 = .ok (.invokevirtual 304, 3) := by decide +kernel
theorem dX11_fillLastsAhead_85 : decode cX11_fillLastsAhead 85 = .ok (.iinc 2 1, 3) := by decide +kernel
theorem dX11_fillLastsAhead_88 : decode cX11_fillLastsAhead 88 = .ok (.goto (-41), 3) := by decide +kernel
theorem dX11_fillLastsAhead_91 : decode cX11_fillLastsAhead 91 = .ok (.iinc 1 1, 3) := by decide +kernel
theorem dX11_fillLastsAhead_94 : decode cX11_fillLastsAhead 94 = .ok (.goto (-92), 3) := by decide +kernel
theorem dX11_fillLastsAhead_97 : decode cX11_fillLastsAhead 97 = .ok (.return_, 1) := by decide +kernel
theorem dX11_firstMeeting_0 : decode cX11_firstMeeting 0 = .ok (.iconst 0, 1) := by decide +kernel
theorem dX11_firstMeeting_1 : decode cX11_firstMeeting 1 = .ok (.istore_n 3, 1) := by decide +kernel
theorem dX11_firstMeeting_2 : decode cX11_firstMeeting 2 = .ok (.iload_n 3, 1) := by decide +kernel
theorem dX11_firstMeeting_3 : decode cX11_firstMeeting 3 = .ok (.bipush 40, 2) := by decide +kernel
theorem dX11_firstMeeting_5 : decode cX11_firstMeeting 5 = .ok (.if_icmp .gt 30, 3) := by decide +kernel
theorem dX11_firstMeeting_8 : decode cX11_firstMeeting 8 = .ok (.aload_n 0, 1) := by decide +kernel
theorem dX11_firstMeeting_9 : decode cX11_firstMeeting 9 = .ok (.getfield 74, 3) := by decide +kernel
theorem dX11_firstMeeting_12 : decode cX11_firstMeeting 12 = .ok (.iload_n 1, 1) := by decide +kernel
theorem dX11_firstMeeting_13 : decode cX11_firstMeeting 13 = .ok (.aaload, 1) := by decide +kernel
theorem dX11_firstMeeting_14 : decode cX11_firstMeeting 14 = .ok (.iload_n 3, 1) := by decide +kernel
theorem dX11_firstMeeting_15 : decode cX11_firstMeeting 15 = .ok (.iaload, 1) := by decide +kernel
theorem dX11_firstMeeting_16 : decode cX11_firstMeeting 16 = .ok (.aload_n 0, 1) := by decide +kernel
theorem dX11_firstMeeting_17 : decode cX11_firstMeeting 17 = .ok (.getfield 74, 3) := by decide +kernel
theorem dX11_firstMeeting_20 : decode cX11_firstMeeting 20 = .ok (.iload_n 2, 1) := by decide +kernel
theorem dX11_firstMeeting_21 : decode cX11_firstMeeting 21 = .ok (.aaload, 1) := by decide +kernel
theorem dX11_firstMeeting_22 : decode cX11_firstMeeting 22 = .ok (.iload_n 3, 1) := by decide +kernel
theorem dX11_firstMeeting_23 : decode cX11_firstMeeting 23 = .ok (.iaload, 1) := by decide +kernel
theorem dX11_firstMeeting_24 : decode cX11_firstMeeting 24 = .ok (.if_icmp .ne 5, 3) := by decide +kernel
theorem dX11_firstMeeting_27 : decode cX11_firstMeeting 27 = .ok (.iload_n 3, 1) := by decide +kernel
theorem dX11_firstMeeting_28 : decode cX11_firstMeeting 28 = .ok (.ireturn, 1) := by decide +kernel
theorem dX11_firstMeeting_29 : decode cX11_firstMeeting 29 = .ok (.iinc 3 1, 3) := by decide +kernel
theorem dX11_firstMeeting_32 : decode cX11_firstMeeting 32 = .ok (.goto (-30), 3) := by decide +kernel
theorem dX11_firstMeeting_35 : decode cX11_firstMeeting 35 = .ok (.iconst (-1), 1) := by decide +kernel
theorem dX11_firstMeeting_36 : decode cX11_firstMeeting 36 = .ok (.ireturn, 1) := by decide +kernel
theorem dX11_firstBinding_0 : decode cX11_firstBinding 0 = .ok (.aload_n 0, 1) := by decide +kernel
theorem dX11_firstBinding_1 : decode cX11_firstBinding 1 = .ok (.getfield 51, 3) := by decide +kernel
theorem dX11_firstBinding_4 : decode cX11_firstBinding 4 = .ok (.aload_n 1, 1) := by decide +kernel
theorem dX11_firstBinding_5 : decode cX11_firstBinding 5 = .ok (.aload_n 0, 1) := by decide +kernel
theorem dX11_firstBinding_6 : decode cX11_firstBinding 6 = .ok (.getfield 20, 3) := by decide +kernel
theorem dX11_firstBinding_9 : decode cX11_firstBinding 9 = .ok (.getfield 182, 3) := by decide +kernel
theorem dX11_firstBinding_12 : decode cX11_firstBinding 12 = .ok (.getfield 185, 3) := by decide +kernel
theorem dX11_firstBinding_15 : decode cX11_firstBinding 15 = .ok (.invokevirtual 290, 3) := by decide +kernel
theorem dX11_firstBinding_18 : decode cX11_firstBinding 18 = .ok (.iconst 0, 1) := by decide +kernel
theorem dX11_firstBinding_19 : decode cX11_firstBinding 19 = .ok (.istore_n 3, 1) := by decide +kernel
theorem dX11_firstBinding_20 : decode cX11_firstBinding 20 = .ok (.iload_n 3, 1) := by decide +kernel
theorem dX11_firstBinding_21 : decode cX11_firstBinding 21 = .ok (.bipush 40, 2) := by decide +kernel
theorem dX11_firstBinding_23 : decode cX11_firstBinding 23 = .ok (.if_icmp .gt 47, 3) := by decide +kernel
theorem dX11_firstBinding_26 : decode cX11_firstBinding 26 = .ok (.aload_n 0, 1) := by decide +kernel
theorem dX11_firstBinding_27 : decode cX11_firstBinding 27 = .ok (.getfield 20, 3) := by decide +kernel
theorem dX11_firstBinding_30 : decode cX11_firstBinding 30 = .ok (.aload_n 0, 1) := by decide +kernel
theorem dX11_firstBinding_31 : decode cX11_firstBinding 31 = .ok (.getfield 51, 3) := by decide +kernel
theorem dX11_firstBinding_34 : decode cX11_firstBinding 34 = .ok (.getfield 297, 3) := by decide +kernel
theorem dX11_firstBinding_37 : decode cX11_firstBinding 37 = .ok (.invokevirtual 338, 3) := by decide +kernel
theorem dX11_firstBinding_40 : decode cX11_firstBinding 40 = .ok (.iload_n 2, 1) := by decide +kernel
theorem dX11_firstBinding_41 : decode cX11_firstBinding 41 = .ok (.ishr, 1) := by decide +kernel
theorem dX11_firstBinding_42 : decode cX11_firstBinding 42 = .ok (.iconst 1, 1) := by decide +kernel
theorem dX11_firstBinding_43 : decode cX11_firstBinding 43 = .ok (.iand, 1) := by decide +kernel
theorem dX11_firstBinding_44 : decode cX11_firstBinding 44 = .ok (.iconst 1, 1) := by decide +kernel
theorem dX11_firstBinding_45 : decode cX11_firstBinding 45 = .ok (.if_icmp .ne 5, 3) := by decide +kernel
theorem dX11_firstBinding_48 : decode cX11_firstBinding 48 = .ok (.iload_n 3, 1) := by decide +kernel
theorem dX11_firstBinding_49 : decode cX11_firstBinding 49 = .ok (.ireturn, 1) := by decide +kernel
theorem dX11_firstBinding_50 : decode cX11_firstBinding 50 = .ok (.aload_n 0, 1) := by decide +kernel
theorem dX11_firstBinding_51 : decode cX11_firstBinding 51 = .ok (.getfield 51, 3) := by decide +kernel
theorem dX11_firstBinding_54 : decode cX11_firstBinding 54 = .ok (.aload_n 0, 1) := by decide +kernel
theorem dX11_firstBinding_55 : decode cX11_firstBinding 55 = .ok (.getfield 20, 3) := by decide +kernel
theorem dX11_firstBinding_58 : decode cX11_firstBinding 58 = .ok (.getfield 144, 3) := by decide +kernel
theorem dX11_firstBinding_61 : decode cX11_firstBinding 61 = .ok (.invokevirtual 304, 3) := by decide +kernel
theorem dX11_firstBinding_64 : decode cX11_firstBinding 64 = .ok (.iinc 3 1, 3) := by decide +kernel
theorem dX11_firstBinding_67 : decode cX11_firstBinding 67 = .ok (.goto (-47), 3) := by decide +kernel
theorem dX11_firstBinding_70 : decode cX11_firstBinding 70 = .ok (.iconst (-1), 1) := by decide +kernel
theorem dX11_firstBinding_71 : decode cX11_firstBinding 71 = .ok (.ireturn, 1) := by decide +kernel
theorem dX11_tallyTempers_0 : decode cX11_tallyTempers 0 = .ok (.iconst 0, 1) := by decide +kernel
theorem dX11_tallyTempers_1 : decode cX11_tallyTempers 1 = .ok (.istore_n 3, 1) := by decide +kernel
theorem dX11_tallyTempers_2 : decode cX11_tallyTempers 2 = .ok (.iload_n 3, 1) := by decide +kernel
theorem dX11_tallyTempers_3 : decode cX11_tallyTempers 3 = .ok (.bipush 12, 2) := by decide +kernel
theorem dX11_tallyTempers_5 : decode cX11_tallyTempers 5 = .ok (.if_icmp .ge 16, 3) := by decide +kernel
theorem dX11_tallyTempers_8 : decode cX11_tallyTempers 8 = .ok (.aload_n 0, 1) := by decide +kernel
theorem dX11_tallyTempers_9 : decode cX11_tallyTempers 9 = .ok (.getfield 77, 3) := by decide +kernel
theorem dX11_tallyTempers_12 : decode cX11_tallyTempers 12 = .ok (.iload_n 3, 1) := by decide +kernel
theorem dX11_tallyTempers_13 : decode cX11_tallyTempers 13 = .ok (.iconst 0, 1) := by decide +kernel
theorem dX11_tallyTempers_14 : decode cX11_tallyTempers 14 = .ok (.iastore, 1) := by decide +kernel
theorem dX11_tallyTempers_15 : decode cX11_tallyTempers 15 = .ok (.iinc 3 1, 3) := by decide +kernel
theorem dX11_tallyTempers_18 : decode cX11_tallyTempers 18 = .ok (.goto (-16), 3) := by decide +kernel
theorem dX11_tallyTempers_21 : decode cX11_tallyTempers 21 = .ok (.iconst 0, 1) := by decide +kernel
theorem dX11_tallyTempers_22 : decode cX11_tallyTempers 22 = .ok (.istore_n 3, 1) := by decide +kernel
theorem dX11_tallyTempers_23 : decode cX11_tallyTempers 23 = .ok (.iload_n 3, 1) := by decide +kernel
theorem dX11_tallyTempers_24 : decode cX11_tallyTempers 24 = .ok (.bipush 10, 2) := by decide +kernel
theorem dX11_tallyTempers_26 : decode cX11_tallyTempers 26 = .ok (.if_icmp .ge 88, 3) := by decide +kernel
theorem dX11_tallyTempers_29 : decode cX11_tallyTempers 29 = .ok (.aload_n 0, 1) := by decide +kernel
theorem dX11_tallyTempers_30 : decode cX11_tallyTempers 30 = .ok (.getfield 51, 3) := by decide +kernel
theorem dX11_tallyTempers_33 : decode cX11_tallyTempers 33 = .ok (.aload_n 1, 1) := by decide +kernel
theorem dX11_tallyTempers_34 : decode cX11_tallyTempers 34 = .ok (.aload_n 0, 1) := by decide +kernel
theorem dX11_tallyTempers_35 : decode cX11_tallyTempers 35 = .ok (.getfield 20, 3) := by decide +kernel
theorem dX11_tallyTempers_38 : decode cX11_tallyTempers 38 = .ok (.getfield 182, 3) := by decide +kernel
theorem dX11_tallyTempers_41 : decode cX11_tallyTempers 41 = .ok (.getfield 185, 3) := by decide +kernel
theorem dX11_tallyTempers_44 : decode cX11_tallyTempers 44 = .ok (.invokevirtual 290, 3) := by decide +kernel
theorem dX11_tallyTempers_47 : decode cX11_tallyTempers 47 = .ok (.aload_n 0, 1) := by decide +kernel
theorem dX11_tallyTempers_48 : decode cX11_tallyTempers 48 = .ok (.getfield 51, 3) := by decide +kernel
theorem dX11_tallyTempers_51 : decode cX11_tallyTempers 51 = .ok (.getfield 297, 3) := by decide +kernel
theorem dX11_tallyTempers_54 : decode cX11_tallyTempers 54 = .ok (.iload_n 3, 1) := by decide +kernel
theorem dX11_tallyTempers_55 : decode cX11_tallyTempers 55 = .ok (.putfield 162, 3) := by decide +kernel
theorem dX11_tallyTempers_58 : decode cX11_tallyTempers 58 = .ok (.aload_n 0, 1) := by decide +kernel
theorem dX11_tallyTempers_59 : decode cX11_tallyTempers 59 = .ok (.getfield 51, 3) := by decide +kernel
theorem dX11_tallyTempers_62 : decode cX11_tallyTempers 62 = .ok (.aload_n 0, 1) := by decide +kernel
theorem dX11_tallyTempers_63 : decode cX11_tallyTempers 63 = .ok (.getfield 20, 3) := by decide +kernel
theorem dX11_tallyTempers_66 : decode cX11_tallyTempers 66 = .ok (.getfield 144, 3) := by decide +kernel
theorem dX11_tallyTempers_69 : decode cX11_tallyTempers 69 = .ok (.iload_n 2, 1) := by decide +kernel
theorem dX11_tallyTempers_70 : decode cX11_tallyTempers 70 = .ok (.invokevirtual 293, 3) := by decide +kernel
theorem dX11_tallyTempers_73 : decode cX11_tallyTempers 73 = .ok (.aload_n 0, 1) := by decide +kernel
theorem dX11_tallyTempers_74 : decode cX11_tallyTempers 74 = .ok (.getfield 51, 3) := by decide +kernel
theorem dX11_tallyTempers_77 : decode cX11_tallyTempers 77 = .ok (.getfield 297, 3) := by decide +kernel
theorem dX11_tallyTempers_80 : decode cX11_tallyTempers 80 = .ok (.invokevirtual 178, 3) := by decide +kernel
theorem dX11_tallyTempers_83 : decode cX11_tallyTempers 83 = .ok (.istore 4, 2) := by decide +kernel
theorem dX11_tallyTempers_85 : decode cX11_tallyTempers 85 = .ok (.iload 4, 2) := by decide +kernel
theorem dX11_tallyTempers_87 : decode cX11_tallyTempers 87 = .ok (.ifCond .lt 21, 3) := by decide +kernel
theorem dX11_tallyTempers_90 : decode cX11_tallyTempers 90 = .ok (.iload 4, 2) := by decide +kernel
theorem dX11_tallyTempers_92 : decode cX11_tallyTempers 92 = .ok (.bipush 12, 2) := by decide +kernel
theorem dX11_tallyTempers_94 : decode cX11_tallyTempers 94 = .ok (.if_icmp .ge 14, 3) := by decide +kernel
theorem dX11_tallyTempers_97 : decode cX11_tallyTempers 97 = .ok (.aload_n 0, 1) := by decide +kernel
theorem dX11_tallyTempers_98 : decode cX11_tallyTempers 98 = .ok (.getfield 77, 3) := by decide +kernel
theorem dX11_tallyTempers_101 : decode cX11_tallyTempers 101 = .ok (.iload 4, 2) := by decide +kernel
theorem dX11_tallyTempers_103 : decode cX11_tallyTempers 103 = .ok (.dup2, 1) := by decide +kernel
theorem dX11_tallyTempers_104 : decode cX11_tallyTempers 104 = .ok (.iaload, 1) := by decide +kernel
theorem dX11_tallyTempers_105 : decode cX11_tallyTempers 105 = .ok (.iconst 1, 1) := by decide +kernel
theorem dX11_tallyTempers_106 : decode cX11_tallyTempers 106 = .ok (.iadd, 1) := by decide +kernel
theorem dX11_tallyTempers_107 : decode cX11_tallyTempers 107 = .ok (.iastore, 1) := by decide +kernel
theorem dX11_tallyTempers_108 : decode cX11_tallyTempers 108 = .ok (.iinc 3 1, 3) := by decide +kernel
theorem dX11_tallyTempers_111 : decode cX11_tallyTempers 111 = .ok (.goto (-88), 3) := by decide +kernel
theorem dX11_tallyTempers_114 : decode cX11_tallyTempers 114 = .ok (.return_, 1) := by decide +kernel
theorem dX11_tryWeeks_0 : decode cX11_tryWeeks 0 = .ok (.aload_n 0, 1) := by decide +kernel
theorem dX11_tryWeeks_1 : decode cX11_tryWeeks 1 = .ok (.getfield 61, 3) := by decide +kernel
theorem dX11_tryWeeks_4 : decode cX11_tryWeeks 4 = .ok (.aload_n 0, 1) := by decide +kernel
theorem dX11_tryWeeks_5 : decode cX11_tryWeeks 5 = .ok (.getfield 20, 3) := by decide +kernel
theorem dX11_tryWeeks_8 : decode cX11_tryWeeks 8 = .ok (.getfield 182, 3) := by decide +kernel
theorem dX11_tryWeeks_11 : decode cX11_tryWeeks 11 = .ok (.invokevirtual 430, 3) := by decide +kernel
theorem dX11_tryWeeks_14 : decode cX11_tryWeeks 14 = .ok (.aload_n 0, 1) := by decide +kernel
theorem dX11_tryWeeks_15 : decode cX11_tryWeeks 15 = .ok (.getfield 61, 3) := by decide +kernel
theorem dX11_tryWeeks_18 : decode cX11_tryWeeks 18 = .ok (.iload_n 2, 1) := by decide +kernel
theorem dX11_tryWeeks_19 : decode cX11_tryWeeks 19 = .ok (.putfield 381, 3) := by decide +kernel
theorem dX11_tryWeeks_22 : decode cX11_tryWeeks 22 = .ok (.iconst 0, 1) := by decide +kernel
theorem dX11_tryWeeks_23 : decode cX11_tryWeeks 23 = .ok (.istore_n 3, 1) := by decide +kernel
theorem dX11_tryWeeks_24 : decode cX11_tryWeeks 24 = .ok (.iload_n 3, 1) := by decide +kernel
theorem dX11_tryWeeks_25 : decode cX11_tryWeeks 25 = .ok (.iload_n 1, 1) := by decide +kernel
theorem dX11_tryWeeks_26 : decode cX11_tryWeeks 26 = .ok (.if_icmp .ge 31, 3) := by decide +kernel
theorem dX11_tryWeeks_29 : decode cX11_tryWeeks 29 = .ok (.aload_n 0, 1) := by decide +kernel
theorem dX11_tryWeeks_30 : decode cX11_tryWeeks 30 = .ok (.getfield 61, 3) := by decide +kernel
theorem dX11_tryWeeks_33 : decode cX11_tryWeeks 33 = .ok (.aload_n 0, 1) := by decide +kernel
theorem dX11_tryWeeks_34 : decode cX11_tryWeeks 34 = .ok (.getfield 20, 3) := by decide +kernel
theorem dX11_tryWeeks_37 : decode cX11_tryWeeks 37 = .ok (.getfield 144, 3) := by decide +kernel
theorem dX11_tryWeeks_40 : decode cX11_tryWeeks 40 = .ok (.aload_n 0, 1) := by decide +kernel
theorem dX11_tryWeeks_41 : decode cX11_tryWeeks 41 = .ok (.getfield 20, 3) := by decide +kernel
theorem dX11_tryWeeks_44 : decode cX11_tryWeeks 44 = .ok (.getfield 275, 3) := by decide +kernel
theorem dX11_tryWeeks_47 : decode cX11_tryWeeks 47 = .ok (.invokevirtual 278, 3) := by decide +kernel
theorem dX11_tryWeeks_50 : decode cX11_tryWeeks 50 = .ok (.pop, 1) := by decide +kernel
theorem dX11_tryWeeks_51 : decode cX11_tryWeeks 51 = .ok (.iinc 3 1, 3) := by decide +kernel
theorem dX11_tryWeeks_54 : decode cX11_tryWeeks 54 = .ok (.goto (-30), 3) := by decide +kernel
theorem dX11_tryWeeks_57 : decode cX11_tryWeeks 57 = .ok (.return_, 1) := by decide +kernel
theorem dX12_thrown_0 : decode cX12_thrown 0 = .ok (.aload_n 0, 1) := by decide +kernel
theorem dX12_thrown_1 : decode cX12_thrown 1 = .ok (.getfield 3, 3) := by decide +kernel
theorem dX12_thrown_4 : decode cX12_thrown 4 = .ok (.ireturn, 1) := by decide +kernel
theorem dX12_throwsIf_0 : decode cX12_throwsIf 0 = .ok (.iload_n 1, 1) := by decide +kernel
theorem dX12_throwsIf_1 : decode cX12_throwsIf 1 = .ok (.ifCond .eq 8, 3) := by decide +kernel
theorem dX12_throwsIf_4 : decode cX12_throwsIf 4 = .ok (.aload_n 0, 1) := by decide +kernel
theorem dX12_throwsIf_5 : decode cX12_throwsIf 5 = .ok (.iload_n 2, 1) := by decide +kernel
theorem dX12_throwsIf_6 : decode cX12_throwsIf 6 = .ok (.putfield 3, 3) := by decide +kernel
theorem dX12_throwsIf_9 : decode cX12_throwsIf 9 = .ok (.iload_n 1, 1) := by decide +kernel
theorem dX12_throwsIf_10 : decode cX12_throwsIf 10 = .ok (.ireturn, 1) := by decide +kernel
theorem dX12_in_0 : decode cX12_in 0 = .ok (.iload_n 0, 1) := by decide +kernel
theorem dX12_in_1 : decode cX12_in 1 = .ok (.iload_n 1, 1) := by decide +kernel
theorem dX12_in_2 : decode cX12_in 2 = .ok (.if_icmp .lt 12, 3) := by decide +kernel
theorem dX12_in_5 : decode cX12_in 5 = .ok (.iload_n 0, 1) := by decide +kernel
theorem dX12_in_6 : decode cX12_in 6 = .ok (.iload_n 2, 1) := by decide +kernel
theorem dX12_in_7 : decode cX12_in 7 = .ok (.if_icmp .gt 7, 3) := by decide +kernel
theorem dX12_in_10 : decode cX12_in 10 = .ok (.iconst 1, 1) := by decide +kernel
theorem dX12_in_11 : decode cX12_in 11 = .ok (.goto 4, 3) := by decide +kernel
theorem dX12_in_14 : decode cX12_in 14 = .ok (.iconst 0, 1) := by decide +kernel
theorem dX12_in_15 : decode cX12_in 15 = .ok (.ireturn, 1) := by decide +kernel
theorem dX12_hasBit_0 : decode cX12_hasBit 0 = .ok (.iload_n 0, 1) := by decide +kernel
theorem dX12_hasBit_1 : decode cX12_hasBit 1 = .ok (.iload_n 1, 1) := by decide +kernel
theorem dX12_hasBit_2 : decode cX12_hasBit 2 = .ok (.ishr, 1) := by decide +kernel
theorem dX12_hasBit_3 : decode cX12_hasBit 3 = .ok (.iconst 1, 1) := by decide +kernel
theorem dX12_hasBit_4 : decode cX12_hasBit 4 = .ok (.iand, 1) := by decide +kernel
theorem dX12_hasBit_5 : decode cX12_hasBit 5 = .ok (.iconst 1, 1) := by decide +kernel
theorem dX12_hasBit_6 : decode cX12_hasBit 6 = .ok (.if_icmp .ne 7, 3) := by decide +kernel
theorem dX12_hasBit_9 : decode cX12_hasBit 9 = .ok (.iconst 1, 1) := by decide +kernel
theorem dX12_hasBit_10 : decode cX12_hasBit 10 = .ok (.goto 4, 3) := by decide +kernel
theorem dX12_hasBit_13 : decode cX12_hasBit 13 = .ok (.iconst 0, 1) := by decide +kernel
theorem dX12_hasBit_14 : decode cX12_hasBit 14 = .ok (.ireturn, 1) := by decide +kernel
theorem dX12_init_0 : decode cX12_init 0 = .ok (.aload_n 0, 1) := by decide +kernel
theorem dX12_init_1 : decode cX12_init 1 = .ok (.invokespecial 7, 3) := by decide +kernel
theorem dX12_init_4 : decode cX12_init 4 = .ok (.aload_n 0, 1) := by decide +kernel
theorem dX12_init_5 : decode cX12_init 5 = .ok (.sipush 2158, 3) := by decide +kernel
theorem dX12_init_8 : decode cX12_init 8 = .ok (.newarray .int, 2) := by decide +kernel
theorem dX12_init_10 : decode cX12_init 10 = .ok (.putfield 13, 3) := by decide +kernel
theorem dX12_init_13 : decode cX12_init 13 = .ok (.aload_n 0, 1) := by decide +kernel
theorem dX12_init_14 : decode cX12_init 14 = .ok (.sipush 1309, 3) := by decide +kernel
theorem dX12_init_17 : decode cX12_init 17 = .ok (.newarray .int, 2) := by decide +kernel
theorem dX12_init_19 : decode cX12_init 19 = .ok (.putfield 17, 3) := by decide +kernel
theorem dX12_init_22 : decode cX12_init 22 = .ok (.aload_n 0, 1) := by decide +kernel
theorem dX12_init_23 : decode cX12_init 23 = .ok (.sipush 1309, 3) := by decide +kernel
theorem dX12_init_26 : decode cX12_init 26 = .ok (.newarray .int, 2) := by decide +kernel
theorem dX12_init_28 : decode cX12_init 28 = .ok (.putfield 20, 3) := by decide +kernel
theorem dX12_init_31 : decode cX12_init 31 = .ok (.aload_n 0, 1) := by decide +kernel
theorem dX12_init_32 : decode cX12_init 32 = .ok (.sipush 460, 3) := by decide +kernel
theorem dX12_init_35 : decode cX12_init 35 = .ok (.newarray .int, 2) := by decide +kernel
theorem dX12_init_37 : decode cX12_init 37 = .ok (.putfield 23, 3) := by decide +kernel
theorem dX12_init_40 : decode cX12_init 40 = .ok (.aload_n 0, 1) := by decide +kernel
theorem dX12_init_41 : decode cX12_init 41 = .ok (.sipush 5520, 3) := by decide +kernel
theorem dX12_init_44 : decode cX12_init 44 = .ok (.newarray .int, 2) := by decide +kernel
theorem dX12_init_46 : decode cX12_init 46 = .ok (.putfield 26, 3) := by decide +kernel
theorem dX12_init_49 : decode cX12_init 49 = .ok (.aload_n 0, 1) := by decide +kernel
theorem dX12_init_50 : decode cX12_init 50 = .ok (.sipush 400, 3) := by decide +kernel
theorem dX12_init_53 : decode cX12_init 53 = .ok (.newarray .byte, 2) := by decide +kernel
theorem dX12_init_55 : decode cX12_init 55 = .ok (.putfield 29, 3) := by decide +kernel
theorem dX12_init_58 : decode cX12_init 58 = .ok (.aload_n 0, 1) := by decide +kernel
theorem dX12_init_59 : decode cX12_init 59 = .ok (.iconst (-1), 1) := by decide +kernel
theorem dX12_init_60 : decode cX12_init 60 = .ok (.putfield 33, 3) := by decide +kernel
theorem dX12_init_63 : decode cX12_init 63 = .ok (.aload_n 0, 1) := by decide +kernel
theorem dX12_init_64 : decode cX12_init 64 = .ok (.iconst 5, 1) := by decide +kernel
theorem dX12_init_65 : decode cX12_init 65 = .ok (.newarray .int, 2) := by decide +kernel
theorem dX12_init_67 : decode cX12_init 67 = .ok (.putfield 36, 3) := by decide +kernel
theorem dX12_init_70 : decode cX12_init 70 = .ok (.aload_n 0, 1) := by decide +kernel
theorem dX12_init_71 : decode cX12_init 71 = .ok (.sipush 400, 3) := by decide +kernel
theorem dX12_init_74 : decode cX12_init 74 = .ok (.newarray .int, 2) := by decide +kernel
theorem dX12_init_76 : decode cX12_init 76 = .ok (.putfield 39, 3) := by decide +kernel
theorem dX12_init_79 : decode cX12_init 79 = .ok (.aload_n 0, 1) := by decide +kernel
theorem dX12_init_80 : decode cX12_init 80 = .ok (.bipush 24, 2) := by decide +kernel
theorem dX12_init_82 : decode cX12_init 82 = .ok (.newarray .int, 2) := by decide +kernel
theorem dX12_init_84 : decode cX12_init 84 = .ok (.putfield 42, 3) := by decide +kernel
theorem dX12_init_87 : decode cX12_init 87 = .ok (.aload_n 0, 1) := by decide +kernel
theorem dX12_init_88 : decode cX12_init 88 = .ok (.bipush 24, 2) := by decide +kernel
theorem dX12_init_90 : decode cX12_init 90 = .ok (.newarray .int, 2) := by decide +kernel
theorem dX12_init_92 : decode cX12_init 92 = .ok (.putfield 45, 3) := by decide +kernel
theorem dX12_init_95 : decode cX12_init 95 = .ok (.aload_n 0, 1) := by decide +kernel
theorem dX12_init_96 : decode cX12_init 96 = .ok (.bipush 41, 2) := by decide +kernel
theorem dX12_init_98 : decode cX12_init 98 = .ok (.newarray .int, 2) := by decide +kernel
theorem dX12_init_100 : decode cX12_init 100 = .ok (.putfield 48, 3) := by decide +kernel
theorem dX12_init_103 : decode cX12_init 103 = .ok (.aload_n 0, 1) := by decide +kernel
theorem dX12_init_104 : decode cX12_init 104 = .ok (.bipush 8, 2) := by decide +kernel
theorem dX12_init_106 : decode cX12_init 106 = .ok (.newarray .int, 2) := by decide +kernel
theorem dX12_init_108 : decode cX12_init 108 = .ok (.putfield 51, 3) := by decide +kernel
theorem dX12_init_111 : decode cX12_init 111 = .ok (.aload_n 0, 1) := by decide +kernel
theorem dX12_init_112 : decode cX12_init 112 = .ok (.sipush 256, 3) := by decide +kernel
theorem dX12_init_115 : decode cX12_init 115 = .ok (.newarray .int, 2) := by decide +kernel
theorem dX12_init_117 : decode cX12_init 117 = .ok (.putfield 54, 3) := by decide +kernel
theorem dX12_init_120 : decode cX12_init 120 = .ok (.aload_n 0, 1) := by decide +kernel
theorem dX12_init_121 : decode cX12_init 121 = .ok (.bipush 12, 2) := by decide +kernel
theorem dX12_init_123 : decode cX12_init 123 = .ok (.newarray .int, 2) := by decide +kernel
theorem dX12_init_125 : decode cX12_init 125 = .ok (.putfield 57, 3) := by decide +kernel
theorem dX12_init_128 : decode cX12_init 128 = .ok (.aload_n 0, 1) := by decide +kernel
theorem dX12_init_129 : decode cX12_init 129 = .ok (.getfield 13, 3) := by decide +kernel
theorem dX12_init_132 : decode cX12_init 132 = .ok (.bipush 7, 2) := by decide +kernel
theorem dX12_init_134 : decode cX12_init 134 = .ok (.iconst 1, 1) := by decide +kernel
theorem dX12_init_135 : decode cX12_init 135 = .ok (.iastore, 1) := by decide +kernel
theorem dX12_init_136 : decode cX12_init 136 = .ok (.iconst 0, 1) := by decide +kernel
theorem dX12_init_137 : decode cX12_init 137 = .ok (.istore_n 1, 1) := by decide +kernel
theorem dX12_init_138 : decode cX12_init 138 = .ok (.iload_n 1, 1) := by decide +kernel
theorem dX12_init_139 : decode cX12_init 139 = .ok (.bipush 12, 2) := by decide +kernel
theorem dX12_init_141 : decode cX12_init 141 = .ok (.if_icmp .ge 19, 3) := by decide +kernel
theorem dX12_init_144 : decode cX12_init 144 = .ok (.aload_n 0, 1) := by decide +kernel
theorem dX12_init_145 : decode cX12_init 145 = .ok (.getfield 13, 3) := by decide +kernel
theorem dX12_init_148 : decode cX12_init 148 = .ok (.bipush 8, 2) := by decide +kernel
theorem dX12_init_150 : decode cX12_init 150 = .ok (.iload_n 1, 1) := by decide +kernel
theorem dX12_init_151 : decode cX12_init 151 = .ok (.iadd, 1) := by decide +kernel
theorem dX12_init_152 : decode cX12_init 152 = .ok (.iconst 3, 1) := by decide +kernel
theorem dX12_init_153 : decode cX12_init 153 = .ok (.iastore, 1) := by decide +kernel
theorem dX12_init_154 : decode cX12_init 154 = .ok (.iinc 1 1, 3) := by decide +kernel
theorem dX12_init_157 : decode cX12_init 157 = .ok (.goto (-19), 3) := by decide +kernel
theorem dX12_init_160 : decode cX12_init 160 = .ok (.return_, 1) := by decide +kernel
theorem dX12_image_0 : decode cX12_image 0 = .ok (.aload_n 0, 1) := by decide +kernel
theorem dX12_image_1 : decode cX12_image 1 = .ok (.iconst 0, 1) := by decide +kernel
theorem dX12_image_2 : decode cX12_image 2 = .ok (.putfield 3, 3) := by decide +kernel
theorem dX12_image_5 : decode cX12_image 5 = .ok (.iconst 0, 1) := by decide +kernel
theorem dX12_image_6 : decode cX12_image 6 = .ok (.istore_n 1, 1) := by decide +kernel
theorem dX12_image_7 : decode cX12_image 7 = .ok (.iload_n 1, 1) := by decide +kernel
theorem dX12_image_8 : decode cX12_image 8 = .ok (.sipush 1309, 3) := by decide +kernel
theorem dX12_image_11 : decode cX12_image 11 = .ok (.if_icmp .ge 21, 3) := by decide +kernel
theorem dX12_image_14 : decode cX12_image 14 = .ok (.aload_n 0, 1) := by decide +kernel
theorem dX12_image_15 : decode cX12_image 15 = .ok (.getfield 17, 3) := by decide +kernel
theorem dX12_image_18 : decode cX12_image 18 = .ok (.iload_n 1, 1) := by decide +kernel
theorem dX12_image_19 : decode cX12_image 19 = .ok (.aload_n 0, 1) := by decide +kernel
theorem dX12_image_20 : decode cX12_image 20 = .ok (.getfield 13, 3) := by decide +kernel
theorem dX12_image_23 : decode cX12_image 23 = .ok (.iload_n 1, 1) := by decide +kernel
theorem dX12_image_24 : decode cX12_image 24 = .ok (.iaload, 1) := by decide +kernel
theorem dX12_image_25 : decode cX12_image 25 = .ok (.iastore, 1) := by decide +kernel
theorem dX12_image_26 : decode cX12_image 26 = .ok (.iinc 1 1, 3) := by decide +kernel
theorem dX12_image_29 : decode cX12_image 29 = .ok (.goto (-22), 3) := by decide +kernel
theorem dX12_image_32 : decode cX12_image 32 = .ok (.aload_n 0, 1) := by decide +kernel
theorem dX12_image_33 : decode cX12_image 33 = .ok (.iconst 1, 1) := by decide +kernel
theorem dX12_image_34 : decode cX12_image 34 = .ok (.putfield 60, 3) := by decide +kernel
theorem dX12_image_37 : decode cX12_image 37 = .ok (.return_, 1) := by decide +kernel
theorem dX12_back_0 : decode cX12_back 0 = .ok (.aload_n 0, 1) := by decide +kernel
theorem dX12_back_1 : decode cX12_back 1 = .ok (.iconst 0, 1) := by decide +kernel
theorem dX12_back_2 : decode cX12_back 2 = .ok (.putfield 3, 3) := by decide +kernel
theorem dX12_back_5 : decode cX12_back 5 = .ok (.aload_n 0, 1) := by decide +kernel
theorem dX12_back_6 : decode cX12_back 6 = .ok (.getfield 60, 3) := by decide +kernel
theorem dX12_back_9 : decode cX12_back 9 = .ok (.ifCond .ne 5, 3) := by decide +kernel
theorem dX12_back_12 : decode cX12_back 12 = .ok (.iconst 0, 1) := by decide +kernel
theorem dX12_back_13 : decode cX12_back 13 = .ok (.ireturn, 1) := by decide +kernel
theorem dX12_back_14 : decode cX12_back 14 = .ok (.iconst 0, 1) := by decide +kernel
theorem dX12_back_15 : decode cX12_back 15 = .ok (.istore_n 1, 1) := by decide +kernel
theorem dX12_back_16 : decode cX12_back 16 = .ok (.iload_n 1, 1) := by decide +kernel
theorem dX12_back_17 : decode cX12_back 17 = .ok (.sipush 1309, 3) := by decide +kernel
theorem dX12_back_20 : decode cX12_back 20 = .ok (.if_icmp .ge 21, 3) := by decide +kernel
theorem dX12_back_23 : decode cX12_back 23 = .ok (.aload_n 0, 1) := by decide +kernel
theorem dX12_back_24 : decode cX12_back 24 = .ok (.getfield 13, 3) := by decide +kernel
theorem dX12_back_27 : decode cX12_back 27 = .ok (.iload_n 1, 1) := by decide +kernel
theorem dX12_back_28 : decode cX12_back 28 = .ok (.aload_n 0, 1) := by decide +kernel
theorem dX12_back_29 : decode cX12_back 29 = .ok (.getfield 17, 3) := by decide +kernel
theorem dX12_back_32 : decode cX12_back 32 = .ok (.iload_n 1, 1) := by decide +kernel
theorem dX12_back_33 : decode cX12_back 33 = .ok (.iaload, 1) := by decide +kernel
theorem dX12_back_34 : decode cX12_back 34 = .ok (.iastore, 1) := by decide +kernel
theorem dX12_back_35 : decode cX12_back 35 = .ok (.iinc 1 1, 3) := by decide +kernel
theorem dX12_back_38 : decode cX12_back 38 = .ok (.goto (-22), 3) := by decide +kernel
theorem dX12_back_41 : decode cX12_back 41 = .ok (.aload_n 0, 1) := by decide +kernel
theorem dX12_back_42 : decode cX12_back 42 = .ok (.iconst 0, 1) := by decide +kernel
theorem dX12_back_43 : decode cX12_back 43 = .ok (.putfield 64, 3) := by decide +kernel
theorem dX12_back_46 : decode cX12_back 46 = .ok (.iconst 1, 1) := by decide +kernel
theorem dX12_back_47 : decode cX12_back 47 = .ok (.ireturn, 1) := by decide +kernel
theorem dX12_remembers_0 : decode cX12_remembers 0 = .ok (.aload_n 0, 1) := by decide +kernel
theorem dX12_remembers_1 : decode cX12_remembers 1 = .ok (.getfield 64, 3) := by decide +kernel
theorem dX12_remembers_4 : decode cX12_remembers 4 = .ok (.bipush 12, 2) := by decide +kernel
theorem dX12_remembers_6 : decode cX12_remembers 6 = .ok (.if_icmp .ne 37, 3) := by decide +kernel
theorem dX12_remembers_9 : decode cX12_remembers 9 = .ok (.iconst 0, 1) := by decide +kernel
theorem dX12_remembers_10 : decode cX12_remembers 10 = .ok (.istore_n 1, 1) := by decide +kernel
theorem dX12_remembers_11 : decode cX12_remembers 11 = .ok (.iload_n 1, 1) := by decide +kernel
theorem dX12_remembers_12 : decode cX12_remembers 12 = .ok (.sipush 5060, 3) := by decide +kernel
theorem dX12_remembers_15 : decode cX12_remembers 15 = .ok (.if_icmp .ge 25, 3) := by decide +kernel
theorem dX12_remembers_18 : decode cX12_remembers 18 = .ok (.aload_n 0, 1) := by decide +kernel
theorem dX12_remembers_19 : decode cX12_remembers 19 = .ok (.getfield 26, 3) := by decide +kernel
theorem dX12_remembers_22 : decode cX12_remembers 22 = .ok (.iload_n 1, 1) := by decide +kernel
theorem dX12_remembers_23 : decode cX12_remembers 23 = .ok (.aload_n 0, 1) := by decide +kernel
theorem dX12_remembers_24 : decode cX12_remembers 24 = .ok (.getfield 26, 3) := by decide +kernel
theorem dX12_remembers_27 : decode cX12_remembers 27 = .ok (.iload_n 1, 1) := by decide +kernel
theorem dX12_remembers_28 : decode cX12_remembers 28 = .ok (.sipush 460, 3) := by decide +kernel
theorem dX12_remembers_31 : decode cX12_remembers 31 = .ok (.iadd, 1) := by decide +kernel
theorem dX12_remembers_32 : decode cX12_remembers 32 = .ok (.iaload, 1) := by decide +kernel
theorem dX12_remembers_33 : decode cX12_remembers 33 = .ok (.iastore, 1) := by decide +kernel
theorem dX12_remembers_34 : decode cX12_remembers 34 = .ok (.iinc 1 1, 3) := by decide +kernel
theorem dX12_remembers_37 : decode cX12_remembers 37 = .ok (.goto (-26), 3) := by decide +kernel
theorem dX12_remembers_40 : decode cX12_remembers 40 = .ok (.goto 13, 3) := by decide +kernel
theorem dX12_remembers_43 : decode cX12_remembers 43 = .ok (.aload_n 0, 1) := by decide +kernel
theorem dX12_remembers_44 : decode cX12_remembers 44 = .ok (.dup, 1) := by decide +kernel
theorem dX12_remembers_45 : decode cX12_remembers 45 = .ok (.getfield 64, 3) := by decide +kernel
theorem dX12_remembers_48 : decode cX12_remembers 48 = .ok (.iconst 1, 1) := by decide +kernel
theorem dX12_remembers_49 : decode cX12_remembers 49 = .ok (.iadd, 1) := by decide +kernel
theorem dX12_remembers_50 : decode cX12_remembers 50 = .ok (.putfield 64, 3) := by decide +kernel
theorem dX12_remembers_53 : decode cX12_remembers 53 = .ok (.iconst 0, 1) := by decide +kernel
theorem dX12_remembers_54 : decode cX12_remembers 54 = .ok (.istore_n 1, 1) := by decide +kernel
theorem dX12_remembers_55 : decode cX12_remembers 55 = .ok (.iload_n 1, 1) := by decide +kernel
theorem dX12_remembers_56 : decode cX12_remembers 56 = .ok (.sipush 460, 3) := by decide +kernel
theorem dX12_remembers_59 : decode cX12_remembers 59 = .ok (.if_icmp .ge 32, 3) := by decide +kernel
theorem dX12_remembers_62 : decode cX12_remembers 62 = .ok (.aload_n 0, 1) := by decide +kernel
theorem dX12_remembers_63 : decode cX12_remembers 63 = .ok (.getfield 26, 3) := by decide +kernel
theorem dX12_remembers_66 : decode cX12_remembers 66 = .ok (.sipush 460, 3) := by decide +kernel
theorem dX12_remembers_69 : decode cX12_remembers 69 = .ok (.aload_n 0, 1) := by decide +kernel
theorem dX12_remembers_70 : decode cX12_remembers 70 = .ok (.getfield 64, 3) := by decide +kernel
theorem dX12_remembers_73 : decode cX12_remembers 73 = .ok (.iconst 1, 1) := by decide +kernel
theorem dX12_remembers_74 : decode cX12_remembers 74 = .ok (.isub, 1) := by decide +kernel
theorem dX12_remembers_75 : decode cX12_remembers 75 = .ok (.imul, 1) := by decide +kernel
theorem dX12_remembers_76 : decode cX12_remembers 76 = .ok (.iload_n 1, 1) := by decide +kernel
theorem dX12_remembers_77 : decode cX12_remembers 77 = .ok (.iadd, 1) := by decide +kernel
theorem dX12_remembers_78 : decode cX12_remembers 78 = .ok (.aload_n 0, 1) := by decide +kernel
theorem dX12_remembers_79 : decode cX12_remembers 79 = .ok (.getfield 13, 3) := by decide +kernel
theorem dX12_remembers_82 : decode cX12_remembers 82 = .ok (.iload_n 1, 1) := by decide +kernel
theorem dX12_remembers_83 : decode cX12_remembers 83 = .ok (.iaload, 1) := by decide +kernel
theorem dX12_remembers_84 : decode cX12_remembers 84 = .ok (.iastore, 1) := by decide +kernel
theorem dX12_remembers_85 : decode cX12_remembers 85 = .ok (.iinc 1 1, 3) := by decide +kernel
theorem dX12_remembers_88 : decode cX12_remembers 88 = .ok (.goto (-33), 3) := by decide +kernel
theorem dX12_remembers_91 : decode cX12_remembers 91 = .ok (.return_, 1) := by decide +kernel
theorem dX12_undo_0 : decode cX12_undo 0 = .ok (.aload_n 0, 1) := by decide +kernel
theorem dX12_undo_1 : decode cX12_undo 1 = .ok (.iconst 0, 1) := by decide +kernel
theorem dX12_undo_2 : decode cX12_undo 2 = .ok (.putfield 3, 3) := by decide +kernel
theorem dX12_undo_5 : decode cX12_undo 5 = .ok (.aload_n 0, 1) := by decide +kernel
theorem dX12_undo_6 : decode cX12_undo 6 = .ok (.getfield 64, 3) := by decide +kernel
theorem dX12_undo_9 : decode cX12_undo 9 = .ok (.ifCond .ne 5, 3) := by decide +kernel
theorem dX12_undo_12 : decode cX12_undo 12 = .ok (.iconst 0, 1) := by decide +kernel
theorem dX12_undo_13 : decode cX12_undo 13 = .ok (.ireturn, 1) := by decide +kernel
theorem dX12_undo_14 : decode cX12_undo 14 = .ok (.aload_n 0, 1) := by decide +kernel
theorem dX12_undo_15 : decode cX12_undo 15 = .ok (.dup, 1) := by decide +kernel
theorem dX12_undo_16 : decode cX12_undo 16 = .ok (.getfield 64, 3) := by decide +kernel
theorem dX12_undo_19 : decode cX12_undo 19 = .ok (.iconst 1, 1) := by decide +kernel
theorem dX12_undo_20 : decode cX12_undo 20 = .ok (.isub, 1) := by decide +kernel
theorem dX12_undo_21 : decode cX12_undo 21 = .ok (.putfield 64, 3) := by decide +kernel
theorem dX12_undo_24 : decode cX12_undo 24 = .ok (.iconst 0, 1) := by decide +kernel
theorem dX12_undo_25 : decode cX12_undo 25 = .ok (.istore_n 1, 1) := by decide +kernel
theorem dX12_undo_26 : decode cX12_undo 26 = .ok (.iload_n 1, 1) := by decide +kernel
theorem dX12_undo_27 : decode cX12_undo 27 = .ok (.sipush 460, 3) := by decide +kernel
theorem dX12_undo_30 : decode cX12_undo 30 = .ok (.if_icmp .ge 30, 3) := by decide +kernel
theorem dX12_undo_33 : decode cX12_undo 33 = .ok (.aload_n 0, 1) := by decide +kernel
theorem dX12_undo_34 : decode cX12_undo 34 = .ok (.getfield 13, 3) := by decide +kernel
theorem dX12_undo_37 : decode cX12_undo 37 = .ok (.iload_n 1, 1) := by decide +kernel
theorem dX12_undo_38 : decode cX12_undo 38 = .ok (.aload_n 0, 1) := by decide +kernel
theorem dX12_undo_39 : decode cX12_undo 39 = .ok (.getfield 26, 3) := by decide +kernel
theorem dX12_undo_42 : decode cX12_undo 42 = .ok (.sipush 460, 3) := by decide +kernel
theorem dX12_undo_45 : decode cX12_undo 45 = .ok (.aload_n 0, 1) := by decide +kernel
theorem dX12_undo_46 : decode cX12_undo 46 = .ok (.getfield 64, 3) := by decide +kernel
theorem dX12_undo_49 : decode cX12_undo 49 = .ok (.imul, 1) := by decide +kernel
theorem dX12_undo_50 : decode cX12_undo 50 = .ok (.iload_n 1, 1) := by decide +kernel
theorem dX12_undo_51 : decode cX12_undo 51 = .ok (.iadd, 1) := by decide +kernel
theorem dX12_undo_52 : decode cX12_undo 52 = .ok (.iaload, 1) := by decide +kernel
theorem dX12_undo_53 : decode cX12_undo 53 = .ok (.iastore, 1) := by decide +kernel
theorem dX12_undo_54 : decode cX12_undo 54 = .ok (.iinc 1 1, 3) := by decide +kernel
theorem dX12_undo_57 : decode cX12_undo 57 = .ok (.goto (-31), 3) := by decide +kernel
theorem dX12_undo_60 : decode cX12_undo 60 = .ok (.iconst 1, 1) := by decide +kernel
theorem dX12_undo_61 : decode cX12_undo 61 = .ok (.ireturn, 1) := by decide +kernel
theorem dX12_letters_0 : decode cX12_letters 0 = .ok (.aload_n 0, 1) := by decide +kernel
theorem dX12_letters_1 : decode cX12_letters 1 = .ok (.getfield 13, 3) := by decide +kernel
theorem dX12_letters_4 : decode cX12_letters 4 = .ok (.iconst 0, 1) := by decide +kernel
theorem dX12_letters_5 : decode cX12_letters 5 = .ok (.iaload, 1) := by decide +kernel
theorem dX12_letters_6 : decode cX12_letters 6 = .ok (.ireturn, 1) := by decide +kernel
theorem dX12_promises_0 : decode cX12_promises 0 = .ok (.aload_n 0, 1) := by decide +kernel
theorem dX12_promises_1 : decode cX12_promises 1 = .ok (.getfield 13, 3) := by decide +kernel
theorem dX12_promises_4 : decode cX12_promises 4 = .ok (.iconst 1, 1) := by decide +kernel
theorem dX12_promises_5 : decode cX12_promises 5 = .ok (.iaload, 1) := by decide +kernel
theorem dX12_promises_6 : decode cX12_promises 6 = .ok (.ireturn, 1) := by decide +kernel
theorem dX12_at_0 : decode cX12_at 0 = .ok (.bipush 36, 2) := by decide +kernel
theorem dX12_at_2 : decode cX12_at 2 = .ok (.bipush 53, 2) := by decide +kernel
theorem dX12_at_4 : decode cX12_at 4 = .ok (.iload_n 0, 1) := by decide +kernel
theorem dX12_at_5 : decode cX12_at 5 = .ok (.imul, 1) := by decide +kernel
theorem dX12_at_6 : decode cX12_at 6 = .ok (.iadd, 1) := by decide +kernel
theorem dX12_at_7 : decode cX12_at 7 = .ok (.iload_n 1, 1) := by decide +kernel
theorem dX12_at_8 : decode cX12_at 8 = .ok (.iadd, 1) := by decide +kernel
theorem dX12_at_9 : decode cX12_at 9 = .ok (.ireturn, 1) := by decide +kernel
theorem dX12_of_0 : decode cX12_of 0 = .ok (.aload_n 0, 1) := by decide +kernel
theorem dX12_of_1 : decode cX12_of 1 = .ok (.getfield 13, 3) := by decide +kernel
theorem dX12_of_4 : decode cX12_of 4 = .ok (.iload_n 1, 1) := by decide +kernel
theorem dX12_of_5 : decode cX12_of 5 = .ok (.iload_n 2, 1) := by decide +kernel
theorem dX12_of_6 : decode cX12_of 6 = .ok (.invokestatic 67, 3) := by decide +kernel
theorem dX12_of_9 : decode cX12_of 9 = .ok (.iaload, 1) := by decide +kernel
theorem dX12_of_10 : decode cX12_of 10 = .ok (.ireturn, 1) := by decide +kernel
theorem dX12_lines_0 : decode cX12_lines 0 = .ok (.aload_n 0, 1) := by decide +kernel
theorem dX12_lines_1 : decode cX12_lines 1 = .ok (.iload_n 1, 1) := by decide +kernel
theorem dX12_lines_2 : decode cX12_lines 2 = .ok (.iconst 0, 1) := by decide +kernel
theorem dX12_lines_3 : decode cX12_lines 3 = .ok (.invokevirtual 71, 3) := by decide +kernel
theorem dX12_lines_6 : decode cX12_lines 6 = .ok (.ireturn, 1) := by decide +kernel
theorem dX12_kindOf_0 : decode cX12_kindOf 0 = .ok (.aload_n 0, 1) := by decide +kernel
theorem dX12_kindOf_1 : decode cX12_kindOf 1 = .ok (.iload_n 1, 1) := by decide +kernel
theorem dX12_kindOf_2 : decode cX12_kindOf 2 = .ok (.iconst 5, 1) := by decide +kernel
theorem dX12_kindOf_3 : decode cX12_kindOf 3 = .ok (.iload_n 2, 1) := by decide +kernel
theorem dX12_kindOf_4 : decode cX12_kindOf 4 = .ok (.iadd, 1) := by decide +kernel
theorem dX12_kindOf_5 : decode cX12_kindOf 5 = .ok (.invokevirtual 71, 3) := by decide +kernel
theorem dX12_kindOf_8 : decode cX12_kindOf 8 = .ok (.ireturn, 1) := by decide +kernel
theorem dX12_isOpen_0 : decode cX12_isOpen 0 = .ok (.aload_n 0, 1) := by decide +kernel
theorem dX12_isOpen_1 : decode cX12_isOpen 1 = .ok (.iload_n 1, 1) := by decide +kernel
theorem dX12_isOpen_2 : decode cX12_isOpen 2 = .ok (.iconst 3, 1) := by decide +kernel
theorem dX12_isOpen_3 : decode cX12_isOpen 3 = .ok (.invokevirtual 71, 3) := by decide +kernel
theorem dX12_isOpen_6 : decode cX12_isOpen 6 = .ok (.iconst 1, 1) := by decide +kernel
theorem dX12_isOpen_7 : decode cX12_isOpen 7 = .ok (.if_icmp .ne 7, 3) := by decide +kernel
theorem dX12_isOpen_10 : decode cX12_isOpen 10 = .ok (.iconst 1, 1) := by decide +kernel
theorem dX12_isOpen_11 : decode cX12_isOpen 11 = .ok (.goto 4, 3) := by decide +kernel
theorem dX12_isOpen_14 : decode cX12_isOpen 14 = .ok (.iconst 0, 1) := by decide +kernel
theorem dX12_isOpen_15 : decode cX12_isOpen 15 = .ok (.ireturn, 1) := by decide +kernel
theorem dX12_noLetter_0 : decode cX12_noLetter 0 = .ok (.iload_n 1, 1) := by decide +kernel
theorem dX12_noLetter_1 : decode cX12_noLetter 1 = .ok (.iconst 0, 1) := by decide +kernel
theorem dX12_noLetter_2 : decode cX12_noLetter 2 = .ok (.aload_n 0, 1) := by decide +kernel
theorem dX12_noLetter_3 : decode cX12_noLetter 3 = .ok (.invokevirtual 74, 3) := by decide +kernel
theorem dX12_noLetter_6 : decode cX12_noLetter 6 = .ok (.iconst 1, 1) := by decide +kernel
theorem dX12_noLetter_7 : decode cX12_noLetter 7 = .ok (.isub, 1) := by decide +kernel
theorem dX12_noLetter_8 : decode cX12_noLetter 8 = .ok (.invokestatic 78, 3) := by decide +kernel
theorem dX12_noLetter_11 : decode cX12_noLetter 11 = .ok (.ifCond .ne 7, 3) := by decide +kernel
theorem dX12_noLetter_14 : decode cX12_noLetter 14 = .ok (.iconst 1, 1) := by decide +kernel
theorem dX12_noLetter_15 : decode cX12_noLetter 15 = .ok (.goto 4, 3) := by decide +kernel
theorem dX12_noLetter_18 : decode cX12_noLetter 18 = .ok (.iconst 0, 1) := by decide +kernel
theorem dX12_noLetter_19 : decode cX12_noLetter 19 = .ok (.ireturn, 1) := by decide +kernel
theorem dX12_noLine_0 : decode cX12_noLine 0 = .ok (.aload_n 0, 1) := by decide +kernel
theorem dX12_noLine_1 : decode cX12_noLine 1 = .ok (.iload_n 1, 1) := by decide +kernel
theorem dX12_noLine_2 : decode cX12_noLine 2 = .ok (.invokevirtual 82, 3) := by decide +kernel
theorem dX12_noLine_5 : decode cX12_noLine 5 = .ok (.ifCond .ne 18, 3) := by decide +kernel
theorem dX12_noLine_8 : decode cX12_noLine 8 = .ok (.iload_n 2, 1) := by decide +kernel
theorem dX12_noLine_9 : decode cX12_noLine 9 = .ok (.iconst 0, 1) := by decide +kernel
theorem dX12_noLine_10 : decode cX12_noLine 10 = .ok (.aload_n 0, 1) := by decide +kernel
theorem dX12_noLine_11 : decode cX12_noLine 11 = .ok (.iload_n 1, 1) := by decide +kernel
theorem dX12_noLine_12 : decode cX12_noLine 12 = .ok (.invokevirtual 86, 3) := by decide +kernel
theorem dX12_noLine_15 : decode cX12_noLine 15 = .ok (.iconst 1, 1) := by decide +kernel
theorem dX12_noLine_16 : decode cX12_noLine 16 = .ok (.isub, 1) := by decide +kernel
theorem dX12_noLine_17 : decode cX12_noLine 17 = .ok (.invokestatic 78, 3) := by decide +kernel
theorem dX12_noLine_20 : decode cX12_noLine 20 = .ok (.ifCond .ne 7, 3) := by decide +kernel
theorem dX12_noLine_23 : decode cX12_noLine 23 = .ok (.iconst 1, 1) := by decide +kernel
theorem dX12_noLine_24 : decode cX12_noLine 24 = .ok (.goto 4, 3) := by decide +kernel
theorem dX12_noLine_27 : decode cX12_noLine 27 = .ok (.iconst 0, 1) := by decide +kernel
theorem dX12_noLine_28 : decode cX12_noLine 28 = .ok (.ireturn, 1) := by decide +kernel
theorem dX12_noPromise_0 : decode cX12_noPromise 0 = .ok (.iload_n 1, 1) := by decide +kernel
theorem dX12_noPromise_1 : decode cX12_noPromise 1 = .ok (.iconst 0, 1) := by decide +kernel
theorem dX12_noPromise_2 : decode cX12_noPromise 2 = .ok (.aload_n 0, 1) := by decide +kernel
theorem dX12_noPromise_3 : decode cX12_noPromise 3 = .ok (.invokevirtual 90, 3) := by decide +kernel
theorem dX12_noPromise_6 : decode cX12_noPromise 6 = .ok (.iconst 1, 1) := by decide +kernel
theorem dX12_noPromise_7 : decode cX12_noPromise 7 = .ok (.isub, 1) := by decide +kernel
theorem dX12_noPromise_8 : decode cX12_noPromise 8 = .ok (.invokestatic 78, 3) := by decide +kernel
theorem dX12_noPromise_11 : decode cX12_noPromise 11 = .ok (.ifCond .ne 7, 3) := by decide +kernel
theorem dX12_noPromise_14 : decode cX12_noPromise 14 = .ok (.iconst 1, 1) := by decide +kernel
theorem dX12_noPromise_15 : decode cX12_noPromise 15 = .ok (.goto 4, 3) := by decide +kernel
theorem dX12_noPromise_18 : decode cX12_noPromise 18 = .ok (.iconst 0, 1) := by decide +kernel
theorem dX12_noPromise_19 : decode cX12_noPromise 19 = .ok (.ireturn, 1) := by decide +kernel
theorem dX12_noKind_0 : decode cX12_noKind 0 = .ok (.iload_n 0, 1) := by decide +kernel
theorem dX12_noKind_1 : decode cX12_noKind 1 = .ok (.iconst 0, 1) := by decide +kernel
theorem dX12_noKind_2 : decode cX12_noKind 2 = .ok (.bipush 11, 2) := by decide +kernel
theorem dX12_noKind_4 : decode cX12_noKind 4 = .ok (.invokestatic 78, 3) := by decide +kernel
theorem dX12_noKind_7 : decode cX12_noKind 7 = .ok (.ifCond .ne 7, 3) := by decide +kernel
theorem dX12_noKind_10 : decode cX12_noKind 10 = .ok (.iconst 1, 1) := by decide +kernel
theorem dX12_noKind_11 : decode cX12_noKind 11 = .ok (.goto 4, 3) := by decide +kernel
theorem dX12_noKind_14 : decode cX12_noKind 14 = .ok (.iconst 0, 1) := by decide +kernel
theorem dX12_noKind_15 : decode cX12_noKind 15 = .ok (.ireturn, 1) := by decide +kernel
theorem dX12_noAhead_0 : decode cX12_noAhead 0 = .ok (.iload_n 0, 1) := by decide +kernel
theorem dX12_noAhead_1 : decode cX12_noAhead 1 = .ok (.iconst 0, 1) := by decide +kernel
theorem dX12_noAhead_2 : decode cX12_noAhead 2 = .ok (.bipush 40, 2) := by decide +kernel
theorem dX12_noAhead_4 : decode cX12_noAhead 4 = .ok (.invokestatic 78, 3) := by decide +kernel
theorem dX12_noAhead_7 : decode cX12_noAhead 7 = .ok (.ifCond .ne 7, 3) := by decide +kernel
theorem dX12_noAhead_10 : decode cX12_noAhead 10 = .ok (.iconst 1, 1) := by decide +kernel
theorem dX12_noAhead_11 : decode cX12_noAhead 11 = .ok (.goto 4, 3) := by decide +kernel
theorem dX12_noAhead_14 : decode cX12_noAhead 14 = .ok (.iconst 0, 1) := by decide +kernel
theorem dX12_noAhead_15 : decode cX12_noAhead 15 = .ok (.ireturn, 1) := by decide +kernel
theorem dX12_noSender_0 : decode cX12_noSender 0 = .ok (.iload_n 0, 1) := by decide +kernel
theorem dX12_noSender_1 : decode cX12_noSender 1 = .ok (.iconst 0, 1) := by decide +kernel
theorem dX12_noSender_2 : decode cX12_noSender 2 = .ok (.bipush 9, 2) := by decide +kernel
theorem dX12_noSender_4 : decode cX12_noSender 4 = .ok (.invokestatic 78, 3) := by decide +kernel
theorem dX12_noSender_7 : decode cX12_noSender 7 = .ok (.ifCond .eq 13, 3) := by decide +kernel
theorem dX12_noSender_10 : decode cX12_noSender 10 = .ok (.iload_n 1, 1) := by decide +kernel
theorem dX12_noSender_11 : decode cX12_noSender 11 = .ok (.iconst 0, 1) := by decide +kernel
theorem dX12_noSender_12 : decode cX12_noSender 12 = .ok (.bipush 9, 2) := by decide +kernel
theorem dX12_noSender_14 : decode cX12_noSender 14 = .ok (.invokestatic 78, 3) := by decide +kernel
theorem dX12_noSender_17 : decode cX12_noSender 17 = .ok (.ifCond .ne 7, 3) := by decide +kernel
theorem dX12_noSender_20 : decode cX12_noSender 20 = .ok (.iconst 1, 1) := by decide +kernel
theorem dX12_noSender_21 : decode cX12_noSender 21 = .ok (.goto 4, 3) := by decide +kernel
theorem dX12_noSender_24 : decode cX12_noSender 24 = .ok (.iconst 0, 1) := by decide +kernel
theorem dX12_noSender_25 : decode cX12_noSender 25 = .ok (.ireturn, 1) := by decide +kernel
theorem dX12_draw_0 : decode cX12_draw 0 = .ok (.aload_n 0, 1) := by decide +kernel
theorem dX12_draw_1 : decode cX12_draw 1 = .ok (.getfield 13, 3) := by decide +kernel
theorem dX12_draw_4 : decode cX12_draw 4 = .ok (.bipush 7, 2) := by decide +kernel
theorem dX12_draw_6 : decode cX12_draw 6 = .ok (.ldc 93, 2) := by decide +kernel
theorem dX12_draw_8 : decode cX12_draw 8 = .ok (.aload_n 0, 1) := by decide +kernel
theorem dX12_draw_9 : decode cX12_draw 9 = .ok (.getfield 13, 3) := by decide +kernel
theorem dX12_draw_12 : decode cX12_draw 12 = .ok (.bipush 7, 2) := by decide +kernel
theorem dX12_draw_14 : decode cX12_draw 14 = .ok (.iaload, 1) := by decide +kernel
theorem dX12_draw_15 : decode cX12_draw 15 = .ok (.imul, 1) := by decide +kernel
theorem dX12_draw_16 : decode cX12_draw 16 = .ok (.sipush 12345, 3) := by decide +kernel
theorem dX12_draw_19 : decode cX12_draw 19 = .ok (.iadd, 1) := by decide +kernel
theorem dX12_draw_20 : decode cX12_draw 20 = .ok (.iastore, 1) := by decide +kernel
theorem dX12_draw_21 : decode cX12_draw 21 = .ok (.aload_n 0, 1) := by decide +kernel
theorem dX12_draw_22 : decode cX12_draw 22 = .ok (.getfield 13, 3) := by decide +kernel
theorem dX12_draw_25 : decode cX12_draw 25 = .ok (.bipush 7, 2) := by decide +kernel
theorem dX12_draw_27 : decode cX12_draw 27 = .ok (.iaload, 1) := by decide +kernel
theorem dX12_draw_28 : decode cX12_draw 28 = .ok (.bipush 16, 2) := by decide +kernel
theorem dX12_draw_30 : decode cX12_draw 30 = .ok (.ishr, 1) := by decide +kernel
theorem dX12_draw_31 : decode cX12_draw 31 = .ok (.sipush 32767, 3) := by decide +kernel
theorem dX12_draw_34 : decode cX12_draw 34 = .ok (.iand, 1) := by decide +kernel
theorem dX12_draw_35 : decode cX12_draw 35 = .ok (.iload_n 1, 1) := by decide +kernel
theorem dX12_draw_36 : decode cX12_draw 36 = .ok (.irem, 1) := by decide +kernel
theorem dX12_draw_37 : decode cX12_draw 37 = .ok (.ireturn, 1) := by decide +kernel
theorem dX12_feed_0 : decode cX12_feed 0 = .ok (.aload_n 0, 1) := by decide +kernel
theorem dX12_feed_1 : decode cX12_feed 1 = .ok (.iconst 0, 1) := by decide +kernel
theorem dX12_feed_2 : decode cX12_feed 2 = .ok (.putfield 3, 3) := by decide +kernel
theorem dX12_feed_5 : decode cX12_feed 5 = .ok (.aload_n 0, 1) := by decide +kernel
theorem dX12_feed_6 : decode cX12_feed 6 = .ok (.getfield 94, 3) := by decide +kernel
theorem dX12_feed_9 : decode cX12_feed 9 = .ok (.bipush 20, 2) := by decide +kernel
theorem dX12_feed_11 : decode cX12_feed 11 = .ok (.iadd, 1) := by decide +kernel
theorem dX12_feed_12 : decode cX12_feed 12 = .ok (.sipush 400, 3) := by decide +kernel
theorem dX12_feed_15 : decode cX12_feed 15 = .ok (.if_icmp .le 5, 3) := by decide +kernel
theorem dX12_feed_18 : decode cX12_feed 18 = .ok (.iconst (-1), 1) := by decide +kernel
theorem dX12_feed_19 : decode cX12_feed 19 = .ok (.ireturn, 1) := by decide +kernel
theorem dX12_feed_20 : decode cX12_feed 20 = .ok (.aload_n 0, 1) := by decide +kernel
theorem dX12_feed_21 : decode cX12_feed 21 = .ok (.getfield 36, 3) := by decide +kernel
theorem dX12_feed_24 : decode cX12_feed 24 = .ok (.iconst 0, 1) := by decide +kernel
theorem dX12_feed_25 : decode cX12_feed 25 = .ok (.iload_n 1, 1) := by decide +kernel
theorem dX12_feed_26 : decode cX12_feed 26 = .ok (.iastore, 1) := by decide +kernel
theorem dX12_feed_27 : decode cX12_feed 27 = .ok (.aload_n 0, 1) := by decide +kernel
theorem dX12_feed_28 : decode cX12_feed 28 = .ok (.getfield 36, 3) := by decide +kernel
theorem dX12_feed_31 : decode cX12_feed 31 = .ok (.iconst 1, 1) := by decide +kernel
theorem dX12_feed_32 : decode cX12_feed 32 = .ok (.iload_n 2, 1) := by decide +kernel
theorem dX12_feed_33 : decode cX12_feed 33 = .ok (.iastore, 1) := by decide +kernel
theorem dX12_feed_34 : decode cX12_feed 34 = .ok (.aload_n 0, 1) := by decide +kernel
theorem dX12_feed_35 : decode cX12_feed 35 = .ok (.getfield 36, 3) := by decide +kernel
theorem dX12_feed_38 : decode cX12_feed 38 = .ok (.iconst 2, 1) := by decide +kernel
theorem dX12_feed_39 : decode cX12_feed 39 = .ok (.iload_n 3, 1) := by decide +kernel
theorem dX12_feed_40 : decode cX12_feed 40 = .ok (.iastore, 1) := by decide +kernel
theorem dX12_feed_41 : decode cX12_feed 41 = .ok (.aload_n 0, 1) := by decide +kernel
theorem dX12_feed_42 : decode cX12_feed 42 = .ok (.getfield 36, 3) := by decide +kernel
theorem dX12_feed_45 : decode cX12_feed 45 = .ok (.iconst 3, 1) := by decide +kernel
theorem dX12_feed_46 : decode cX12_feed 46 = .ok (.iload 4, 2) := by decide +kernel
theorem dX12_feed_48 : decode cX12_feed 48 = .ok (.iastore, 1) := by decide +kernel
theorem dX12_feed_49 : decode cX12_feed 49 = .ok (.aload_n 0, 1) := by decide +kernel
theorem dX12_feed_50 : decode cX12_feed 50 = .ok (.getfield 36, 3) := by decide +kernel
theorem dX12_feed_53 : decode cX12_feed 53 = .ok (.iconst 4, 1) := by decide +kernel
theorem dX12_feed_54 : decode cX12_feed 54 = .ok (.iload 5, 2) := by decide +kernel
theorem dX12_feed_56 : decode cX12_feed 56 = .ok (.iastore, 1) := by decide +kernel
theorem dX12_feed_57 : decode cX12_feed 57 = .ok (.iconst 0, 1) := by decide +kernel
theorem dX12_feed_58 : decode cX12_feed 58 = .ok (.istore 6, 2) := by decide +kernel
theorem dX12_feed_60 : decode cX12_feed 60 = .ok (.iload 6, 2) := by decide +kernel
theorem dX12_feed_62 : decode cX12_feed 62 = .ok (.bipush 20, 2) := by decide +kernel
theorem dX12_feed_64 : decode cX12_feed 64 = .ok (.if_icmp .ge 42, 3) := by decide +kernel
theorem dX12_feed_67 : decode cX12_feed 67 = .ok (.aload_n 0, 1) := by decide +kernel
theorem dX12_feed_68 : decode cX12_feed 68 = .ok (.getfield 29, 3) := by decide +kernel
theorem dX12_feed_71 : decode cX12_feed 71 = .ok (.aload_n 0, 1) := by decide +kernel
theorem dX12_feed_72 : decode cX12_feed 72 = .ok (.getfield 94, 3) := by decide +kernel
theorem dX12_feed_75 : decode cX12_feed 75 = .ok (.iload 6, 2) := by decide +kernel
theorem dX12_feed_77 : decode cX12_feed 77 = .ok (.iadd, 1) := by decide +kernel
theorem dX12_feed_78 : decode cX12_feed 78 = .ok (.aload_n 0, 1) := by decide +kernel
theorem dX12_feed_79 : decode cX12_feed 79 = .ok (.getfield 36, 3) := by decide +kernel
theorem dX12_feed_82 : decode cX12_feed 82 = .ok (.iload 6, 2) := by decide +kernel
theorem dX12_feed_84 : decode cX12_feed 84 = .ok (.iconst 4, 1) := by decide +kernel
theorem dX12_feed_85 : decode cX12_feed 85 = .ok (.idiv, 1) := by decide +kernel
theorem dX12_feed_86 : decode cX12_feed 86 = .ok (.iaload, 1) := by decide +kernel
theorem dX12_feed_87 : decode cX12_feed 87 = .ok (.bipush 24, 2) := by decide +kernel
theorem dX12_feed_89 : decode cX12_feed 89 = .ok (.bipush 8, 2) := by decide +kernel
theorem dX12_feed_91 : decode cX12_feed 91 = .ok (.iload 6, 2) := by decide +kernel
theorem dX12_feed_93 : decode cX12_feed 93 = .ok (.iconst 4, 1) := by decide +kernel
theorem dX12_feed_94 : decode cX12_feed 94 = .ok (.irem, 1) := by decide +kernel
theorem dX12_feed_95 : decode cX12_feed 95 = .ok (.imul, 1) := by decide +kernel
theorem dX12_feed_96 : decode cX12_feed 96 = .ok (.isub, 1) := by decide +kernel
theorem dX12_feed_97 : decode cX12_feed 97 = .ok (.ishr, 1) := by decide +kernel
theorem dX12_feed_98 : decode cX12_feed 98 = .ok (.i2b, 1) := by decide +kernel
theorem dX12_feed_99 : decode cX12_feed 99 = .ok (.bastore, 1) := by decide +kernel
theorem dX12_feed_100 : decode cX12_feed 100 = .ok (.iinc 6 1, 3) := by decide +kernel
theorem dX12_feed_103 : decode cX12_feed 103 = .ok (.goto (-43), 3) := by decide +kernel
theorem dX12_feed_106 : decode cX12_feed 106 = .ok (.aload_n 0, 1) := by decide +kernel
theorem dX12_feed_107 : decode cX12_feed 107 = .ok (.dup, 1) := by decide +kernel
theorem dX12_feed_108 : decode cX12_feed 108 = .ok (.getfield 94, 3) := by decide +kernel
theorem dX12_feed_111 : decode cX12_feed 111 = .ok (.bipush 20, 2) := by decide +kernel
theorem dX12_feed_113 : decode cX12_feed 113 = .ok (.iadd, 1) := by decide +kernel
theorem dX12_feed_114 : decode cX12_feed 114 = .ok (.putfield 94, 3) := by decide +kernel
theorem dX12_feed_117 : decode cX12_feed 117 = .ok (.aload_n 0, 1) := by decide +kernel
theorem dX12_feed_118 : decode cX12_feed 118 = .ok (.getfield 94, 3) := by decide +kernel
theorem dX12_feed_121 : decode cX12_feed 121 = .ok (.ireturn, 1) := by decide +kernel
theorem dX12_end_0 : decode cX12_end 0 = .ok (.aload_n 0, 1) := by decide +kernel
theorem dX12_end_1 : decode cX12_end 1 = .ok (.iconst 0, 1) := by decide +kernel
theorem dX12_end_2 : decode cX12_end 2 = .ok (.putfield 3, 3) := by decide +kernel
theorem dX12_end_5 : decode cX12_end 5 = .ok (.iload_n 1, 1) := by decide +kernel
theorem dX12_end_6 : decode cX12_end 6 = .ok (.ifCond .lt 11, 3) := by decide +kernel
theorem dX12_end_9 : decode cX12_end 9 = .ok (.iload_n 1, 1) := by decide +kernel
theorem dX12_end_10 : decode cX12_end 10 = .ok (.aload_n 0, 1) := by decide +kernel
theorem dX12_end_11 : decode cX12_end 11 = .ok (.getfield 94, 3) := by decide +kernel
theorem dX12_end_14 : decode cX12_end 14 = .ok (.if_icmp .le 5, 3) := by decide +kernel
theorem dX12_end_17 : decode cX12_end 17 = .ok (.iconst 0, 1) := by decide +kernel
theorem dX12_end_18 : decode cX12_end 18 = .ok (.ireturn, 1) := by decide +kernel
theorem dX12_end_19 : decode cX12_end 19 = .ok (.aload_n 0, 1) := by decide +kernel
theorem dX12_end_20 : decode cX12_end 20 = .ok (.iload_n 1, 1) := by decide +kernel
theorem dX12_end_21 : decode cX12_end 21 = .ok (.putfield 94, 3) := by decide +kernel
theorem dX12_end_24 : decode cX12_end 24 = .ok (.iconst 1, 1) := by decide +kernel
theorem dX12_end_25 : decode cX12_end 25 = .ok (.ireturn, 1) := by decide +kernel
theorem dX12_isAt_0 : decode cX12_isAt 0 = .ok (.aload_n 0, 1) := by decide +kernel
theorem dX12_isAt_1 : decode cX12_isAt 1 = .ok (.getfield 97, 3) := by decide +kernel
theorem dX12_isAt_4 : decode cX12_isAt 4 = .ok (.aload_n 0, 1) := by decide +kernel
theorem dX12_isAt_5 : decode cX12_isAt 5 = .ok (.getfield 100, 3) := by decide +kernel
theorem dX12_isAt_8 : decode cX12_isAt 8 = .ok (.if_icmp .ge 33, 3) := by decide +kernel
theorem dX12_isAt_11 : decode cX12_isAt 11 = .ok (.aload_n 0, 1) := by decide +kernel
theorem dX12_isAt_12 : decode cX12_isAt 12 = .ok (.getfield 29, 3) := by decide +kernel
theorem dX12_isAt_15 : decode cX12_isAt 15 = .ok (.aload_n 0, 1) := by decide +kernel
theorem dX12_isAt_16 : decode cX12_isAt 16 = .ok (.getfield 97, 3) := by decide +kernel
theorem dX12_isAt_19 : decode cX12_isAt 19 = .ok (.baload, 1) := by decide +kernel
theorem dX12_isAt_20 : decode cX12_isAt 20 = .ok (.iload_n 1, 1) := by decide +kernel
theorem dX12_isAt_21 : decode cX12_isAt 21 = .ok (.if_icmp .lt 20, 3) := by decide +kernel
theorem dX12_isAt_24 : decode cX12_isAt 24 = .ok (.aload_n 0, 1) := by decide +kernel
theorem dX12_isAt_25 : decode cX12_isAt 25 = .ok (.getfield 29, 3) := by decide +kernel
theorem dX12_isAt_28 : decode cX12_isAt 28 = .ok (.aload_n 0, 1) := by decide +kernel
theorem dX12_isAt_29 : decode cX12_isAt 29 = .ok (.getfield 97, 3) := by decide +kernel
theorem dX12_isAt_32 : decode cX12_isAt 32 = .ok (.baload, 1) := by decide +kernel
theorem dX12_isAt_33 : decode cX12_isAt 33 = .ok (.iload_n 2, 1) := by decide +kernel
theorem dX12_isAt_34 : decode cX12_isAt 34 = .ok (.if_icmp .gt 7, 3) := by decide +kernel
theorem dX12_isAt_37 : decode cX12_isAt 37 = .ok (.iconst 1, 1) := by decide +kernel
theorem dX12_isAt_38 : decode cX12_isAt 38 = .ok (.goto 4, 3) := by decide +kernel
theorem dX12_isAt_41 : decode cX12_isAt 41 = .ok (.iconst 0, 1) := by decide +kernel
theorem dX12_isAt_42 : decode cX12_isAt 42 = .ok (.ireturn, 1) := by decide +kernel
theorem dX12_blanks_0 : decode cX12_blanks 0 = .ok (.aload_n 0, 1) := by decide +kernel
theorem dX12_blanks_1 : decode cX12_blanks 1 = .ok (.bipush 32, 2) := by decide +kernel
theorem dX12_blanks_3 : decode cX12_blanks 3 = .ok (.bipush 32, 2) := by decide +kernel
theorem dX12_blanks_5 : decode cX12_blanks 5 = .ok (.invokevirtual 103, 3) := by decide +kernel
theorem dX12_blanks_8 : decode cX12_blanks 8 = .ok (.ifCond .eq 16, 3) := by decide +kernel
theorem dX12_blanks_11 : decode cX12_blanks 11 = .ok (.aload_n 0, 1) := by decide +kernel
theorem dX12_blanks_12 : decode cX12_blanks 12 = .ok (.dup, 1) := by decide +kernel
theorem dX12_blanks_13 : decode cX12_blanks 13 = .ok (.getfield 97, 3) := by decide +kernel
theorem dX12_blanks_16 : decode cX12_blanks 16 = .ok (.iconst 1, 1) := by decide +kernel
theorem dX12_blanks_17 : decode cX12_blanks 17 = .ok (.iadd, 1) := by decide +kernel
theorem dX12_blanks_18 : decode cX12_blanks 18 = .ok (.putfield 97, 3) := by decide +kernel
theorem dX12_blanks_21 : decode cX12_blanks 21 = .ok (.goto (-21), 3) := by decide +kernel
theorem dX12_blanks_24 : decode cX12_blanks 24 = .ok (.aload_n 0, 1) := by decide +kernel
theorem dX12_blanks_25 : decode cX12_blanks 25 = .ok (.aload_n 0, 1) := by decide +kernel
theorem dX12_blanks_26 : decode cX12_blanks 26 = .ok (.getfield 97, 3) := by decide +kernel
theorem dX12_blanks_29 : decode cX12_blanks 29 = .ok (.putfield 107, 3) := by decide +kernel
theorem dX12_blanks_32 : decode cX12_blanks 32 = .ok (.return_, 1) := by decide +kernel
theorem dX12_lettersPass_0 : decode cX12_lettersPass 0 = .ok (.aload_n 0, 1) := by decide +kernel
theorem dX12_lettersPass_1 : decode cX12_lettersPass 1 = .ok (.invokevirtual 110, 3) := by decide +kernel
theorem dX12_lettersPass_4 : decode cX12_lettersPass 4 = .ok (.aload_n 0, 1) := by decide +kernel
theorem dX12_lettersPass_5 : decode cX12_lettersPass 5 = .ok (.bipush 97, 2) := by decide +kernel
theorem dX12_lettersPass_7 : decode cX12_lettersPass 7 = .ok (.bipush 122, 2) := by decide +kernel
theorem dX12_lettersPass_9 : decode cX12_lettersPass 9 = .ok (.invokevirtual 103, 3) := by decide +kernel
theorem dX12_lettersPass_12 : decode cX12_lettersPass 12 = .ok (.ifCond .eq 16, 3) := by decide +kernel
theorem dX12_lettersPass_15 : decode cX12_lettersPass 15 = .ok (.aload_n 0, 1) := by decide +kernel
theorem dX12_lettersPass_16 : decode cX12_lettersPass 16 = .ok (.dup, 1) := by decide +kernel
theorem dX12_lettersPass_17 : decode cX12_lettersPass 17 = .ok (.getfield 97, 3) := by decide +kernel
theorem dX12_lettersPass_20 : decode cX12_lettersPass 20 = .ok (.iconst 1, 1) := by decide +kernel
theorem dX12_lettersPass_21 : decode cX12_lettersPass 21 = .ok (.iadd, 1) := by decide +kernel
theorem dX12_lettersPass_22 : decode cX12_lettersPass 22 = .ok (.putfield 97, 3) := by decide +kernel
theorem dX12_lettersPass_25 : decode cX12_lettersPass 25 = .ok (.goto (-21), 3) := by decide +kernel
theorem dX12_lettersPass_28 : decode cX12_lettersPass 28 = .ok (.return_, 1) := by decide +kernel
theorem dX12_isWord_0 : decode cX12_isWord 0 = .ok (.aload_n 0, 1) := by decide +kernel
theorem dX12_isWord_1 : decode cX12_isWord 1 = .ok (.getfield 97, 3) := by decide +kernel
theorem dX12_isWord_4 : decode cX12_isWord 4 = .ok (.aload_n 0, 1) := by decide +kernel
theorem dX12_isWord_5 : decode cX12_isWord 5 = .ok (.getfield 107, 3) := by decide +kernel
theorem dX12_isWord_8 : decode cX12_isWord 8 = .ok (.isub, 1) := by decide +kernel
theorem dX12_isWord_9 : decode cX12_isWord 9 = .ok (.aload_n 1, 1) := by decide +kernel
theorem dX12_isWord_10 : decode cX12_isWord 10 = .ok (.invokevirtual 113, 3) := by decide +kernel
theorem dX12_isWord_13 : decode cX12_isWord 13 = .ok (.if_icmp .ne 7, 3) := by decide +kernel
theorem dX12_isWord_16 : decode cX12_isWord 16 = .ok (.iconst 1, 1) := by decide +kernel
theorem dX12_isWord_17 : decode cX12_isWord 17 = .ok (.goto 4, 3) := by decide +kernel
theorem dX12_isWord_20 : decode cX12_isWord 20 = .ok (.iconst 0, 1) := by decide +kernel
theorem dX12_isWord_21 : decode cX12_isWord 21 = .ok (.istore_n 2, 1) := by decide +kernel
theorem dX12_isWord_22 : decode cX12_isWord 22 = .ok (.iconst 0, 1) := by decide +kernel
theorem dX12_isWord_23 : decode cX12_isWord 23 = .ok (.istore_n 3, 1) := by decide +kernel
theorem dX12_isWord_24 : decode cX12_isWord 24 = .ok (.iload_n 2, 1) := by decide +kernel
theorem dX12_isWord_25 : decode cX12_isWord 25 = .ok (.ifCond .eq 42, 3) := by decide +kernel
theorem dX12_isWord_28 : decode cX12_isWord 28 = .ok (.iload_n 3, 1) := by decide +kernel
theorem dX12_isWord_29 : decode cX12_isWord 29 = .ok (.aload_n 1, 1) := by decide +kernel
theorem dX12_isWord_30 : decode cX12_isWord 30 = .ok (.invokevirtual 113, 3) := by decide +kernel
theorem dX12_isWord_33 : decode cX12_isWord 33 = .ok (.if_icmp .ge 34, 3) := by decide +kernel
theorem dX12_isWord_36 : decode cX12_isWord 36 = .ok (.aload_n 0, 1) := by decide +kernel
theorem dX12_isWord_37 : decode cX12_isWord 37 = .ok (.getfield 29, 3) := by decide +kernel
theorem dX12_isWord_40 : decode cX12_isWord 40 = .ok (.aload_n 0, 1) := by decide +kernel
theorem dX12_isWord_41 : decode cX12_isWord 41 = .ok (.getfield 107, 3) := by decide +kernel
theorem dX12_isWord_44 : decode cX12_isWord 44 = .ok (.iload_n 3, 1) := by decide +kernel
theorem dX12_isWord_45 : decode cX12_isWord 45 = .ok (.iadd, 1) := by decide +kernel
theorem dX12_isWord_46 : decode cX12_isWord 46 = .ok (.baload, 1) := by decide +kernel
theorem dX12_isWord_47 : decode cX12_isWord 47 = .ok (.aload_n 1, 1) := by decide +kernel
theorem dX12_isWord_48 : decode cX12_isWord 48 = .ok (.iload_n 3, 1) := by decide +kernel
theorem dX12_isWord_49 : decode cX12_isWord 49 = .ok (.invokevirtual 118, 3) := by decide +kernel
theorem dX12_isWord_52 : decode cX12_isWord 52 = .ok (.if_icmp .ne 7, 3) := by decide +kernel
theorem dX12_isWord_55 : decode cX12_isWord 55 = .ok (.iconst 1, 1) := by decide +kernel
theorem dX12_isWord_56 : decode cX12_isWord 56 = .ok (.goto 4, 3) := by decide +kernel
theorem dX12_isWord_59 : decode cX12_isWord 59 = .ok (.iconst 0, 1) := by decide +kernel
theorem dX12_isWord_60 : decode cX12_isWord 60 = .ok (.istore_n 2, 1) := by decide +kernel
theorem dX12_isWord_61 : decode cX12_isWord 61 = .ok (.iinc 3 1, 3) := by decide +kernel
theorem dX12_isWord_64 : decode cX12_isWord 64 = .ok (.goto (-40), 3) := by decide +kernel
theorem dX12_isWord_67 : decode cX12_isWord 67 = .ok (.iload_n 2, 1) := by decide +kernel
theorem dX12_isWord_68 : decode cX12_isWord 68 = .ok (.ireturn, 1) := by decide +kernel
theorem dX12_passes_0 : decode cX12_passes 0 = .ok (.aload_n 0, 1) := by decide +kernel
theorem dX12_passes_1 : decode cX12_passes 1 = .ok (.invokevirtual 122, 3) := by decide +kernel
theorem dX12_passes_4 : decode cX12_passes 4 = .ok (.aload_n 0, 1) := by decide +kernel
theorem dX12_passes_5 : decode cX12_passes 5 = .ok (.aload_n 1, 1) := by decide +kernel
theorem dX12_passes_6 : decode cX12_passes 6 = .ok (.invokevirtual 125, 3) := by decide +kernel
theorem dX12_passes_9 : decode cX12_passes 9 = .ok (.ifCond .eq 5, 3) := by decide +kernel
theorem dX12_passes_12 : decode cX12_passes 12 = .ok (.iconst 1, 1) := by decide +kernel
theorem dX12_passes_13 : decode cX12_passes 13 = .ok (.ireturn, 1) := by decide +kernel
theorem dX12_passes_14 : decode cX12_passes 14 = .ok (.aload_n 0, 1) := by decide +kernel
theorem dX12_passes_15 : decode cX12_passes 15 = .ok (.aload_n 0, 1) := by decide +kernel
theorem dX12_passes_16 : decode cX12_passes 16 = .ok (.getfield 107, 3) := by decide +kernel
theorem dX12_passes_19 : decode cX12_passes 19 = .ok (.putfield 97, 3) := by decide +kernel
theorem dX12_passes_22 : decode cX12_passes 22 = .ok (.iconst 0, 1) := by decide +kernel
theorem dX12_passes_23 : decode cX12_passes 23 = .ok (.ireturn, 1) := by decide +kernel
theorem dX12_sign_0 : decode cX12_sign 0 = .ok (.aload_n 0, 1) := by decide +kernel
theorem dX12_sign_1 : decode cX12_sign 1 = .ok (.invokevirtual 110, 3) := by decide +kernel
theorem dX12_sign_4 : decode cX12_sign 4 = .ok (.aload_n 0, 1) := by decide +kernel
theorem dX12_sign_5 : decode cX12_sign 5 = .ok (.iload_n 1, 1) := by decide +kernel
theorem dX12_sign_6 : decode cX12_sign 6 = .ok (.iload_n 1, 1) := by decide +kernel
theorem dX12_sign_7 : decode cX12_sign 7 = .ok (.invokevirtual 103, 3) := by decide +kernel
theorem dX12_sign_10 : decode cX12_sign 10 = .ok (.ifCond .ne 5, 3) := by decide +kernel
theorem dX12_sign_13 : decode cX12_sign 13 = .ok (.iconst 0, 1) := by decide +kernel
theorem dX12_sign_14 : decode cX12_sign 14 = .ok (.ireturn, 1) := by decide +kernel
theorem dX12_sign_15 : decode cX12_sign 15 = .ok (.aload_n 0, 1) := by decide +kernel
theorem dX12_sign_16 : decode cX12_sign 16 = .ok (.dup, 1) := by decide +kernel
theorem dX12_sign_17 : decode cX12_sign 17 = .ok (.getfield 97, 3) := by decide +kernel
theorem dX12_sign_20 : decode cX12_sign 20 = .ok (.iconst 1, 1) := by decide +kernel
theorem dX12_sign_21 : decode cX12_sign 21 = .ok (.iadd, 1) := by decide +kernel
theorem dX12_sign_22 : decode cX12_sign 22 = .ok (.putfield 97, 3) := by decide +kernel
theorem dX12_sign_25 : decode cX12_sign 25 = .ok (.iconst 1, 1) := by decide +kernel
theorem dX12_sign_26 : decode cX12_sign 26 = .ok (.ireturn, 1) := by decide +kernel
theorem dX12_number_0 : decode cX12_number 0 = .ok (.aload_n 0, 1) := by decide +kernel
theorem dX12_number_1 : decode cX12_number 1 = .ok (.invokevirtual 110, 3) := by decide +kernel
theorem dX12_number_4 : decode cX12_number 4 = .ok (.iconst 0, 1) := by decide +kernel
theorem dX12_number_5 : decode cX12_number 5 = .ok (.istore_n 3, 1) := by decide +kernel
theorem dX12_number_6 : decode cX12_number 6 = .ok (.aload_n 0, 1) := by decide +kernel
theorem dX12_number_7 : decode cX12_number 7 = .ok (.bipush 48, 2) := by decide +kernel
theorem dX12_number_9 : decode cX12_number 9 = .ok (.bipush 57, 2) := by decide +kernel
theorem dX12_number_11 : decode cX12_number 11 = .ok (.invokevirtual 103, 3) := by decide +kernel
theorem dX12_number_14 : decode cX12_number 14 = .ok (.ifCond .eq 51, 3) := by decide +kernel
theorem dX12_number_17 : decode cX12_number 17 = .ok (.aload_n 0, 1) := by decide +kernel
theorem dX12_number_18 : decode cX12_number 18 = .ok (.getfield 97, 3) := by decide +kernel
theorem dX12_number_21 : decode cX12_number 21 = .ok (.aload_n 0, 1) := by decide +kernel
theorem dX12_number_22 : decode cX12_number 22 = .ok (.getfield 107, 3) := by decide +kernel
theorem dX12_number_25 : decode cX12_number 25 = .ok (.isub, 1) := by decide +kernel
theorem dX12_number_26 : decode cX12_number 26 = .ok (.iconst 3, 1) := by decide +kernel
theorem dX12_number_27 : decode cX12_number 27 = .ok (.if_icmp .ge 23, 3) := by decide +kernel
theorem dX12_number_30 : decode cX12_number 30 = .ok (.bipush 10, 2) := by decide +kernel
theorem dX12_number_32 : decode cX12_number 32 = .ok (.iload_n 3, 1) := by decide +kernel
theorem dX12_number_33 : decode cX12_number 33 = .ok (.imul, 1) := by decide +kernel
theorem dX12_number_34 : decode cX12_number 34 = .ok (.aload_n 0, 1) := by decide +kernel
theorem dX12_number_35 : decode cX12_number 35 = .ok (.getfield 29, 3) := by decide +kernel
theorem dX12_number_38 : decode cX12_number 38 = .ok (.aload_n 0, 1) := by decide +kernel
theorem dX12_number_39 : decode cX12_number 39 = .ok (.getfield 97, 3) := by decide +kernel
theorem dX12_number_42 : decode cX12_number 42 = .ok (.baload, 1) := by decide +kernel
theorem dX12_number_43 : decode cX12_number 43 = .ok (.iadd, 1) := by decide +kernel
theorem dX12_number_44 : decode cX12_number 44 = .ok (.bipush 48, 2) := by decide +kernel
theorem dX12_number_46 : decode cX12_number 46 = .ok (.isub, 1) := by decide +kernel
theorem dX12_number_47 : decode cX12_number 47 = .ok (.goto 4, 3) := by decide +kernel
theorem dX12_number_50 : decode cX12_number 50 = .ok (.iload_n 3, 1) := by decide +kernel
theorem dX12_number_51 : decode cX12_number 51 = .ok (.istore_n 3, 1) := by decide +kernel
theorem dX12_number_52 : decode cX12_number 52 = .ok (.aload_n 0, 1) := by decide +kernel
theorem dX12_number_53 : decode cX12_number 53 = .ok (.dup, 1) := by decide +kernel
theorem dX12_number_54 : decode cX12_number 54 = .ok (.getfield 97, 3) := by decide +kernel
theorem dX12_number_57 : decode cX12_number 57 = .ok (.iconst 1, 1) := by decide +kernel
theorem dX12_number_58 : decode cX12_number 58 = .ok (.iadd, 1) := by decide +kernel
theorem dX12_number_59 : decode cX12_number 59 = .ok (.putfield 97, 3) := by decide +kernel
theorem dX12_number_62 : decode cX12_number 62 = .ok (.goto (-56), 3) := by decide +kernel
theorem dX12_number_65 : decode cX12_number 65 = .ok (.aload_n 0, 1) := by decide +kernel
theorem dX12_number_66 : decode cX12_number 66 = .ok (.getfield 97, 3) := by decide +kernel
theorem dX12_number_69 : decode cX12_number 69 = .ok (.aload_n 0, 1) := by decide +kernel
theorem dX12_number_70 : decode cX12_number 70 = .ok (.getfield 107, 3) := by decide +kernel
theorem dX12_number_73 : decode cX12_number 73 = .ok (.if_icmp .eq 26, 3) := by decide +kernel
theorem dX12_number_76 : decode cX12_number 76 = .ok (.aload_n 0, 1) := by decide +kernel
theorem dX12_number_77 : decode cX12_number 77 = .ok (.getfield 97, 3) := by decide +kernel
theorem dX12_number_80 : decode cX12_number 80 = .ok (.aload_n 0, 1) := by decide +kernel
theorem dX12_number_81 : decode cX12_number 81 = .ok (.getfield 107, 3) := by decide +kernel
theorem dX12_number_84 : decode cX12_number 84 = .ok (.isub, 1) := by decide +kernel
theorem dX12_number_85 : decode cX12_number 85 = .ok (.iconst 3, 1) := by decide +kernel
theorem dX12_number_86 : decode cX12_number 86 = .ok (.if_icmp .gt 13, 3) := by decide +kernel
theorem dX12_number_89 : decode cX12_number 89 = .ok (.iload_n 3, 1) := by decide +kernel
theorem dX12_number_90 : decode cX12_number 90 = .ok (.iload_n 1, 1) := by decide +kernel
theorem dX12_number_91 : decode cX12_number 91 = .ok (.if_icmp .lt 8, 3) := by decide +kernel
theorem dX12_number_94 : decode cX12_number 94 = .ok (.iload_n 3, 1) := by decide +kernel
theorem dX12_number_95 : decode cX12_number 95 = .ok (.iload_n 2, 1) := by decide +kernel
theorem dX12_number_96 : decode cX12_number 96 = .ok (.if_icmp .le 7, 3) := by decide +kernel
theorem dX12_number_99 : decode cX12_number 99 = .ok (.iconst (-1), 1) := by decide +kernel
theorem dX12_number_100 : decode cX12_number 100 = .ok (.goto 4, 3) := by decide +kernel
theorem dX12_number_103 : decode cX12_number 103 = .ok (.iload_n 3, 1) := by decide +kernel
theorem dX12_number_104 : decode cX12_number 104 = .ok (.ireturn, 1) := by decide +kernel
theorem dX12_after_0 : decode cX12_after 0 = .ok (.aload_n 0, 1) := by decide +kernel
theorem dX12_after_1 : decode cX12_after 1 = .ok (.invokevirtual 122, 3) := by decide +kernel
theorem dX12_after_4 : decode cX12_after 4 = .ok (.aload_n 0, 1) := by decide +kernel
theorem dX12_after_5 : decode cX12_after 5 = .ok (.aload_n 1, 1) := by decide +kernel
theorem dX12_after_6 : decode cX12_after 6 = .ok (.invokevirtual 125, 3) := by decide +kernel
theorem dX12_after_9 : decode cX12_after 9 = .ok (.ifCond .eq 12, 3) := by decide +kernel
theorem dX12_after_12 : decode cX12_after 12 = .ok (.aload_n 0, 1) := by decide +kernel
theorem dX12_after_13 : decode cX12_after 13 = .ok (.iload_n 2, 1) := by decide +kernel
theorem dX12_after_14 : decode cX12_after 14 = .ok (.iload_n 3, 1) := by decide +kernel
theorem dX12_after_15 : decode cX12_after 15 = .ok (.invokevirtual 129, 3) := by decide +kernel
theorem dX12_after_18 : decode cX12_after 18 = .ok (.goto 4, 3) := by decide +kernel
theorem dX12_after_21 : decode cX12_after 21 = .ok (.iconst (-1), 1) := by decide +kernel
theorem dX12_after_22 : decode cX12_after 22 = .ok (.ireturn, 1) := by decide +kernel
theorem dX12_kindBy_0 : decode cX12_kindBy 0 = .ok (.iload_n 0, 1) := by decide +kernel
theorem dX12_kindBy_1 : decode cX12_kindBy 1 = .ok (.bipush 97, 2) := by decide +kernel
theorem dX12_kindBy_3 : decode cX12_kindBy 3 = .ok (.bipush 108, 2) := by decide +kernel
theorem dX12_kindBy_5 : decode cX12_kindBy 5 = .ok (.invokestatic 78, 3) := by decide +kernel
theorem dX12_kindBy_8 : decode cX12_kindBy 8 = .ok (.ifCond .eq 10, 3) := by decide +kernel
theorem dX12_kindBy_11 : decode cX12_kindBy 11 = .ok (.iload_n 0, 1) := by decide +kernel
theorem dX12_kindBy_12 : decode cX12_kindBy 12 = .ok (.bipush 97, 2) := by decide +kernel
theorem dX12_kindBy_14 : decode cX12_kindBy 14 = .ok (.isub, 1) := by decide +kernel
theorem dX12_kindBy_15 : decode cX12_kindBy 15 = .ok (.goto 4, 3) := by decide +kernel
theorem dX12_kindBy_18 : decode cX12_kindBy 18 = .ok (.iconst (-1), 1) := by decide +kernel
theorem dX12_kindBy_19 : decode cX12_kindBy 19 = .ok (.ireturn, 1) := by decide +kernel
theorem dX12_kindTold_0 : decode cX12_kindTold 0 = .ok (.aload_n 0, 1) := by decide +kernel
theorem dX12_kindTold_1 : decode cX12_kindTold 1 = .ok (.getfield 97, 3) := by decide +kernel
theorem dX12_kindTold_4 : decode cX12_kindTold 4 = .ok (.aload_n 0, 1) := by decide +kernel
theorem dX12_kindTold_5 : decode cX12_kindTold 5 = .ok (.getfield 107, 3) := by decide +kernel
theorem dX12_kindTold_8 : decode cX12_kindTold 8 = .ok (.isub, 1) := by decide +kernel
theorem dX12_kindTold_9 : decode cX12_kindTold 9 = .ok (.iconst 1, 1) := by decide +kernel
theorem dX12_kindTold_10 : decode cX12_kindTold 10 = .ok (.if_icmp .ne 18, 3) := by decide +kernel
theorem dX12_kindTold_13 : decode cX12_kindTold 13 = .ok (.aload_n 0, 1) := by decide +kernel
theorem dX12_kindTold_14 : decode cX12_kindTold 14 = .ok (.getfield 29, 3) := by decide +kernel
theorem dX12_kindTold_17 : decode cX12_kindTold 17 = .ok (.aload_n 0, 1) := by decide +kernel
theorem dX12_kindTold_18 : decode cX12_kindTold 18 = .ok (.getfield 107, 3) := by decide +kernel
theorem dX12_kindTold_21 : decode cX12_kindTold 21 = .ok (.baload, 1) := by decide +kernel
theorem dX12_kindTold_22 : decode cX12_kindTold 22 = .ok (.invokestatic 132, 3) := by decide +kernel
theorem dX12_kindTold_25 : decode cX12_kindTold 25 = .ok (.goto 4, 3) := by decide +kernel
theorem dX12_kindTold_28 : decode cX12_kindTold 28 = .ok (.iconst (-1), 1) := by decide +kernel
theorem dX12_kindTold_29 : decode cX12_kindTold 29 = .ok (.ireturn, 1) := by decide +kernel
theorem dX12_kindNext_0 : decode cX12_kindNext 0 = .ok (.aload_n 0, 1) := by decide +kernel
theorem dX12_kindNext_1 : decode cX12_kindNext 1 = .ok (.invokevirtual 122, 3) := by decide +kernel
theorem dX12_kindNext_4 : decode cX12_kindNext 4 = .ok (.aload_n 0, 1) := by decide +kernel
theorem dX12_kindNext_5 : decode cX12_kindNext 5 = .ok (.invokevirtual 135, 3) := by decide +kernel
theorem dX12_kindNext_8 : decode cX12_kindNext 8 = .ok (.ireturn, 1) := by decide +kernel
theorem dX12_fault_0 : decode cX12_fault 0 = .ok (.aload_n 0, 1) := by decide +kernel
theorem dX12_fault_1 : decode cX12_fault 1 = .ok (.iconst 0, 1) := by decide +kernel
theorem dX12_fault_2 : decode cX12_fault 2 = .ok (.putfield 3, 3) := by decide +kernel
theorem dX12_fault_5 : decode cX12_fault 5 = .ok (.aload_n 0, 1) := by decide +kernel
theorem dX12_fault_6 : decode cX12_fault 6 = .ok (.getfield 33, 3) := by decide +kernel
theorem dX12_fault_9 : decode cX12_fault 9 = .ok (.ireturn, 1) := by decide +kernel
theorem dX12_uses_0 : decode cX12_uses 0 = .ok (.aload_n 0, 1) := by decide +kernel
theorem dX12_uses_1 : decode cX12_uses 1 = .ok (.iconst 0, 1) := by decide +kernel
theorem dX12_uses_2 : decode cX12_uses 2 = .ok (.putfield 3, 3) := by decide +kernel
theorem dX12_uses_5 : decode cX12_uses 5 = .ok (.aload_n 0, 1) := by decide +kernel
theorem dX12_uses_6 : decode cX12_uses 6 = .ok (.aload_n 0, 1) := by decide +kernel
theorem dX12_uses_7 : decode cX12_uses 7 = .ok (.getfield 94, 3) := by decide +kernel
theorem dX12_uses_10 : decode cX12_uses 10 = .ok (.putfield 100, 3) := by decide +kernel
theorem dX12_uses_13 : decode cX12_uses 13 = .ok (.aload_n 0, 1) := by decide +kernel
theorem dX12_uses_14 : decode cX12_uses 14 = .ok (.iconst 0, 1) := by decide +kernel
theorem dX12_uses_15 : decode cX12_uses 15 = .ok (.putfield 94, 3) := by decide +kernel
theorem dX12_uses_18 : decode cX12_uses 18 = .ok (.aload_n 0, 1) := by decide +kernel
theorem dX12_uses_19 : decode cX12_uses 19 = .ok (.iconst 0, 1) := by decide +kernel
theorem dX12_uses_20 : decode cX12_uses 20 = .ok (.putfield 97, 3) := by decide +kernel
theorem dX12_uses_23 : decode cX12_uses 23 = .ok (.return_, 1) := by decide +kernel
theorem dX12_begins_0 : decode cX12_begins 0 = .ok (.aload_n 0, 1) := by decide +kernel
theorem dX12_begins_1 : decode cX12_begins 1 = .ok (.invokevirtual 74, 3) := by decide +kernel
theorem dX12_begins_4 : decode cX12_begins 4 = .ok (.istore_n 3, 1) := by decide +kernel
theorem dX12_begins_5 : decode cX12_begins 5 = .ok (.iconst 0, 1) := by decide +kernel
theorem dX12_begins_6 : decode cX12_begins 6 = .ok (.istore 4, 2) := by decide +kernel
theorem dX12_begins_8 : decode cX12_begins 8 = .ok (.iload 4, 2) := by decide +kernel
theorem dX12_begins_10 : decode cX12_begins 10 = .ok (.bipush 53, 2) := by decide +kernel
theorem dX12_begins_12 : decode cX12_begins 12 = .ok (.if_icmp .ge 21, 3) := by decide +kernel
theorem dX12_begins_15 : decode cX12_begins 15 = .ok (.aload_n 0, 1) := by decide +kernel
theorem dX12_begins_16 : decode cX12_begins 16 = .ok (.getfield 13, 3) := by decide +kernel
theorem dX12_begins_19 : decode cX12_begins 19 = .ok (.iload_n 3, 1) := by decide +kernel
theorem dX12_begins_20 : decode cX12_begins 20 = .ok (.iload 4, 2) := by decide +kernel
theorem dX12_begins_22 : decode cX12_begins 22 = .ok (.invokestatic 67, 3) := by decide +kernel
theorem dX12_begins_25 : decode cX12_begins 25 = .ok (.iconst 0, 1) := by decide +kernel
theorem dX12_begins_26 : decode cX12_begins 26 = .ok (.iastore, 1) := by decide +kernel
theorem dX12_begins_27 : decode cX12_begins 27 = .ok (.iinc 4 1, 3) := by decide +kernel
theorem dX12_begins_30 : decode cX12_begins 30 = .ok (.goto (-22), 3) := by decide +kernel
theorem dX12_begins_33 : decode cX12_begins 33 = .ok (.aload_n 0, 1) := by decide +kernel
theorem dX12_begins_34 : decode cX12_begins 34 = .ok (.getfield 13, 3) := by decide +kernel
theorem dX12_begins_37 : decode cX12_begins 37 = .ok (.iload_n 3, 1) := by decide +kernel
theorem dX12_begins_38 : decode cX12_begins 38 = .ok (.iconst 2, 1) := by decide +kernel
theorem dX12_begins_39 : decode cX12_begins 39 = .ok (.invokestatic 67, 3) := by decide +kernel
theorem dX12_begins_42 : decode cX12_begins 42 = .ok (.iload_n 1, 1) := by decide +kernel
theorem dX12_begins_43 : decode cX12_begins 43 = .ok (.iastore, 1) := by decide +kernel
theorem dX12_begins_44 : decode cX12_begins 44 = .ok (.aload_n 0, 1) := by decide +kernel
theorem dX12_begins_45 : decode cX12_begins 45 = .ok (.getfield 13, 3) := by decide +kernel
theorem dX12_begins_48 : decode cX12_begins 48 = .ok (.iload_n 3, 1) := by decide +kernel
theorem dX12_begins_49 : decode cX12_begins 49 = .ok (.iconst 1, 1) := by decide +kernel
theorem dX12_begins_50 : decode cX12_begins 50 = .ok (.invokestatic 67, 3) := by decide +kernel
theorem dX12_begins_53 : decode cX12_begins 53 = .ok (.iload_n 2, 1) := by decide +kernel
theorem dX12_begins_54 : decode cX12_begins 54 = .ok (.iastore, 1) := by decide +kernel
theorem dX12_begins_55 : decode cX12_begins 55 = .ok (.aload_n 0, 1) := by decide +kernel
theorem dX12_begins_56 : decode cX12_begins 56 = .ok (.getfield 13, 3) := by decide +kernel
theorem dX12_begins_59 : decode cX12_begins 59 = .ok (.iconst 0, 1) := by decide +kernel
theorem dX12_begins_60 : decode cX12_begins 60 = .ok (.dup2, 1) := by decide +kernel
theorem dX12_begins_61 : decode cX12_begins 61 = .ok (.iaload, 1) := by decide +kernel
theorem dX12_begins_62 : decode cX12_begins 62 = .ok (.iconst 1, 1) := by decide +kernel
theorem dX12_begins_63 : decode cX12_begins 63 = .ok (.iadd, 1) := by decide +kernel
theorem dX12_begins_64 : decode cX12_begins 64 = .ok (.iastore, 1) := by decide +kernel
theorem dX12_begins_65 : decode cX12_begins 65 = .ok (.iload_n 3, 1) := by decide +kernel
theorem dX12_begins_66 : decode cX12_begins 66 = .ok (.ireturn, 1) := by decide +kernel
theorem dX12_comes_0 : decode cX12_comes 0 = .ok (.aload_n 0, 1) := by decide +kernel
theorem dX12_comes_1 : decode cX12_comes 1 = .ok (.iload_n 1, 1) := by decide +kernel
theorem dX12_comes_2 : decode cX12_comes 2 = .ok (.invokevirtual 86, 3) := by decide +kernel
theorem dX12_comes_5 : decode cX12_comes 5 = .ok (.istore_n 3, 1) := by decide +kernel
theorem dX12_comes_6 : decode cX12_comes 6 = .ok (.aload_n 0, 1) := by decide +kernel
theorem dX12_comes_7 : decode cX12_comes 7 = .ok (.getfield 13, 3) := by decide +kernel
theorem dX12_comes_10 : decode cX12_comes 10 = .ok (.iload_n 1, 1) := by decide +kernel
theorem dX12_comes_11 : decode cX12_comes 11 = .ok (.iconst 5, 1) := by decide +kernel
theorem dX12_comes_12 : decode cX12_comes 12 = .ok (.iload_n 3, 1) := by decide +kernel
theorem dX12_comes_13 : decode cX12_comes 13 = .ok (.iadd, 1) := by decide +kernel
theorem dX12_comes_14 : decode cX12_comes 14 = .ok (.invokestatic 67, 3) := by decide +kernel
theorem dX12_comes_17 : decode cX12_comes 17 = .ok (.iload_n 2, 1) := by decide +kernel
theorem dX12_comes_18 : decode cX12_comes 18 = .ok (.iastore, 1) := by decide +kernel
theorem dX12_comes_19 : decode cX12_comes 19 = .ok (.aload_n 0, 1) := by decide +kernel
theorem dX12_comes_20 : decode cX12_comes 20 = .ok (.getfield 13, 3) := by decide +kernel
theorem dX12_comes_23 : decode cX12_comes 23 = .ok (.iload_n 1, 1) := by decide +kernel
theorem dX12_comes_24 : decode cX12_comes 24 = .ok (.bipush 29, 2) := by decide +kernel
theorem dX12_comes_26 : decode cX12_comes 26 = .ok (.iload_n 3, 1) := by decide +kernel
theorem dX12_comes_27 : decode cX12_comes 27 = .ok (.iadd, 1) := by decide +kernel
theorem dX12_comes_28 : decode cX12_comes 28 = .ok (.invokestatic 67, 3) := by decide +kernel
theorem dX12_comes_31 : decode cX12_comes 31 = .ok (.aload_n 0, 1) := by decide +kernel
theorem dX12_comes_32 : decode cX12_comes 32 = .ok (.getfield 13, 3) := by decide +kernel
theorem dX12_comes_35 : decode cX12_comes 35 = .ok (.iconst 4, 1) := by decide +kernel
theorem dX12_comes_36 : decode cX12_comes 36 = .ok (.iaload, 1) := by decide +kernel
theorem dX12_comes_37 : decode cX12_comes 37 = .ok (.iastore, 1) := by decide +kernel
theorem dX12_comes_38 : decode cX12_comes 38 = .ok (.aload_n 0, 1) := by decide +kernel
theorem dX12_comes_39 : decode cX12_comes 39 = .ok (.getfield 13, 3) := by decide +kernel
theorem dX12_comes_42 : decode cX12_comes 42 = .ok (.iload_n 1, 1) := by decide +kernel
theorem dX12_comes_43 : decode cX12_comes 43 = .ok (.iconst 0, 1) := by decide +kernel
theorem dX12_comes_44 : decode cX12_comes 44 = .ok (.invokestatic 67, 3) := by decide +kernel
theorem dX12_comes_47 : decode cX12_comes 47 = .ok (.dup2, 1) := by decide +kernel
theorem dX12_comes_48 : decode cX12_comes 48 = .ok (.iaload, 1) := by decide +kernel
theorem dX12_comes_49 : decode cX12_comes 49 = .ok (.iconst 1, 1) := by decide +kernel
theorem dX12_comes_50 : decode cX12_comes 50 = .ok (.iadd, 1) := by decide +kernel
theorem dX12_comes_51 : decode cX12_comes 51 = .ok (.iastore, 1) := by decide +kernel
theorem dX12_comes_52 : decode cX12_comes 52 = .ok (.return_, 1) := by decide +kernel
theorem dX12_readLetter_0 : decode cX12_readLetter 0 = .ok (.aload_n 0, 1) := by decide +kernel
theorem dX12_readLetter_1 : decode cX12_readLetter 1 = .ok (.invokevirtual 74, 3) := by decide +kernel
theorem dX12_readLetter_4 : decode cX12_readLetter 4 = .ok (.bipush 8, 2) := by decide +kernel
theorem dX12_readLetter_6 : decode cX12_readLetter 6 = .ok (.if_icmp .ne 5, 3) := by decide +kernel
theorem dX12_readLetter_9 : decode cX12_readLetter 9 = .ok (.iconst 0, 1) := by decide +kernel
theorem dX12_readLetter_10 : decode cX12_readLetter 10 = .ok (.ireturn, 1) := by decide +kernel
theorem dX12_readLetter_11 : decode cX12_readLetter 11 = .ok (.aload_n 0, 1) := by decide +kernel
theorem dX12_readLetter_12 : decode cX12_readLetter 12 = .ok (.ldc 138, 2) := by decide +kernel
theorem dX12_readLetter_14 : decode cX12_readLetter 14 = .ok (.iconst 0, 1) := by decide +kernel
theorem dX12_readLetter_15 : decode cX12_readLetter 15 = .ok (.bipush 9, 2) := by decide +kernel
theorem dX12_readLetter_17 : decode cX12_readLetter 17 = .ok (.invokevirtual 140, 3) := by decide +kernel
theorem dX12_readLetter_20 : decode cX12_readLetter 20 = .ok (.istore_n 1, 1) := by decide +kernel
theorem dX12_readLetter_21 : decode cX12_readLetter 21 = .ok (.iload_n 1, 1) := by decide +kernel
theorem dX12_readLetter_22 : decode cX12_readLetter 22 = .ok (.ifCond .ge 7, 3) := by decide +kernel
theorem dX12_readLetter_25 : decode cX12_readLetter 25 = .ok (.iconst (-1), 1) := by decide +kernel
theorem dX12_readLetter_26 : decode cX12_readLetter 26 = .ok (.goto 12, 3) := by decide +kernel
theorem dX12_readLetter_29 : decode cX12_readLetter 29 = .ok (.aload_n 0, 1) := by decide +kernel
theorem dX12_readLetter_30 : decode cX12_readLetter 30 = .ok (.ldc 144, 2) := by decide +kernel
theorem dX12_readLetter_32 : decode cX12_readLetter 32 = .ok (.iconst 0, 1) := by decide +kernel
theorem dX12_readLetter_33 : decode cX12_readLetter 33 = .ok (.bipush 9, 2) := by decide +kernel
theorem dX12_readLetter_35 : decode cX12_readLetter 35 = .ok (.invokevirtual 140, 3) := by decide +kernel
theorem dX12_readLetter_38 : decode cX12_readLetter 38 = .ok (.istore_n 2, 1) := by decide +kernel
theorem dX12_readLetter_39 : decode cX12_readLetter 39 = .ok (.iload_n 2, 1) := by decide +kernel
theorem dX12_readLetter_40 : decode cX12_readLetter 40 = .ok (.ifCond .ge 5, 3) := by decide +kernel
theorem dX12_readLetter_43 : decode cX12_readLetter 43 = .ok (.iconst 0, 1) := by decide +kernel
theorem dX12_readLetter_44 : decode cX12_readLetter 44 = .ok (.ireturn, 1) := by decide +kernel
theorem dX12_readLetter_45 : decode cX12_readLetter 45 = .ok (.aload_n 0, 1) := by decide +kernel
theorem dX12_readLetter_46 : decode cX12_readLetter 46 = .ok (.invokevirtual 122, 3) := by decide +kernel
theorem dX12_readLetter_49 : decode cX12_readLetter 49 = .ok (.aload_n 0, 1) := by decide +kernel
theorem dX12_readLetter_50 : decode cX12_readLetter 50 = .ok (.getfield 97, 3) := by decide +kernel
theorem dX12_readLetter_53 : decode cX12_readLetter 53 = .ok (.aload_n 0, 1) := by decide +kernel
theorem dX12_readLetter_54 : decode cX12_readLetter 54 = .ok (.getfield 107, 3) := by decide +kernel
theorem dX12_readLetter_57 : decode cX12_readLetter 57 = .ok (.isub, 1) := by decide +kernel
theorem dX12_readLetter_58 : decode cX12_readLetter 58 = .ok (.iconst 1, 1) := by decide +kernel
theorem dX12_readLetter_59 : decode cX12_readLetter 59 = .ok (.bipush 24, 2) := by decide +kernel
theorem dX12_readLetter_61 : decode cX12_readLetter 61 = .ok (.invokestatic 78, 3) := by decide +kernel
theorem dX12_readLetter_64 : decode cX12_readLetter 64 = .ok (.ifCond .ne 5, 3) := by decide +kernel
theorem dX12_readLetter_67 : decode cX12_readLetter 67 = .ok (.iconst 0, 1) := by decide +kernel
theorem dX12_readLetter_68 : decode cX12_readLetter 68 = .ok (.ireturn, 1) := by decide +kernel
theorem dX12_readLetter_69 : decode cX12_readLetter 69 = .ok (.aload_n 0, 1) := by decide +kernel
theorem dX12_readLetter_70 : decode cX12_readLetter 70 = .ok (.iload_n 1, 1) := by decide +kernel
theorem dX12_readLetter_71 : decode cX12_readLetter 71 = .ok (.iload_n 2, 1) := by decide +kernel
theorem dX12_readLetter_72 : decode cX12_readLetter 72 = .ok (.invokevirtual 146, 3) := by decide +kernel
theorem dX12_readLetter_75 : decode cX12_readLetter 75 = .ok (.istore_n 3, 1) := by decide +kernel
theorem dX12_readLetter_76 : decode cX12_readLetter 76 = .ok (.aload_n 0, 1) := by decide +kernel
theorem dX12_readLetter_77 : decode cX12_readLetter 77 = .ok (.getfield 107, 3) := by decide +kernel
theorem dX12_readLetter_80 : decode cX12_readLetter 80 = .ok (.istore 4, 2) := by decide +kernel
theorem dX12_readLetter_82 : decode cX12_readLetter 82 = .ok (.iload 4, 2) := by decide +kernel
theorem dX12_readLetter_84 : decode cX12_readLetter 84 = .ok (.aload_n 0, 1) := by decide +kernel
theorem dX12_readLetter_85 : decode cX12_readLetter 85 = .ok (.getfield 97, 3) := by decide +kernel
theorem dX12_readLetter_88 : decode cX12_readLetter 88 = .ok (.if_icmp .ge 39, 3) := by decide +kernel
theorem dX12_readLetter_91 : decode cX12_readLetter 91 = .ok (.aload_n 0, 1) := by decide +kernel
theorem dX12_readLetter_92 : decode cX12_readLetter 92 = .ok (.getfield 29, 3) := by decide +kernel
theorem dX12_readLetter_95 : decode cX12_readLetter 95 = .ok (.iload 4, 2) := by decide +kernel
theorem dX12_readLetter_97 : decode cX12_readLetter 97 = .ok (.baload, 1) := by decide +kernel
theorem dX12_readLetter_98 : decode cX12_readLetter 98 = .ok (.invokestatic 132, 3) := by decide +kernel
theorem dX12_readLetter_101 : decode cX12_readLetter 101 = .ok (.ifCond .ge 5, 3) := by decide +kernel
theorem dX12_readLetter_104 : decode cX12_readLetter 104 = .ok (.iconst 0, 1) := by decide +kernel
theorem dX12_readLetter_105 : decode cX12_readLetter 105 = .ok (.ireturn, 1) := by decide +kernel
theorem dX12_readLetter_106 : decode cX12_readLetter 106 = .ok (.aload_n 0, 1) := by decide +kernel
theorem dX12_readLetter_107 : decode cX12_readLetter 107 = .ok (.iload_n 3, 1) := by decide +kernel
theorem dX12_readLetter_108 : decode cX12_readLetter 108 = .ok (.aload_n 0, 1) := by decide +kernel
theorem dX12_readLetter_109 : decode cX12_readLetter 109 = .ok (.getfield 29, 3) := by decide +kernel
theorem dX12_readLetter_112 : decode cX12_readLetter 112 = .ok (.iload 4, 2) := by decide +kernel
theorem dX12_readLetter_114 : decode cX12_readLetter 114 = .ok (.baload, 1) := by decide +kernel
theorem dX12_readLetter_115 : decode cX12_readLetter 115 = .ok (.invokestatic 132, 3) := by decide +kernel
theorem dX12_readLetter_118 : decode cX12_readLetter 118 = .ok (.invokevirtual 149, 3) := by decide +kernel
theorem dX12_readLetter_121 : decode cX12_readLetter 121 = .ok (.iinc 4 1, 3) := by decide +kernel
theorem dX12_readLetter_124 : decode cX12_readLetter 124 = .ok (.goto (-42), 3) := by decide +kernel
theorem dX12_readLetter_127 : decode cX12_readLetter 127 = .ok (.iconst 1, 1) := by decide +kernel
theorem dX12_readLetter_128 : decode cX12_readLetter 128 = .ok (.ireturn, 1) := by decide +kernel
theorem dX12_readWords_0 : decode cX12_readWords 0 = .ok (.aload_n 0, 1) := by decide +kernel
theorem dX12_readWords_1 : decode cX12_readWords 1 = .ok (.invokevirtual 153, 3) := by decide +kernel
theorem dX12_readWords_4 : decode cX12_readWords 4 = .ok (.istore_n 1, 1) := by decide +kernel
theorem dX12_readWords_5 : decode cX12_readWords 5 = .ok (.iload_n 1, 1) := by decide +kernel
theorem dX12_readWords_6 : decode cX12_readWords 6 = .ok (.ifCond .ge 7, 3) := by decide +kernel
theorem dX12_readWords_9 : decode cX12_readWords 9 = .ok (.iconst (-1), 1) := by decide +kernel
theorem dX12_readWords_10 : decode cX12_readWords 10 = .ok (.goto 10, 3) := by decide +kernel
theorem dX12_readWords_13 : decode cX12_readWords 13 = .ok (.aload_n 0, 1) := by decide +kernel
theorem dX12_readWords_14 : decode cX12_readWords 14 = .ok (.iconst 1, 1) := by decide +kernel
theorem dX12_readWords_15 : decode cX12_readWords 15 = .ok (.bipush 9, 2) := by decide +kernel
theorem dX12_readWords_17 : decode cX12_readWords 17 = .ok (.invokevirtual 129, 3) := by decide +kernel
theorem dX12_readWords_20 : decode cX12_readWords 20 = .ok (.istore_n 2, 1) := by decide +kernel
theorem dX12_readWords_21 : decode cX12_readWords 21 = .ok (.iload_n 2, 1) := by decide +kernel
theorem dX12_readWords_22 : decode cX12_readWords 22 = .ok (.ifCond .lt 13, 3) := by decide +kernel
theorem dX12_readWords_25 : decode cX12_readWords 25 = .ok (.aload_n 0, 1) := by decide +kernel
theorem dX12_readWords_26 : decode cX12_readWords 26 = .ok (.getfield 13, 3) := by decide +kernel
theorem dX12_readWords_29 : decode cX12_readWords 29 = .ok (.bipush 8, 2) := by decide +kernel
theorem dX12_readWords_31 : decode cX12_readWords 31 = .ok (.iload_n 1, 1) := by decide +kernel
theorem dX12_readWords_32 : decode cX12_readWords 32 = .ok (.iadd, 1) := by decide +kernel
theorem dX12_readWords_33 : decode cX12_readWords 33 = .ok (.iload_n 2, 1) := by decide +kernel
theorem dX12_readWords_34 : decode cX12_readWords 34 = .ok (.iastore, 1) := by decide +kernel
theorem dX12_readWords_35 : decode cX12_readWords 35 = .ok (.iload_n 2, 1) := by decide +kernel
theorem dX12_readWords_36 : decode cX12_readWords 36 = .ok (.ifCond .lt 7, 3) := by decide +kernel
theorem dX12_readWords_39 : decode cX12_readWords 39 = .ok (.iconst 1, 1) := by decide +kernel
theorem dX12_readWords_40 : decode cX12_readWords 40 = .ok (.goto 4, 3) := by decide +kernel
theorem dX12_readWords_43 : decode cX12_readWords 43 = .ok (.iconst 0, 1) := by decide +kernel
theorem dX12_readWords_44 : decode cX12_readWords 44 = .ok (.ireturn, 1) := by decide +kernel
theorem dX12_readPromise_0 : decode cX12_readPromise 0 = .ok (.bipush 20, 2) := by decide +kernel
theorem dX12_readPromise_2 : decode cX12_readPromise 2 = .ok (.iconst 2, 1) := by decide +kernel
theorem dX12_readPromise_3 : decode cX12_readPromise 3 = .ok (.aload_n 0, 1) := by decide +kernel
theorem dX12_readPromise_4 : decode cX12_readPromise 4 = .ok (.invokevirtual 90, 3) := by decide +kernel
theorem dX12_readPromise_7 : decode cX12_readPromise 7 = .ok (.imul, 1) := by decide +kernel
theorem dX12_readPromise_8 : decode cX12_readPromise 8 = .ok (.iadd, 1) := by decide +kernel
theorem dX12_readPromise_9 : decode cX12_readPromise 9 = .ok (.istore_n 1, 1) := by decide +kernel
theorem dX12_readPromise_10 : decode cX12_readPromise 10 = .ok (.aload_n 0, 1) := by decide +kernel
theorem dX12_readPromise_11 : decode cX12_readPromise 11 = .ok (.invokevirtual 90, 3) := by decide +kernel
theorem dX12_readPromise_14 : decode cX12_readPromise 14 = .ok (.bipush 8, 2) := by decide +kernel
theorem dX12_readPromise_16 : decode cX12_readPromise 16 = .ok (.if_icmp .ne 5, 3) := by decide +kernel
theorem dX12_readPromise_19 : decode cX12_readPromise 19 = .ok (.iconst 0, 1) := by decide +kernel
theorem dX12_readPromise_20 : decode cX12_readPromise 20 = .ok (.ireturn, 1) := by decide +kernel
theorem dX12_readPromise_21 : decode cX12_readPromise 21 = .ok (.aload_n 0, 1) := by decide +kernel
theorem dX12_readPromise_22 : decode cX12_readPromise 22 = .ok (.invokevirtual 153, 3) := by decide +kernel
theorem dX12_readPromise_25 : decode cX12_readPromise 25 = .ok (.istore_n 2, 1) := by decide +kernel
theorem dX12_readPromise_26 : decode cX12_readPromise 26 = .ok (.iload_n 2, 1) := by decide +kernel
theorem dX12_readPromise_27 : decode cX12_readPromise 27 = .ok (.ifCond .ge 7, 3) := by decide +kernel
theorem dX12_readPromise_30 : decode cX12_readPromise 30 = .ok (.iconst (-1), 1) := by decide +kernel
theorem dX12_readPromise_31 : decode cX12_readPromise 31 = .ok (.goto 7, 3) := by decide +kernel
theorem dX12_readPromise_34 : decode cX12_readPromise 34 = .ok (.aload_n 0, 1) := by decide +kernel
theorem dX12_readPromise_35 : decode cX12_readPromise 35 = .ok (.invokevirtual 153, 3) := by decide +kernel
theorem dX12_readPromise_38 : decode cX12_readPromise 38 = .ok (.istore_n 3, 1) := by decide +kernel
theorem dX12_readPromise_39 : decode cX12_readPromise 39 = .ok (.iload_n 3, 1) := by decide +kernel
theorem dX12_readPromise_40 : decode cX12_readPromise 40 = .ok (.ifCond .ge 5, 3) := by decide +kernel
theorem dX12_readPromise_43 : decode cX12_readPromise 43 = .ok (.iconst 0, 1) := by decide +kernel
theorem dX12_readPromise_44 : decode cX12_readPromise 44 = .ok (.ireturn, 1) := by decide +kernel
theorem dX12_readPromise_45 : decode cX12_readPromise 45 = .ok (.aload_n 0, 1) := by decide +kernel
theorem dX12_readPromise_46 : decode cX12_readPromise 46 = .ok (.getfield 13, 3) := by decide +kernel
theorem dX12_readPromise_49 : decode cX12_readPromise 49 = .ok (.iload_n 1, 1) := by decide +kernel
theorem dX12_readPromise_50 : decode cX12_readPromise 50 = .ok (.iload_n 2, 1) := by decide +kernel
theorem dX12_readPromise_51 : decode cX12_readPromise 51 = .ok (.iastore, 1) := by decide +kernel
theorem dX12_readPromise_52 : decode cX12_readPromise 52 = .ok (.aload_n 0, 1) := by decide +kernel
theorem dX12_readPromise_53 : decode cX12_readPromise 53 = .ok (.getfield 13, 3) := by decide +kernel
theorem dX12_readPromise_56 : decode cX12_readPromise 56 = .ok (.iload_n 1, 1) := by decide +kernel
theorem dX12_readPromise_57 : decode cX12_readPromise 57 = .ok (.iconst 1, 1) := by decide +kernel
theorem dX12_readPromise_58 : decode cX12_readPromise 58 = .ok (.iadd, 1) := by decide +kernel
theorem dX12_readPromise_59 : decode cX12_readPromise 59 = .ok (.iload_n 3, 1) := by decide +kernel
theorem dX12_readPromise_60 : decode cX12_readPromise 60 = .ok (.iastore, 1) := by decide +kernel
theorem dX12_readPromise_61 : decode cX12_readPromise 61 = .ok (.aload_n 0, 1) := by decide +kernel
theorem dX12_readPromise_62 : decode cX12_readPromise 62 = .ok (.getfield 13, 3) := by decide +kernel
theorem dX12_readPromise_65 : decode cX12_readPromise 65 = .ok (.iconst 1, 1) := by decide +kernel
theorem dX12_readPromise_66 : decode cX12_readPromise 66 = .ok (.dup2, 1) := by decide +kernel
theorem dX12_readPromise_67 : decode cX12_readPromise 67 = .ok (.iaload, 1) := by decide +kernel
theorem dX12_readPromise_68 : decode cX12_readPromise 68 = .ok (.iconst 1, 1) := by decide +kernel
theorem dX12_readPromise_69 : decode cX12_readPromise 69 = .ok (.iadd, 1) := by decide +kernel
theorem dX12_readPromise_70 : decode cX12_readPromise 70 = .ok (.iastore, 1) := by decide +kernel
theorem dX12_readPromise_71 : decode cX12_readPromise 71 = .ok (.iconst 1, 1) := by decide +kernel
theorem dX12_readPromise_72 : decode cX12_readPromise 72 = .ok (.ireturn, 1) := by decide +kernel
theorem dX12_readOf_0 : decode cX12_readOf 0 = .ok (.aload_n 0, 1) := by decide +kernel
theorem dX12_readOf_1 : decode cX12_readOf 1 = .ok (.iconst 0, 1) := by decide +kernel
theorem dX12_readOf_2 : decode cX12_readOf 2 = .ok (.aload_n 0, 1) := by decide +kernel
theorem dX12_readOf_3 : decode cX12_readOf 3 = .ok (.invokevirtual 74, 3) := by decide +kernel
theorem dX12_readOf_6 : decode cX12_readOf 6 = .ok (.iconst 1, 1) := by decide +kernel
theorem dX12_readOf_7 : decode cX12_readOf 7 = .ok (.isub, 1) := by decide +kernel
theorem dX12_readOf_8 : decode cX12_readOf 8 = .ok (.invokevirtual 129, 3) := by decide +kernel
theorem dX12_readOf_11 : decode cX12_readOf 11 = .ok (.istore_n 2, 1) := by decide +kernel
theorem dX12_readOf_12 : decode cX12_readOf 12 = .ok (.iload_n 2, 1) := by decide +kernel
theorem dX12_readOf_13 : decode cX12_readOf 13 = .ok (.ifCond .lt 14, 3) := by decide +kernel
theorem dX12_readOf_16 : decode cX12_readOf 16 = .ok (.aload_n 0, 1) := by decide +kernel
theorem dX12_readOf_17 : decode cX12_readOf 17 = .ok (.getfield 13, 3) := by decide +kernel
theorem dX12_readOf_20 : decode cX12_readOf 20 = .ok (.iload_n 2, 1) := by decide +kernel
theorem dX12_readOf_21 : decode cX12_readOf 21 = .ok (.iload_n 1, 1) := by decide +kernel
theorem dX12_readOf_22 : decode cX12_readOf 22 = .ok (.invokestatic 67, 3) := by decide +kernel
theorem dX12_readOf_25 : decode cX12_readOf 25 = .ok (.iconst 1, 1) := by decide +kernel
theorem dX12_readOf_26 : decode cX12_readOf 26 = .ok (.iastore, 1) := by decide +kernel
theorem dX12_readOf_27 : decode cX12_readOf 27 = .ok (.iload_n 2, 1) := by decide +kernel
theorem dX12_readOf_28 : decode cX12_readOf 28 = .ok (.ifCond .lt 7, 3) := by decide +kernel
theorem dX12_readOf_31 : decode cX12_readOf 31 = .ok (.iconst 1, 1) := by decide +kernel
theorem dX12_readOf_32 : decode cX12_readOf 32 = .ok (.goto 4, 3) := by decide +kernel
theorem dX12_readOf_35 : decode cX12_readOf 35 = .ok (.iconst 0, 1) := by decide +kernel
theorem dX12_readOf_36 : decode cX12_readOf 36 = .ok (.ireturn, 1) := by decide +kernel
theorem dX12_readNumber_0 : decode cX12_readNumber 0 = .ok (.aload_n 0, 1) := by decide +kernel
theorem dX12_readNumber_1 : decode cX12_readNumber 1 = .ok (.iload_n 2, 1) := by decide +kernel
theorem dX12_readNumber_2 : decode cX12_readNumber 2 = .ok (.iload_n 3, 1) := by decide +kernel
theorem dX12_readNumber_3 : decode cX12_readNumber 3 = .ok (.invokevirtual 129, 3) := by decide +kernel
theorem dX12_readNumber_6 : decode cX12_readNumber 6 = .ok (.istore 4, 2) := by decide +kernel
theorem dX12_readNumber_8 : decode cX12_readNumber 8 = .ok (.aload_n 0, 1) := by decide +kernel
theorem dX12_readNumber_9 : decode cX12_readNumber 9 = .ok (.getfield 13, 3) := by decide +kernel
theorem dX12_readNumber_12 : decode cX12_readNumber 12 = .ok (.iload_n 1, 1) := by decide +kernel
theorem dX12_readNumber_13 : decode cX12_readNumber 13 = .ok (.iload 4, 2) := by decide +kernel
theorem dX12_readNumber_15 : decode cX12_readNumber 15 = .ok (.ifCond .ge 12, 3) := by decide +kernel
theorem dX12_readNumber_18 : decode cX12_readNumber 18 = .ok (.aload_n 0, 1) := by decide +kernel
theorem dX12_readNumber_19 : decode cX12_readNumber 19 = .ok (.getfield 13, 3) := by decide +kernel
theorem dX12_readNumber_22 : decode cX12_readNumber 22 = .ok (.iload_n 1, 1) := by decide +kernel
theorem dX12_readNumber_23 : decode cX12_readNumber 23 = .ok (.iaload, 1) := by decide +kernel
theorem dX12_readNumber_24 : decode cX12_readNumber 24 = .ok (.goto 5, 3) := by decide +kernel
theorem dX12_readNumber_27 : decode cX12_readNumber 27 = .ok (.iload 4, 2) := by decide +kernel
theorem dX12_readNumber_29 : decode cX12_readNumber 29 = .ok (.iastore, 1) := by decide +kernel
theorem dX12_readNumber_30 : decode cX12_readNumber 30 = .ok (.iload 4, 2) := by decide +kernel
theorem dX12_readNumber_32 : decode cX12_readNumber 32 = .ok (.ifCond .lt 7, 3) := by decide +kernel
theorem dX12_readNumber_35 : decode cX12_readNumber 35 = .ok (.iconst 1, 1) := by decide +kernel
theorem dX12_readNumber_36 : decode cX12_readNumber 36 = .ok (.goto 4, 3) := by decide +kernel
theorem dX12_readNumber_39 : decode cX12_readNumber 39 = .ok (.iconst 0, 1) := by decide +kernel
theorem dX12_readNumber_40 : decode cX12_readNumber 40 = .ok (.ireturn, 1) := by decide +kernel
theorem dX12_readPostLine_0 : decode cX12_readPostLine 0 = .ok (.aload_n 0, 1) := by decide +kernel
theorem dX12_readPostLine_1 : decode cX12_readPostLine 1 = .ok (.ldc 156, 2) := by decide +kernel
theorem dX12_readPostLine_3 : decode cX12_readPostLine 3 = .ok (.invokevirtual 125, 3) := by decide +kernel
theorem dX12_readPostLine_6 : decode cX12_readPostLine 6 = .ok (.ifCond .eq 8, 3) := by decide +kernel
theorem dX12_readPostLine_9 : decode cX12_readPostLine 9 = .ok (.aload_n 0, 1) := by decide +kernel
theorem dX12_readPostLine_10 : decode cX12_readPostLine 10 = .ok (.invokevirtual 158, 3) := by decide +kernel
theorem dX12_readPostLine_13 : decode cX12_readPostLine 13 = .ok (.ireturn, 1) := by decide +kernel
theorem dX12_readPostLine_14 : decode cX12_readPostLine 14 = .ok (.aload_n 0, 1) := by decide +kernel
theorem dX12_readPostLine_15 : decode cX12_readPostLine 15 = .ok (.ldc 162, 2) := by decide +kernel
theorem dX12_readPostLine_17 : decode cX12_readPostLine 17 = .ok (.invokevirtual 125, 3) := by decide +kernel
theorem dX12_readPostLine_20 : decode cX12_readPostLine 20 = .ok (.ifCond .eq 8, 3) := by decide +kernel
theorem dX12_readPostLine_23 : decode cX12_readPostLine 23 = .ok (.aload_n 0, 1) := by decide +kernel
theorem dX12_readPostLine_24 : decode cX12_readPostLine 24 = .ok (.invokevirtual 164, 3) := by decide +kernel
theorem dX12_readPostLine_27 : decode cX12_readPostLine 27 = .ok (.ireturn, 1) := by decide +kernel
theorem dX12_readPostLine_28 : decode cX12_readPostLine 28 = .ok (.aload_n 0, 1) := by decide +kernel
theorem dX12_readPostLine_29 : decode cX12_readPostLine 29 = .ok (.ldc 167, 2) := by decide +kernel
theorem dX12_readPostLine_31 : decode cX12_readPostLine 31 = .ok (.invokevirtual 125, 3) := by decide +kernel
theorem dX12_readPostLine_34 : decode cX12_readPostLine 34 = .ok (.ifCond .eq 8, 3) := by decide +kernel
theorem dX12_readPostLine_37 : decode cX12_readPostLine 37 = .ok (.aload_n 0, 1) := by decide +kernel
theorem dX12_readPostLine_38 : decode cX12_readPostLine 38 = .ok (.invokevirtual 169, 3) := by decide +kernel
theorem dX12_readPostLine_41 : decode cX12_readPostLine 41 = .ok (.ireturn, 1) := by decide +kernel
theorem dX12_readPostLine_42 : decode cX12_readPostLine 42 = .ok (.aload_n 0, 1) := by decide +kernel
theorem dX12_readPostLine_43 : decode cX12_readPostLine 43 = .ok (.ldc 172, 2) := by decide +kernel
theorem dX12_readPostLine_45 : decode cX12_readPostLine 45 = .ok (.invokevirtual 125, 3) := by decide +kernel
theorem dX12_readPostLine_48 : decode cX12_readPostLine 48 = .ok (.ifCond .eq 12, 3) := by decide +kernel
theorem dX12_readPostLine_51 : decode cX12_readPostLine 51 = .ok (.aload_n 0, 1) := by decide +kernel
theorem dX12_readPostLine_52 : decode cX12_readPostLine 52 = .ok (.iconst 5, 1) := by decide +kernel
theorem dX12_readPostLine_53 : decode cX12_readPostLine 53 = .ok (.iconst 0, 1) := by decide +kernel
theorem dX12_readPostLine_54 : decode cX12_readPostLine 54 = .ok (.bipush 100, 2) := by decide +kernel
theorem dX12_readPostLine_56 : decode cX12_readPostLine 56 = .ok (.invokevirtual 174, 3) := by decide +kernel
theorem dX12_readPostLine_59 : decode cX12_readPostLine 59 = .ok (.ireturn, 1) := by decide +kernel
theorem dX12_readPostLine_60 : decode cX12_readPostLine 60 = .ok (.aload_n 0, 1) := by decide +kernel
theorem dX12_readPostLine_61 : decode cX12_readPostLine 61 = .ok (.ldc 177, 2) := by decide +kernel
theorem dX12_readPostLine_63 : decode cX12_readPostLine 63 = .ok (.invokevirtual 125, 3) := by decide +kernel
theorem dX12_readPostLine_66 : decode cX12_readPostLine 66 = .ok (.ifCond .eq 9, 3) := by decide +kernel
theorem dX12_readPostLine_69 : decode cX12_readPostLine 69 = .ok (.aload_n 0, 1) := by decide +kernel
theorem dX12_readPostLine_70 : decode cX12_readPostLine 70 = .ok (.iconst 4, 1) := by decide +kernel
theorem dX12_readPostLine_71 : decode cX12_readPostLine 71 = .ok (.invokevirtual 179, 3) := by decide +kernel
theorem dX12_readPostLine_74 : decode cX12_readPostLine 74 = .ok (.ireturn, 1) := by decide +kernel
theorem dX12_readPostLine_75 : decode cX12_readPostLine 75 = .ok (.aload_n 0, 1) := by decide +kernel
theorem dX12_readPostLine_76 : decode cX12_readPostLine 76 = .ok (.ldc 182, 2) := by decide +kernel
theorem dX12_readPostLine_78 : decode cX12_readPostLine 78 = .ok (.invokevirtual 125, 3) := by decide +kernel
theorem dX12_readPostLine_81 : decode cX12_readPostLine 81 = .ok (.ifCond .eq 9, 3) := by decide +kernel
theorem dX12_readPostLine_84 : decode cX12_readPostLine 84 = .ok (.aload_n 0, 1) := by decide +kernel
theorem dX12_readPostLine_85 : decode cX12_readPostLine 85 = .ok (.iconst 3, 1) := by decide +kernel
theorem dX12_readPostLine_86 : decode cX12_readPostLine 86 = .ok (.invokevirtual 179, 3) := by decide +kernel
theorem dX12_readPostLine_89 : decode cX12_readPostLine 89 = .ok (.ireturn, 1) := by decide +kernel
theorem dX12_readPostLine_90 : decode cX12_readPostLine 90 = .ok (.aload_n 0, 1) := by decide +kernel
theorem dX12_readPostLine_91 : decode cX12_readPostLine 91 = .ok (.ldc 184, 2) := by decide +kernel
theorem dX12_readPostLine_93 : decode cX12_readPostLine 93 = .ok (.invokevirtual 125, 3) := by decide +kernel
theorem dX12_readPostLine_96 : decode cX12_readPostLine 96 = .ok (.ifCond .eq 24, 3) := by decide +kernel
theorem dX12_readPostLine_99 : decode cX12_readPostLine 99 = .ok (.aload_n 0, 1) := by decide +kernel
theorem dX12_readPostLine_100 : decode cX12_readPostLine 100 = .ok (.iconst 4, 1) := by decide +kernel
theorem dX12_readPostLine_101 : decode cX12_readPostLine 101 = .ok (.aload_n 0, 1) := by decide +kernel
theorem dX12_readPostLine_102 : decode cX12_readPostLine 102 = .ok (.getfield 13, 3) := by decide +kernel
theorem dX12_readPostLine_105 : decode cX12_readPostLine 105 = .ok (.iconst 4, 1) := by decide +kernel
theorem dX12_readPostLine_106 : decode cX12_readPostLine 106 = .ok (.iaload, 1) := by decide +kernel
theorem dX12_readPostLine_107 : decode cX12_readPostLine 107 = .ok (.sipush 999, 3) := by decide +kernel
theorem dX12_readPostLine_110 : decode cX12_readPostLine 110 = .ok (.invokevirtual 174, 3) := by decide +kernel
theorem dX12_readPostLine_113 : decode cX12_readPostLine 113 = .ok (.ifCond .eq 7, 3) := by decide +kernel
theorem dX12_readPostLine_116 : decode cX12_readPostLine 116 = .ok (.iconst 1, 1) := by decide +kernel
theorem dX12_readPostLine_117 : decode cX12_readPostLine 117 = .ok (.goto 4, 3) := by decide +kernel
theorem dX12_readPostLine_120 : decode cX12_readPostLine 120 = .ok (.iconst 0, 1) := by decide +kernel
theorem dX12_readPostLine_121 : decode cX12_readPostLine 121 = .ok (.ireturn, 1) := by decide +kernel
theorem dX12_emits_0 : decode cX12_emits 0 = .ok (.aload_n 0, 1) := by decide +kernel
theorem dX12_emits_1 : decode cX12_emits 1 = .ok (.getfield 13, 3) := by decide +kernel
theorem dX12_emits_4 : decode cX12_emits 4 = .ok (.sipush 1358, 3) := by decide +kernel
theorem dX12_emits_7 : decode cX12_emits 7 = .ok (.iconst 2, 1) := by decide +kernel
theorem dX12_emits_8 : decode cX12_emits 8 = .ok (.aload_n 0, 1) := by decide +kernel
theorem dX12_emits_9 : decode cX12_emits 9 = .ok (.getfield 186, 3) := by decide +kernel
theorem dX12_emits_12 : decode cX12_emits 12 = .ok (.imul, 1) := by decide +kernel
theorem dX12_emits_13 : decode cX12_emits 13 = .ok (.iadd, 1) := by decide +kernel
theorem dX12_emits_14 : decode cX12_emits 14 = .ok (.iload_n 1, 1) := by decide +kernel
theorem dX12_emits_15 : decode cX12_emits 15 = .ok (.iastore, 1) := by decide +kernel
theorem dX12_emits_16 : decode cX12_emits 16 = .ok (.aload_n 0, 1) := by decide +kernel
theorem dX12_emits_17 : decode cX12_emits 17 = .ok (.getfield 13, 3) := by decide +kernel
theorem dX12_emits_20 : decode cX12_emits 20 = .ok (.sipush 1358, 3) := by decide +kernel
theorem dX12_emits_23 : decode cX12_emits 23 = .ok (.iconst 2, 1) := by decide +kernel
theorem dX12_emits_24 : decode cX12_emits 24 = .ok (.aload_n 0, 1) := by decide +kernel
theorem dX12_emits_25 : decode cX12_emits 25 = .ok (.getfield 186, 3) := by decide +kernel
theorem dX12_emits_28 : decode cX12_emits 28 = .ok (.imul, 1) := by decide +kernel
theorem dX12_emits_29 : decode cX12_emits 29 = .ok (.iadd, 1) := by decide +kernel
theorem dX12_emits_30 : decode cX12_emits 30 = .ok (.iconst 1, 1) := by decide +kernel
theorem dX12_emits_31 : decode cX12_emits 31 = .ok (.iadd, 1) := by decide +kernel
theorem dX12_emits_32 : decode cX12_emits 32 = .ok (.iload_n 2, 1) := by decide +kernel
theorem dX12_emits_33 : decode cX12_emits 33 = .ok (.iastore, 1) := by decide +kernel
theorem dX12_emits_34 : decode cX12_emits 34 = .ok (.aload_n 0, 1) := by decide +kernel
theorem dX12_emits_35 : decode cX12_emits 35 = .ok (.dup, 1) := by decide +kernel
theorem dX12_emits_36 : decode cX12_emits 36 = .ok (.getfield 186, 3) := by decide +kernel
theorem dX12_emits_39 : decode cX12_emits 39 = .ok (.iconst 1, 1) := by decide +kernel
theorem dX12_emits_40 : decode cX12_emits 40 = .ok (.iadd, 1) := by decide +kernel
theorem dX12_emits_41 : decode cX12_emits 41 = .ok (.putfield 186, 3) := by decide +kernel
theorem dX12_emits_44 : decode cX12_emits 44 = .ok (.return_, 1) := by decide +kernel
theorem dX12_readPart_0 : decode cX12_readPart 0 = .ok (.aload_n 0, 1) := by decide +kernel
theorem dX12_readPart_1 : decode cX12_readPart 1 = .ok (.invokevirtual 122, 3) := by decide +kernel
theorem dX12_readPart_4 : decode cX12_readPart 4 = .ok (.aload_n 0, 1) := by decide +kernel
theorem dX12_readPart_5 : decode cX12_readPart 5 = .ok (.getfield 97, 3) := by decide +kernel
theorem dX12_readPart_8 : decode cX12_readPart 8 = .ok (.aload_n 0, 1) := by decide +kernel
theorem dX12_readPart_9 : decode cX12_readPart 9 = .ok (.getfield 107, 3) := by decide +kernel
theorem dX12_readPart_12 : decode cX12_readPart 12 = .ok (.if_icmp .ne 22, 3) := by decide +kernel
theorem dX12_readPart_15 : decode cX12_readPart 15 = .ok (.aload_n 0, 1) := by decide +kernel
theorem dX12_readPart_16 : decode cX12_readPart 16 = .ok (.iconst 0, 1) := by decide +kernel
theorem dX12_readPart_17 : decode cX12_readPart 17 = .ok (.sipush 999, 3) := by decide +kernel
theorem dX12_readPart_20 : decode cX12_readPart 20 = .ok (.invokevirtual 129, 3) := by decide +kernel
theorem dX12_readPart_23 : decode cX12_readPart 23 = .ok (.istore_n 1, 1) := by decide +kernel
theorem dX12_readPart_24 : decode cX12_readPart 24 = .ok (.aload_n 0, 1) := by decide +kernel
theorem dX12_readPart_25 : decode cX12_readPart 25 = .ok (.bipush 8, 2) := by decide +kernel
theorem dX12_readPart_27 : decode cX12_readPart 27 = .ok (.iload_n 1, 1) := by decide +kernel
theorem dX12_readPart_28 : decode cX12_readPart 28 = .ok (.invokevirtual 189, 3) := by decide +kernel
theorem dX12_readPart_31 : decode cX12_readPart 31 = .ok (.goto 89, 3) := by decide +kernel
theorem dX12_readPart_34 : decode cX12_readPart 34 = .ok (.aload_n 0, 1) := by decide +kernel
theorem dX12_readPart_35 : decode cX12_readPart 35 = .ok (.ldc 192, 2) := by decide +kernel
theorem dX12_readPart_37 : decode cX12_readPart 37 = .ok (.invokevirtual 125, 3) := by decide +kernel
theorem dX12_readPart_40 : decode cX12_readPart 40 = .ok (.ifCond .eq 7, 3) := by decide +kernel
theorem dX12_readPart_43 : decode cX12_readPart 43 = .ok (.iconst 0, 1) := by decide +kernel
theorem dX12_readPart_44 : decode cX12_readPart 44 = .ok (.goto 69, 3) := by decide +kernel
theorem dX12_readPart_47 : decode cX12_readPart 47 = .ok (.aload_n 0, 1) := by decide +kernel
theorem dX12_readPart_48 : decode cX12_readPart 48 = .ok (.ldc 144, 2) := by decide +kernel
theorem dX12_readPart_50 : decode cX12_readPart 50 = .ok (.invokevirtual 125, 3) := by decide +kernel
theorem dX12_readPart_53 : decode cX12_readPart 53 = .ok (.ifCond .eq 7, 3) := by decide +kernel
theorem dX12_readPart_56 : decode cX12_readPart 56 = .ok (.iconst 1, 1) := by decide +kernel
theorem dX12_readPart_57 : decode cX12_readPart 57 = .ok (.goto 56, 3) := by decide +kernel
theorem dX12_readPart_60 : decode cX12_readPart 60 = .ok (.aload_n 0, 1) := by decide +kernel
theorem dX12_readPart_61 : decode cX12_readPart 61 = .ok (.ldc 193, 2) := by decide +kernel
theorem dX12_readPart_63 : decode cX12_readPart 63 = .ok (.invokevirtual 125, 3) := by decide +kernel
theorem dX12_readPart_66 : decode cX12_readPart 66 = .ok (.ifCond .eq 7, 3) := by decide +kernel
theorem dX12_readPart_69 : decode cX12_readPart 69 = .ok (.iconst 2, 1) := by decide +kernel
theorem dX12_readPart_70 : decode cX12_readPart 70 = .ok (.goto 43, 3) := by decide +kernel
theorem dX12_readPart_73 : decode cX12_readPart 73 = .ok (.aload_n 0, 1) := by decide +kernel
theorem dX12_readPart_74 : decode cX12_readPart 74 = .ok (.ldc 184, 2) := by decide +kernel
theorem dX12_readPart_76 : decode cX12_readPart 76 = .ok (.invokevirtual 125, 3) := by decide +kernel
theorem dX12_readPart_79 : decode cX12_readPart 79 = .ok (.ifCond .eq 7, 3) := by decide +kernel
theorem dX12_readPart_82 : decode cX12_readPart 82 = .ok (.iconst 3, 1) := by decide +kernel
theorem dX12_readPart_83 : decode cX12_readPart 83 = .ok (.goto 30, 3) := by decide +kernel
theorem dX12_readPart_86 : decode cX12_readPart 86 = .ok (.aload_n 0, 1) := by decide +kernel
theorem dX12_readPart_87 : decode cX12_readPart 87 = .ok (.ldc 194, 2) := by decide +kernel
theorem dX12_readPart_89 : decode cX12_readPart 89 = .ok (.invokevirtual 125, 3) := by decide +kernel
theorem dX12_readPart_92 : decode cX12_readPart 92 = .ok (.ifCond .eq 7, 3) := by decide +kernel
theorem dX12_readPart_95 : decode cX12_readPart 95 = .ok (.iconst 4, 1) := by decide +kernel
theorem dX12_readPart_96 : decode cX12_readPart 96 = .ok (.goto 17, 3) := by decide +kernel
theorem dX12_readPart_99 : decode cX12_readPart 99 = .ok (.aload_n 0, 1) := by decide +kernel
theorem dX12_readPart_100 : decode cX12_readPart 100 = .ok (.ldc 196, 2) := by decide +kernel
theorem dX12_readPart_102 : decode cX12_readPart 102 = .ok (.invokevirtual 125, 3) := by decide +kernel
theorem dX12_readPart_105 : decode cX12_readPart 105 = .ok (.ifCond .eq 7, 3) := by decide +kernel
theorem dX12_readPart_108 : decode cX12_readPart 108 = .ok (.iconst 5, 1) := by decide +kernel
theorem dX12_readPart_109 : decode cX12_readPart 109 = .ok (.goto 4, 3) := by decide +kernel
theorem dX12_readPart_112 : decode cX12_readPart 112 = .ok (.iconst (-1), 1) := by decide +kernel
theorem dX12_readPart_113 : decode cX12_readPart 113 = .ok (.istore_n 1, 1) := by decide +kernel
theorem dX12_readPart_114 : decode cX12_readPart 114 = .ok (.aload_n 0, 1) := by decide +kernel
theorem dX12_readPart_115 : decode cX12_readPart 115 = .ok (.iload_n 1, 1) := by decide +kernel
theorem dX12_readPart_116 : decode cX12_readPart 116 = .ok (.iconst 0, 1) := by decide +kernel
theorem dX12_readPart_117 : decode cX12_readPart 117 = .ok (.invokevirtual 189, 3) := by decide +kernel
theorem dX12_readPart_120 : decode cX12_readPart 120 = .ok (.iload_n 1, 1) := by decide +kernel
theorem dX12_readPart_121 : decode cX12_readPart 121 = .ok (.ifCond .lt 7, 3) := by decide +kernel
theorem dX12_readPart_124 : decode cX12_readPart 124 = .ok (.iconst 1, 1) := by decide +kernel
theorem dX12_readPart_125 : decode cX12_readPart 125 = .ok (.goto 4, 3) := by decide +kernel
theorem dX12_readPart_128 : decode cX12_readPart 128 = .ok (.iconst 0, 1) := by decide +kernel
theorem dX12_readPart_129 : decode cX12_readPart 129 = .ok (.ireturn, 1) := by decide +kernel
theorem dX12_readSum_0 : decode cX12_readSum 0 = .ok (.aload_n 0, 1) := by decide +kernel
theorem dX12_readSum_1 : decode cX12_readSum 1 = .ok (.invokevirtual 198, 3) := by decide +kernel
theorem dX12_readSum_4 : decode cX12_readSum 4 = .ok (.ifCond .ne 5, 3) := by decide +kernel
theorem dX12_readSum_7 : decode cX12_readSum 7 = .ok (.iconst 0, 1) := by decide +kernel
theorem dX12_readSum_8 : decode cX12_readSum 8 = .ok (.ireturn, 1) := by decide +kernel
theorem dX12_readSum_9 : decode cX12_readSum 9 = .ok (.aload_n 0, 1) := by decide +kernel
theorem dX12_readSum_10 : decode cX12_readSum 10 = .ok (.bipush 43, 2) := by decide +kernel
theorem dX12_readSum_12 : decode cX12_readSum 12 = .ok (.invokevirtual 201, 3) := by decide +kernel
theorem dX12_readSum_15 : decode cX12_readSum 15 = .ok (.ifCond .eq 22, 3) := by decide +kernel
theorem dX12_readSum_18 : decode cX12_readSum 18 = .ok (.aload_n 0, 1) := by decide +kernel
theorem dX12_readSum_19 : decode cX12_readSum 19 = .ok (.invokevirtual 198, 3) := by decide +kernel
theorem dX12_readSum_22 : decode cX12_readSum 22 = .ok (.ifCond .ne 5, 3) := by decide +kernel
theorem dX12_readSum_25 : decode cX12_readSum 25 = .ok (.iconst 0, 1) := by decide +kernel
theorem dX12_readSum_26 : decode cX12_readSum 26 = .ok (.ireturn, 1) := by decide +kernel
theorem dX12_readSum_27 : decode cX12_readSum 27 = .ok (.aload_n 0, 1) := by decide +kernel
theorem dX12_readSum_28 : decode cX12_readSum 28 = .ok (.bipush 9, 2) := by decide +kernel
theorem dX12_readSum_30 : decode cX12_readSum 30 = .ok (.iconst 0, 1) := by decide +kernel
theorem dX12_readSum_31 : decode cX12_readSum 31 = .ok (.invokevirtual 189, 3) := by decide +kernel
theorem dX12_readSum_34 : decode cX12_readSum 34 = .ok (.goto (-25), 3) := by decide +kernel
theorem dX12_readSum_37 : decode cX12_readSum 37 = .ok (.iconst 1, 1) := by decide +kernel
theorem dX12_readSum_38 : decode cX12_readSum 38 = .ok (.ireturn, 1) := by decide +kernel
theorem dX12_readTag_0 : decode cX12_readTag 0 = .ok (.aload_n 0, 1) := by decide +kernel
theorem dX12_readTag_1 : decode cX12_readTag 1 = .ok (.invokevirtual 122, 3) := by decide +kernel
theorem dX12_readTag_4 : decode cX12_readTag 4 = .ok (.aload_n 0, 1) := by decide +kernel
theorem dX12_readTag_5 : decode cX12_readTag 5 = .ok (.ldc 177, 2) := by decide +kernel
theorem dX12_readTag_7 : decode cX12_readTag 7 = .ok (.invokevirtual 125, 3) := by decide +kernel
theorem dX12_readTag_10 : decode cX12_readTag 10 = .ok (.ifCond .eq 8, 3) := by decide +kernel
theorem dX12_readTag_13 : decode cX12_readTag 13 = .ok (.bipush 6, 2) := by decide +kernel
theorem dX12_readTag_15 : decode cX12_readTag 15 = .ok (.goto 18, 3) := by decide +kernel
theorem dX12_readTag_18 : decode cX12_readTag 18 = .ok (.aload_n 0, 1) := by decide +kernel
theorem dX12_readTag_19 : decode cX12_readTag 19 = .ok (.ldc 204, 2) := by decide +kernel
theorem dX12_readTag_21 : decode cX12_readTag 21 = .ok (.invokevirtual 125, 3) := by decide +kernel
theorem dX12_readTag_24 : decode cX12_readTag 24 = .ok (.ifCond .eq 8, 3) := by decide +kernel
theorem dX12_readTag_27 : decode cX12_readTag 27 = .ok (.bipush 7, 2) := by decide +kernel
theorem dX12_readTag_29 : decode cX12_readTag 29 = .ok (.goto 4, 3) := by decide +kernel
theorem dX12_readTag_32 : decode cX12_readTag 32 = .ok (.iconst (-1), 1) := by decide +kernel
theorem dX12_readTag_33 : decode cX12_readTag 33 = .ok (.istore_n 1, 1) := by decide +kernel
theorem dX12_readTag_34 : decode cX12_readTag 34 = .ok (.iload_n 1, 1) := by decide +kernel
theorem dX12_readTag_35 : decode cX12_readTag 35 = .ok (.ifCond .lt 12, 3) := by decide +kernel
theorem dX12_readTag_38 : decode cX12_readTag 38 = .ok (.aload_n 0, 1) := by decide +kernel
theorem dX12_readTag_39 : decode cX12_readTag 39 = .ok (.iload_n 1, 1) := by decide +kernel
theorem dX12_readTag_40 : decode cX12_readTag 40 = .ok (.iconst 0, 1) := by decide +kernel
theorem dX12_readTag_41 : decode cX12_readTag 41 = .ok (.invokevirtual 189, 3) := by decide +kernel
theorem dX12_readTag_44 : decode cX12_readTag 44 = .ok (.goto 11, 3) := by decide +kernel
theorem dX12_readTag_47 : decode cX12_readTag 47 = .ok (.aload_n 0, 1) := by decide +kernel
theorem dX12_readTag_48 : decode cX12_readTag 48 = .ok (.aload_n 0, 1) := by decide +kernel
theorem dX12_readTag_49 : decode cX12_readTag 49 = .ok (.getfield 107, 3) := by decide +kernel
theorem dX12_readTag_52 : decode cX12_readTag 52 = .ok (.putfield 97, 3) := by decide +kernel
theorem dX12_readTag_55 : decode cX12_readTag 55 = .ok (.iload_n 1, 1) := by decide +kernel
theorem dX12_readTag_56 : decode cX12_readTag 56 = .ok (.ifCond .lt 7, 3) := by decide +kernel
theorem dX12_readTag_59 : decode cX12_readTag 59 = .ok (.iconst 1, 1) := by decide +kernel
theorem dX12_readTag_60 : decode cX12_readTag 60 = .ok (.goto 4, 3) := by decide +kernel
theorem dX12_readTag_63 : decode cX12_readTag 63 = .ok (.iconst 0, 1) := by decide +kernel
theorem dX12_readTag_64 : decode cX12_readTag 64 = .ok (.ireturn, 1) := by decide +kernel
theorem dX12_readAtom_0 : decode cX12_readAtom 0 = .ok (.aload_n 0, 1) := by decide +kernel
theorem dX12_readAtom_1 : decode cX12_readAtom 1 = .ok (.bipush 40, 2) := by decide +kernel
theorem dX12_readAtom_3 : decode cX12_readAtom 3 = .ok (.invokevirtual 201, 3) := by decide +kernel
theorem dX12_readAtom_6 : decode cX12_readAtom 6 = .ok (.ifCond .eq 50, 3) := by decide +kernel
theorem dX12_readAtom_9 : decode cX12_readAtom 9 = .ok (.aload_n 0, 1) := by decide +kernel
theorem dX12_readAtom_10 : decode cX12_readAtom 10 = .ok (.getfield 206, 3) := by decide +kernel
theorem dX12_readAtom_13 : decode cX12_readAtom 13 = .ok (.bipush 6, 2) := by decide +kernel
theorem dX12_readAtom_15 : decode cX12_readAtom 15 = .ok (.if_icmp .ne 5, 3) := by decide +kernel
theorem dX12_readAtom_18 : decode cX12_readAtom 18 = .ok (.iconst 0, 1) := by decide +kernel
theorem dX12_readAtom_19 : decode cX12_readAtom 19 = .ok (.ireturn, 1) := by decide +kernel
theorem dX12_readAtom_20 : decode cX12_readAtom 20 = .ok (.aload_n 0, 1) := by decide +kernel
theorem dX12_readAtom_21 : decode cX12_readAtom 21 = .ok (.dup, 1) := by decide +kernel
theorem dX12_readAtom_22 : decode cX12_readAtom 22 = .ok (.getfield 206, 3) := by decide +kernel
theorem dX12_readAtom_25 : decode cX12_readAtom 25 = .ok (.iconst 1, 1) := by decide +kernel
theorem dX12_readAtom_26 : decode cX12_readAtom 26 = .ok (.iadd, 1) := by decide +kernel
theorem dX12_readAtom_27 : decode cX12_readAtom 27 = .ok (.putfield 206, 3) := by decide +kernel
theorem dX12_readAtom_30 : decode cX12_readAtom 30 = .ok (.aload_n 0, 1) := by decide +kernel
theorem dX12_readAtom_31 : decode cX12_readAtom 31 = .ok (.invokevirtual 209, 3) := by decide +kernel
theorem dX12_readAtom_34 : decode cX12_readAtom 34 = .ok (.ifCond .ne 5, 3) := by decide +kernel
theorem dX12_readAtom_37 : decode cX12_readAtom 37 = .ok (.iconst 0, 1) := by decide +kernel
theorem dX12_readAtom_38 : decode cX12_readAtom 38 = .ok (.ireturn, 1) := by decide +kernel
theorem dX12_readAtom_39 : decode cX12_readAtom 39 = .ok (.aload_n 0, 1) := by decide +kernel
theorem dX12_readAtom_40 : decode cX12_readAtom 40 = .ok (.dup, 1) := by decide +kernel
theorem dX12_readAtom_41 : decode cX12_readAtom 41 = .ok (.getfield 206, 3) := by decide +kernel
theorem dX12_readAtom_44 : decode cX12_readAtom 44 = .ok (.iconst 1, 1) := by decide +kernel
theorem dX12_readAtom_45 : decode cX12_readAtom 45 = .ok (.isub, 1) := by decide +kernel
theorem dX12_readAtom_46 : decode cX12_readAtom 46 = .ok (.putfield 206, 3) := by decide +kernel
theorem dX12_readAtom_49 : decode cX12_readAtom 49 = .ok (.aload_n 0, 1) := by decide +kernel
theorem dX12_readAtom_50 : decode cX12_readAtom 50 = .ok (.bipush 41, 2) := by decide +kernel
theorem dX12_readAtom_52 : decode cX12_readAtom 52 = .ok (.invokevirtual 201, 3) := by decide +kernel
theorem dX12_readAtom_55 : decode cX12_readAtom 55 = .ok (.ireturn, 1) := by decide +kernel
theorem dX12_readAtom_56 : decode cX12_readAtom 56 = .ok (.aload_n 0, 1) := by decide +kernel
theorem dX12_readAtom_57 : decode cX12_readAtom 57 = .ok (.ldc 212, 2) := by decide +kernel
theorem dX12_readAtom_59 : decode cX12_readAtom 59 = .ok (.invokevirtual 214, 3) := by decide +kernel
theorem dX12_readAtom_62 : decode cX12_readAtom 62 = .ok (.ifCond .eq 52, 3) := by decide +kernel
theorem dX12_readAtom_65 : decode cX12_readAtom 65 = .ok (.aload_n 0, 1) := by decide +kernel
theorem dX12_readAtom_66 : decode cX12_readAtom 66 = .ok (.getfield 206, 3) := by decide +kernel
theorem dX12_readAtom_69 : decode cX12_readAtom 69 = .ok (.bipush 6, 2) := by decide +kernel
theorem dX12_readAtom_71 : decode cX12_readAtom 71 = .ok (.if_icmp .ne 5, 3) := by decide +kernel
theorem dX12_readAtom_74 : decode cX12_readAtom 74 = .ok (.iconst 0, 1) := by decide +kernel
theorem dX12_readAtom_75 : decode cX12_readAtom 75 = .ok (.ireturn, 1) := by decide +kernel
theorem dX12_readAtom_76 : decode cX12_readAtom 76 = .ok (.aload_n 0, 1) := by decide +kernel
theorem dX12_readAtom_77 : decode cX12_readAtom 77 = .ok (.dup, 1) := by decide +kernel
theorem dX12_readAtom_78 : decode cX12_readAtom 78 = .ok (.getfield 206, 3) := by decide +kernel
theorem dX12_readAtom_81 : decode cX12_readAtom 81 = .ok (.iconst 1, 1) := by decide +kernel
theorem dX12_readAtom_82 : decode cX12_readAtom 82 = .ok (.iadd, 1) := by decide +kernel
theorem dX12_readAtom_83 : decode cX12_readAtom 83 = .ok (.putfield 206, 3) := by decide +kernel
theorem dX12_readAtom_86 : decode cX12_readAtom 86 = .ok (.aload_n 0, 1) := by decide +kernel
theorem dX12_readAtom_87 : decode cX12_readAtom 87 = .ok (.invokevirtual 217, 3) := by decide +kernel
theorem dX12_readAtom_90 : decode cX12_readAtom 90 = .ok (.ifCond .ne 5, 3) := by decide +kernel
theorem dX12_readAtom_93 : decode cX12_readAtom 93 = .ok (.iconst 0, 1) := by decide +kernel
theorem dX12_readAtom_94 : decode cX12_readAtom 94 = .ok (.ireturn, 1) := by decide +kernel
theorem dX12_readAtom_95 : decode cX12_readAtom 95 = .ok (.aload_n 0, 1) := by decide +kernel
theorem dX12_readAtom_96 : decode cX12_readAtom 96 = .ok (.dup, 1) := by decide +kernel
theorem dX12_readAtom_97 : decode cX12_readAtom 97 = .ok (.getfield 206, 3) := by decide +kernel
theorem dX12_readAtom_100 : decode cX12_readAtom 100 = .ok (.iconst 1, 1) := by decide +kernel
theorem dX12_readAtom_101 : decode cX12_readAtom 101 = .ok (.isub, 1) := by decide +kernel
theorem dX12_readAtom_102 : decode cX12_readAtom 102 = .ok (.putfield 206, 3) := by decide +kernel
theorem dX12_readAtom_105 : decode cX12_readAtom 105 = .ok (.aload_n 0, 1) := by decide +kernel
theorem dX12_readAtom_106 : decode cX12_readAtom 106 = .ok (.bipush 12, 2) := by decide +kernel
theorem dX12_readAtom_108 : decode cX12_readAtom 108 = .ok (.iconst 0, 1) := by decide +kernel
theorem dX12_readAtom_109 : decode cX12_readAtom 109 = .ok (.invokevirtual 189, 3) := by decide +kernel
theorem dX12_readAtom_112 : decode cX12_readAtom 112 = .ok (.iconst 1, 1) := by decide +kernel
theorem dX12_readAtom_113 : decode cX12_readAtom 113 = .ok (.ireturn, 1) := by decide +kernel
theorem dX12_readAtom_114 : decode cX12_readAtom 114 = .ok (.aload_n 0, 1) := by decide +kernel
theorem dX12_readAtom_115 : decode cX12_readAtom 115 = .ok (.invokevirtual 220, 3) := by decide +kernel
theorem dX12_readAtom_118 : decode cX12_readAtom 118 = .ok (.ifCond .eq 5, 3) := by decide +kernel
theorem dX12_readAtom_121 : decode cX12_readAtom 121 = .ok (.iconst 1, 1) := by decide +kernel
theorem dX12_readAtom_122 : decode cX12_readAtom 122 = .ok (.ireturn, 1) := by decide +kernel
theorem dX12_readAtom_123 : decode cX12_readAtom 123 = .ok (.aload_n 0, 1) := by decide +kernel
theorem dX12_readAtom_124 : decode cX12_readAtom 124 = .ok (.invokevirtual 223, 3) := by decide +kernel
theorem dX12_readAtom_127 : decode cX12_readAtom 127 = .ok (.ifCond .ne 5, 3) := by decide +kernel
theorem dX12_readAtom_130 : decode cX12_readAtom 130 = .ok (.iconst 0, 1) := by decide +kernel
theorem dX12_readAtom_131 : decode cX12_readAtom 131 = .ok (.ireturn, 1) := by decide +kernel
theorem dX12_readAtom_132 : decode cX12_readAtom 132 = .ok (.aload_n 0, 1) := by decide +kernel
theorem dX12_readAtom_133 : decode cX12_readAtom 133 = .ok (.bipush 60, 2) := by decide +kernel
theorem dX12_readAtom_135 : decode cX12_readAtom 135 = .ok (.invokevirtual 201, 3) := by decide +kernel
theorem dX12_readAtom_138 : decode cX12_readAtom 138 = .ok (.istore_n 1, 1) := by decide +kernel
theorem dX12_readAtom_139 : decode cX12_readAtom 139 = .ok (.iload_n 1, 1) := by decide +kernel
theorem dX12_readAtom_140 : decode cX12_readAtom 140 = .ok (.ifCond .ne 12, 3) := by decide +kernel
theorem dX12_readAtom_143 : decode cX12_readAtom 143 = .ok (.aload_n 0, 1) := by decide +kernel
theorem dX12_readAtom_144 : decode cX12_readAtom 144 = .ok (.bipush 62, 2) := by decide +kernel
theorem dX12_readAtom_146 : decode cX12_readAtom 146 = .ok (.invokevirtual 201, 3) := by decide +kernel
theorem dX12_readAtom_149 : decode cX12_readAtom 149 = .ok (.ifCond .eq 10, 3) := by decide +kernel
theorem dX12_readAtom_152 : decode cX12_readAtom 152 = .ok (.aload_n 0, 1) := by decide +kernel
theorem dX12_readAtom_153 : decode cX12_readAtom 153 = .ok (.invokevirtual 223, 3) := by decide +kernel
theorem dX12_readAtom_156 : decode cX12_readAtom 156 = .ok (.ifCond .ne 5, 3) := by decide +kernel
theorem dX12_readAtom_159 : decode cX12_readAtom 159 = .ok (.iconst 0, 1) := by decide +kernel
theorem dX12_readAtom_160 : decode cX12_readAtom 160 = .ok (.ireturn, 1) := by decide +kernel
theorem dX12_readAtom_161 : decode cX12_readAtom 161 = .ok (.aload_n 0, 1) := by decide +kernel
theorem dX12_readAtom_162 : decode cX12_readAtom 162 = .ok (.iload_n 1, 1) := by decide +kernel
theorem dX12_readAtom_163 : decode cX12_readAtom 163 = .ok (.ifCond .eq 8, 3) := by decide +kernel
theorem dX12_readAtom_166 : decode cX12_readAtom 166 = .ok (.bipush 10, 2) := by decide +kernel
theorem dX12_readAtom_168 : decode cX12_readAtom 168 = .ok (.goto 5, 3) := by decide +kernel
theorem dX12_readAtom_171 : decode cX12_readAtom 171 = .ok (.bipush 11, 2) := by decide +kernel
theorem dX12_readAtom_173 : decode cX12_readAtom 173 = .ok (.iconst 0, 1) := by decide +kernel
theorem dX12_readAtom_174 : decode cX12_readAtom 174 = .ok (.invokevirtual 189, 3) := by decide +kernel
theorem dX12_readAtom_177 : decode cX12_readAtom 177 = .ok (.iconst 1, 1) := by decide +kernel
theorem dX12_readAtom_178 : decode cX12_readAtom 178 = .ok (.ireturn, 1) := by decide +kernel
theorem dX12_readAllOf_0 : decode cX12_readAllOf 0 = .ok (.aload_n 0, 1) := by decide +kernel
theorem dX12_readAllOf_1 : decode cX12_readAllOf 1 = .ok (.invokevirtual 217, 3) := by decide +kernel
theorem dX12_readAllOf_4 : decode cX12_readAllOf 4 = .ok (.ifCond .ne 5, 3) := by decide +kernel
theorem dX12_readAllOf_7 : decode cX12_readAllOf 7 = .ok (.iconst 0, 1) := by decide +kernel
theorem dX12_readAllOf_8 : decode cX12_readAllOf 8 = .ok (.ireturn, 1) := by decide +kernel
theorem dX12_readAllOf_9 : decode cX12_readAllOf 9 = .ok (.aload_n 0, 1) := by decide +kernel
theorem dX12_readAllOf_10 : decode cX12_readAllOf 10 = .ok (.ldc 226, 2) := by decide +kernel
theorem dX12_readAllOf_12 : decode cX12_readAllOf 12 = .ok (.invokevirtual 214, 3) := by decide +kernel
theorem dX12_readAllOf_15 : decode cX12_readAllOf 15 = .ok (.ifCond .eq 22, 3) := by decide +kernel
theorem dX12_readAllOf_18 : decode cX12_readAllOf 18 = .ok (.aload_n 0, 1) := by decide +kernel
theorem dX12_readAllOf_19 : decode cX12_readAllOf 19 = .ok (.invokevirtual 217, 3) := by decide +kernel
theorem dX12_readAllOf_22 : decode cX12_readAllOf 22 = .ok (.ifCond .ne 5, 3) := by decide +kernel
theorem dX12_readAllOf_25 : decode cX12_readAllOf 25 = .ok (.iconst 0, 1) := by decide +kernel
theorem dX12_readAllOf_26 : decode cX12_readAllOf 26 = .ok (.ireturn, 1) := by decide +kernel
theorem dX12_readAllOf_27 : decode cX12_readAllOf 27 = .ok (.aload_n 0, 1) := by decide +kernel
theorem dX12_readAllOf_28 : decode cX12_readAllOf 28 = .ok (.bipush 13, 2) := by decide +kernel
theorem dX12_readAllOf_30 : decode cX12_readAllOf 30 = .ok (.iconst 0, 1) := by decide +kernel
theorem dX12_readAllOf_31 : decode cX12_readAllOf 31 = .ok (.invokevirtual 189, 3) := by decide +kernel
theorem dX12_readAllOf_34 : decode cX12_readAllOf 34 = .ok (.goto (-25), 3) := by decide +kernel
theorem dX12_readAllOf_37 : decode cX12_readAllOf 37 = .ok (.iconst 1, 1) := by decide +kernel
theorem dX12_readAllOf_38 : decode cX12_readAllOf 38 = .ok (.ireturn, 1) := by decide +kernel
theorem dX12_readCond_0 : decode cX12_readCond 0 = .ok (.aload_n 0, 1) := by decide +kernel
theorem dX12_readCond_1 : decode cX12_readCond 1 = .ok (.invokevirtual 228, 3) := by decide +kernel
theorem dX12_readCond_4 : decode cX12_readCond 4 = .ok (.ifCond .ne 5, 3) := by decide +kernel
theorem dX12_readCond_7 : decode cX12_readCond 7 = .ok (.iconst 0, 1) := by decide +kernel
theorem dX12_readCond_8 : decode cX12_readCond 8 = .ok (.ireturn, 1) := by decide +kernel
theorem dX12_readCond_9 : decode cX12_readCond 9 = .ok (.aload_n 0, 1) := by decide +kernel
theorem dX12_readCond_10 : decode cX12_readCond 10 = .ok (.ldc 231, 2) := by decide +kernel
theorem dX12_readCond_12 : decode cX12_readCond 12 = .ok (.invokevirtual 214, 3) := by decide +kernel
theorem dX12_readCond_15 : decode cX12_readCond 15 = .ok (.ifCond .eq 22, 3) := by decide +kernel
theorem dX12_readCond_18 : decode cX12_readCond 18 = .ok (.aload_n 0, 1) := by decide +kernel
theorem dX12_readCond_19 : decode cX12_readCond 19 = .ok (.invokevirtual 228, 3) := by decide +kernel
theorem dX12_readCond_22 : decode cX12_readCond 22 = .ok (.ifCond .ne 5, 3) := by decide +kernel
theorem dX12_readCond_25 : decode cX12_readCond 25 = .ok (.iconst 0, 1) := by decide +kernel
theorem dX12_readCond_26 : decode cX12_readCond 26 = .ok (.ireturn, 1) := by decide +kernel
theorem dX12_readCond_27 : decode cX12_readCond 27 = .ok (.aload_n 0, 1) := by decide +kernel
theorem dX12_readCond_28 : decode cX12_readCond 28 = .ok (.bipush 14, 2) := by decide +kernel
theorem dX12_readCond_30 : decode cX12_readCond 30 = .ok (.iconst 0, 1) := by decide +kernel
theorem dX12_readCond_31 : decode cX12_readCond 31 = .ok (.invokevirtual 189, 3) := by decide +kernel
theorem dX12_readCond_34 : decode cX12_readCond 34 = .ok (.goto (-25), 3) := by decide +kernel
theorem dX12_readCond_37 : decode cX12_readCond 37 = .ok (.iconst 1, 1) := by decide +kernel
theorem dX12_readCond_38 : decode cX12_readCond 38 = .ok (.ireturn, 1) := by decide +kernel
theorem dX12_readLawLine_0 : decode cX12_readLawLine 0 = .ok (.sipush 1310, 3) := by decide +kernel
theorem dX12_readLawLine_3 : decode cX12_readLawLine 3 = .ok (.iconst 4, 1) := by decide +kernel
theorem dX12_readLawLine_4 : decode cX12_readLawLine 4 = .ok (.iload_n 1, 1) := by decide +kernel
theorem dX12_readLawLine_5 : decode cX12_readLawLine 5 = .ok (.imul, 1) := by decide +kernel
theorem dX12_readLawLine_6 : decode cX12_readLawLine 6 = .ok (.iadd, 1) := by decide +kernel
theorem dX12_readLawLine_7 : decode cX12_readLawLine 7 = .ok (.istore_n 2, 1) := by decide +kernel
theorem dX12_readLawLine_8 : decode cX12_readLawLine 8 = .ok (.aload_n 0, 1) := by decide +kernel
theorem dX12_readLawLine_9 : decode cX12_readLawLine 9 = .ok (.getfield 13, 3) := by decide +kernel
theorem dX12_readLawLine_12 : decode cX12_readLawLine 12 = .ok (.iload_n 2, 1) := by decide +kernel
theorem dX12_readLawLine_13 : decode cX12_readLawLine 13 = .ok (.aload_n 0, 1) := by decide +kernel
theorem dX12_readLawLine_14 : decode cX12_readLawLine 14 = .ok (.invokevirtual 135, 3) := by decide +kernel
theorem dX12_readLawLine_17 : decode cX12_readLawLine 17 = .ok (.iastore, 1) := by decide +kernel
theorem dX12_readLawLine_18 : decode cX12_readLawLine 18 = .ok (.aload_n 0, 1) := by decide +kernel
theorem dX12_readLawLine_19 : decode cX12_readLawLine 19 = .ok (.getfield 13, 3) := by decide +kernel
theorem dX12_readLawLine_22 : decode cX12_readLawLine 22 = .ok (.iload_n 2, 1) := by decide +kernel
theorem dX12_readLawLine_23 : decode cX12_readLawLine 23 = .ok (.iaload, 1) := by decide +kernel
theorem dX12_readLawLine_24 : decode cX12_readLawLine 24 = .ok (.ifCond .ge 5, 3) := by decide +kernel
theorem dX12_readLawLine_27 : decode cX12_readLawLine 27 = .ok (.iconst 0, 1) := by decide +kernel
theorem dX12_readLawLine_28 : decode cX12_readLawLine 28 = .ok (.ireturn, 1) := by decide +kernel
theorem dX12_readLawLine_29 : decode cX12_readLawLine 29 = .ok (.aload_n 0, 1) := by decide +kernel
theorem dX12_readLawLine_30 : decode cX12_readLawLine 30 = .ok (.invokevirtual 122, 3) := by decide +kernel
theorem dX12_readLawLine_33 : decode cX12_readLawLine 33 = .ok (.aload_n 0, 1) := by decide +kernel
theorem dX12_readLawLine_34 : decode cX12_readLawLine 34 = .ok (.ldc 233, 2) := by decide +kernel
theorem dX12_readLawLine_36 : decode cX12_readLawLine 36 = .ok (.invokevirtual 125, 3) := by decide +kernel
theorem dX12_readLawLine_39 : decode cX12_readLawLine 39 = .ok (.ifCond .ne 5, 3) := by decide +kernel
theorem dX12_readLawLine_42 : decode cX12_readLawLine 42 = .ok (.iconst 0, 1) := by decide +kernel
theorem dX12_readLawLine_43 : decode cX12_readLawLine 43 = .ok (.ireturn, 1) := by decide +kernel
theorem dX12_readLawLine_44 : decode cX12_readLawLine 44 = .ok (.aload_n 0, 1) := by decide +kernel
theorem dX12_readLawLine_45 : decode cX12_readLawLine 45 = .ok (.getfield 13, 3) := by decide +kernel
theorem dX12_readLawLine_48 : decode cX12_readLawLine 48 = .ok (.iload_n 2, 1) := by decide +kernel
theorem dX12_readLawLine_49 : decode cX12_readLawLine 49 = .ok (.iconst 1, 1) := by decide +kernel
theorem dX12_readLawLine_50 : decode cX12_readLawLine 50 = .ok (.iadd, 1) := by decide +kernel
theorem dX12_readLawLine_51 : decode cX12_readLawLine 51 = .ok (.aload_n 0, 1) := by decide +kernel
theorem dX12_readLawLine_52 : decode cX12_readLawLine 52 = .ok (.invokevirtual 153, 3) := by decide +kernel
theorem dX12_readLawLine_55 : decode cX12_readLawLine 55 = .ok (.iastore, 1) := by decide +kernel
theorem dX12_readLawLine_56 : decode cX12_readLawLine 56 = .ok (.aload_n 0, 1) := by decide +kernel
theorem dX12_readLawLine_57 : decode cX12_readLawLine 57 = .ok (.getfield 13, 3) := by decide +kernel
theorem dX12_readLawLine_60 : decode cX12_readLawLine 60 = .ok (.iload_n 2, 1) := by decide +kernel
theorem dX12_readLawLine_61 : decode cX12_readLawLine 61 = .ok (.iconst 1, 1) := by decide +kernel
theorem dX12_readLawLine_62 : decode cX12_readLawLine 62 = .ok (.iadd, 1) := by decide +kernel
theorem dX12_readLawLine_63 : decode cX12_readLawLine 63 = .ok (.iaload, 1) := by decide +kernel
theorem dX12_readLawLine_64 : decode cX12_readLawLine 64 = .ok (.ifCond .ge 5, 3) := by decide +kernel
theorem dX12_readLawLine_67 : decode cX12_readLawLine 67 = .ok (.iconst 0, 1) := by decide +kernel
theorem dX12_readLawLine_68 : decode cX12_readLawLine 68 = .ok (.ireturn, 1) := by decide +kernel
theorem dX12_readLawLine_69 : decode cX12_readLawLine 69 = .ok (.aload_n 0, 1) := by decide +kernel
theorem dX12_readLawLine_70 : decode cX12_readLawLine 70 = .ok (.getfield 13, 3) := by decide +kernel
theorem dX12_readLawLine_73 : decode cX12_readLawLine 73 = .ok (.iload_n 2, 1) := by decide +kernel
theorem dX12_readLawLine_74 : decode cX12_readLawLine 74 = .ok (.iconst 2, 1) := by decide +kernel
theorem dX12_readLawLine_75 : decode cX12_readLawLine 75 = .ok (.iadd, 1) := by decide +kernel
theorem dX12_readLawLine_76 : decode cX12_readLawLine 76 = .ok (.aload_n 0, 1) := by decide +kernel
theorem dX12_readLawLine_77 : decode cX12_readLawLine 77 = .ok (.getfield 186, 3) := by decide +kernel
theorem dX12_readLawLine_80 : decode cX12_readLawLine 80 = .ok (.iastore, 1) := by decide +kernel
theorem dX12_readLawLine_81 : decode cX12_readLawLine 81 = .ok (.aload_n 0, 1) := by decide +kernel
theorem dX12_readLawLine_82 : decode cX12_readLawLine 82 = .ok (.iconst 0, 1) := by decide +kernel
theorem dX12_readLawLine_83 : decode cX12_readLawLine 83 = .ok (.putfield 206, 3) := by decide +kernel
theorem dX12_readLawLine_86 : decode cX12_readLawLine 86 = .ok (.aload_n 0, 1) := by decide +kernel
theorem dX12_readLawLine_87 : decode cX12_readLawLine 87 = .ok (.ldc 235, 2) := by decide +kernel
theorem dX12_readLawLine_89 : decode cX12_readLawLine 89 = .ok (.invokevirtual 214, 3) := by decide +kernel
theorem dX12_readLawLine_92 : decode cX12_readLawLine 92 = .ok (.ifCond .eq 12, 3) := by decide +kernel
theorem dX12_readLawLine_95 : decode cX12_readLawLine 95 = .ok (.aload_n 0, 1) := by decide +kernel
theorem dX12_readLawLine_96 : decode cX12_readLawLine 96 = .ok (.invokevirtual 209, 3) := by decide +kernel
theorem dX12_readLawLine_99 : decode cX12_readLawLine 99 = .ok (.ifCond .ne 5, 3) := by decide +kernel
theorem dX12_readLawLine_102 : decode cX12_readLawLine 102 = .ok (.iconst 0, 1) := by decide +kernel
theorem dX12_readLawLine_103 : decode cX12_readLawLine 103 = .ok (.ireturn, 1) := by decide +kernel
theorem dX12_readLawLine_104 : decode cX12_readLawLine 104 = .ok (.aload_n 0, 1) := by decide +kernel
theorem dX12_readLawLine_105 : decode cX12_readLawLine 105 = .ok (.getfield 13, 3) := by decide +kernel
theorem dX12_readLawLine_108 : decode cX12_readLawLine 108 = .ok (.iload_n 2, 1) := by decide +kernel
theorem dX12_readLawLine_109 : decode cX12_readLawLine 109 = .ok (.iconst 3, 1) := by decide +kernel
theorem dX12_readLawLine_110 : decode cX12_readLawLine 110 = .ok (.iadd, 1) := by decide +kernel
theorem dX12_readLawLine_111 : decode cX12_readLawLine 111 = .ok (.aload_n 0, 1) := by decide +kernel
theorem dX12_readLawLine_112 : decode cX12_readLawLine 112 = .ok (.getfield 186, 3) := by decide +kernel
theorem dX12_readLawLine_115 : decode cX12_readLawLine 115 = .ok (.iastore, 1) := by decide +kernel
theorem dX12_readLawLine_116 : decode cX12_readLawLine 116 = .ok (.iconst 1, 1) := by decide +kernel
theorem dX12_readLawLine_117 : decode cX12_readLawLine 117 = .ok (.ireturn, 1) := by decide +kernel
theorem dX12_readLine_0 : decode cX12_readLine 0 = .ok (.aload_n 0, 1) := by decide +kernel
theorem dX12_readLine_1 : decode cX12_readLine 1 = .ok (.invokevirtual 122, 3) := by decide +kernel
theorem dX12_readLine_4 : decode cX12_readLine 4 = .ok (.iload_n 2, 1) := by decide +kernel
theorem dX12_readLine_5 : decode cX12_readLine 5 = .ok (.iload_n 1, 1) := by decide +kernel
theorem dX12_readLine_6 : decode cX12_readLine 6 = .ok (.ifCond .eq 8, 3) := by decide +kernel
theorem dX12_readLine_9 : decode cX12_readLine 9 = .ok (.bipush 14, 2) := by decide +kernel
theorem dX12_readLine_11 : decode cX12_readLine 11 = .ok (.goto 5, 3) := by decide +kernel
theorem dX12_readLine_14 : decode cX12_readLine 14 = .ok (.bipush 12, 2) := by decide +kernel
theorem dX12_readLine_16 : decode cX12_readLine 16 = .ok (.if_icmp .ge 29, 3) := by decide +kernel
theorem dX12_readLine_19 : decode cX12_readLine 19 = .ok (.iload_n 1, 1) := by decide +kernel
theorem dX12_readLine_20 : decode cX12_readLine 20 = .ok (.ifCond .eq 13, 3) := by decide +kernel
theorem dX12_readLine_23 : decode cX12_readLine 23 = .ok (.aload_n 0, 1) := by decide +kernel
theorem dX12_readLine_24 : decode cX12_readLine 24 = .ok (.invokevirtual 237, 3) := by decide +kernel
theorem dX12_readLine_27 : decode cX12_readLine 27 = .ok (.ifCond .eq 18, 3) := by decide +kernel
theorem dX12_readLine_30 : decode cX12_readLine 30 = .ok (.goto 11, 3) := by decide +kernel
theorem dX12_readLine_33 : decode cX12_readLine 33 = .ok (.aload_n 0, 1) := by decide +kernel
theorem dX12_readLine_34 : decode cX12_readLine 34 = .ok (.iload_n 2, 1) := by decide +kernel
theorem dX12_readLine_35 : decode cX12_readLine 35 = .ok (.invokevirtual 240, 3) := by decide +kernel
theorem dX12_readLine_38 : decode cX12_readLine 38 = .ok (.ifCond .eq 7, 3) := by decide +kernel
theorem dX12_readLine_41 : decode cX12_readLine 41 = .ok (.iconst 1, 1) := by decide +kernel
theorem dX12_readLine_42 : decode cX12_readLine 42 = .ok (.goto 4, 3) := by decide +kernel
theorem dX12_readLine_45 : decode cX12_readLine 45 = .ok (.iconst 0, 1) := by decide +kernel
theorem dX12_readLine_46 : decode cX12_readLine 46 = .ok (.ireturn, 1) := by decide +kernel
theorem dX12_readAll_0 : decode cX12_readAll 0 = .ok (.aload_n 0, 1) := by decide +kernel
theorem dX12_readAll_1 : decode cX12_readAll 1 = .ok (.invokevirtual 243, 3) := by decide +kernel
theorem dX12_readAll_4 : decode cX12_readAll 4 = .ok (.aload_n 0, 1) := by decide +kernel
theorem dX12_readAll_5 : decode cX12_readAll 5 = .ok (.iconst 0, 1) := by decide +kernel
theorem dX12_readAll_6 : decode cX12_readAll 6 = .ok (.putfield 186, 3) := by decide +kernel
theorem dX12_readAll_9 : decode cX12_readAll 9 = .ok (.aload_n 0, 1) := by decide +kernel
theorem dX12_readAll_10 : decode cX12_readAll 10 = .ok (.invokevirtual 110, 3) := by decide +kernel
theorem dX12_readAll_13 : decode cX12_readAll 13 = .ok (.aload_n 0, 1) := by decide +kernel
theorem dX12_readAll_14 : decode cX12_readAll 14 = .ok (.getfield 97, 3) := by decide +kernel
theorem dX12_readAll_17 : decode cX12_readAll 17 = .ok (.aload_n 0, 1) := by decide +kernel
theorem dX12_readAll_18 : decode cX12_readAll 18 = .ok (.getfield 100, 3) := by decide +kernel
theorem dX12_readAll_21 : decode cX12_readAll 21 = .ok (.if_icmp .ne 5, 3) := by decide +kernel
theorem dX12_readAll_24 : decode cX12_readAll 24 = .ok (.iconst 0, 1) := by decide +kernel
theorem dX12_readAll_25 : decode cX12_readAll 25 = .ok (.ireturn, 1) := by decide +kernel
theorem dX12_readAll_26 : decode cX12_readAll 26 = .ok (.iconst 0, 1) := by decide +kernel
theorem dX12_readAll_27 : decode cX12_readAll 27 = .ok (.istore_n 2, 1) := by decide +kernel
theorem dX12_readAll_28 : decode cX12_readAll 28 = .ok (.aload_n 0, 1) := by decide +kernel
theorem dX12_readAll_29 : decode cX12_readAll 29 = .ok (.iload_n 1, 1) := by decide +kernel
theorem dX12_readAll_30 : decode cX12_readAll 30 = .ok (.iload_n 2, 1) := by decide +kernel
theorem dX12_readAll_31 : decode cX12_readAll 31 = .ok (.invokevirtual 246, 3) := by decide +kernel
theorem dX12_readAll_34 : decode cX12_readAll 34 = .ok (.ifCond .ne 5, 3) := by decide +kernel
theorem dX12_readAll_37 : decode cX12_readAll 37 = .ok (.iconst (-1), 1) := by decide +kernel
theorem dX12_readAll_38 : decode cX12_readAll 38 = .ok (.ireturn, 1) := by decide +kernel
theorem dX12_readAll_39 : decode cX12_readAll 39 = .ok (.aload_n 0, 1) := by decide +kernel
theorem dX12_readAll_40 : decode cX12_readAll 40 = .ok (.invokevirtual 110, 3) := by decide +kernel
theorem dX12_readAll_43 : decode cX12_readAll 43 = .ok (.aload_n 0, 1) := by decide +kernel
theorem dX12_readAll_44 : decode cX12_readAll 44 = .ok (.getfield 97, 3) := by decide +kernel
theorem dX12_readAll_47 : decode cX12_readAll 47 = .ok (.aload_n 0, 1) := by decide +kernel
theorem dX12_readAll_48 : decode cX12_readAll 48 = .ok (.getfield 100, 3) := by decide +kernel
theorem dX12_readAll_51 : decode cX12_readAll 51 = .ok (.if_icmp .ne 7, 3) := by decide +kernel
theorem dX12_readAll_54 : decode cX12_readAll 54 = .ok (.iload_n 2, 1) := by decide +kernel
theorem dX12_readAll_55 : decode cX12_readAll 55 = .ok (.iconst 1, 1) := by decide +kernel
theorem dX12_readAll_56 : decode cX12_readAll 56 = .ok (.iadd, 1) := by decide +kernel
theorem dX12_readAll_57 : decode cX12_readAll 57 = .ok (.ireturn, 1) := by decide +kernel
theorem dX12_readAll_58 : decode cX12_readAll 58 = .ok (.aload_n 0, 1) := by decide +kernel
theorem dX12_readAll_59 : decode cX12_readAll 59 = .ok (.bipush 59, 2) := by decide +kernel
theorem dX12_readAll_61 : decode cX12_readAll 61 = .ok (.bipush 59, 2) := by decide +kernel
theorem dX12_readAll_63 : decode cX12_readAll 63 = .ok (.invokevirtual 103, 3) := by decide +kernel
theorem dX12_readAll_66 : decode cX12_readAll 66 = .ok (.ifCond .ne 5, 3) := by decide +kernel
theorem dX12_readAll_69 : decode cX12_readAll 69 = .ok (.iconst (-1), 1) := by decide +kernel
theorem dX12_readAll_70 : decode cX12_readAll 70 = .ok (.ireturn, 1) := by decide +kernel
theorem dX12_readAll_71 : decode cX12_readAll 71 = .ok (.aload_n 0, 1) := by decide +kernel
theorem dX12_readAll_72 : decode cX12_readAll 72 = .ok (.dup, 1) := by decide +kernel
theorem dX12_readAll_73 : decode cX12_readAll 73 = .ok (.getfield 97, 3) := by decide +kernel
theorem dX12_readAll_76 : decode cX12_readAll 76 = .ok (.iconst 1, 1) := by decide +kernel
theorem dX12_readAll_77 : decode cX12_readAll 77 = .ok (.iadd, 1) := by decide +kernel
theorem dX12_readAll_78 : decode cX12_readAll 78 = .ok (.putfield 97, 3) := by decide +kernel
theorem dX12_readAll_81 : decode cX12_readAll 81 = .ok (.iinc 2 1, 3) := by decide +kernel
theorem dX12_readAll_84 : decode cX12_readAll 84 = .ok (.goto (-56), 3) := by decide +kernel
theorem dX12_post_0 : decode cX12_post 0 = .ok (.iconst 0, 1) := by decide +kernel
theorem dX12_post_1 : decode cX12_post 1 = .ok (.istore_n 1, 1) := by decide +kernel
theorem dX12_post_2 : decode cX12_post 2 = .ok (.iload_n 1, 1) := by decide +kernel
theorem dX12_post_3 : decode cX12_post 3 = .ok (.sipush 1309, 3) := by decide +kernel
theorem dX12_post_6 : decode cX12_post 6 = .ok (.if_icmp .ge 21, 3) := by decide +kernel
theorem dX12_post_9 : decode cX12_post 9 = .ok (.aload_n 0, 1) := by decide +kernel
theorem dX12_post_10 : decode cX12_post 10 = .ok (.getfield 20, 3) := by decide +kernel
theorem dX12_post_13 : decode cX12_post 13 = .ok (.iload_n 1, 1) := by decide +kernel
theorem dX12_post_14 : decode cX12_post 14 = .ok (.aload_n 0, 1) := by decide +kernel
theorem dX12_post_15 : decode cX12_post 15 = .ok (.getfield 13, 3) := by decide +kernel
theorem dX12_post_18 : decode cX12_post 18 = .ok (.iload_n 1, 1) := by decide +kernel
theorem dX12_post_19 : decode cX12_post 19 = .ok (.iaload, 1) := by decide +kernel
theorem dX12_post_20 : decode cX12_post 20 = .ok (.iastore, 1) := by decide +kernel
theorem dX12_post_21 : decode cX12_post 21 = .ok (.iinc 1 1, 3) := by decide +kernel
theorem dX12_post_24 : decode cX12_post 24 = .ok (.goto (-22), 3) := by decide +kernel
theorem dX12_post_27 : decode cX12_post 27 = .ok (.aload_n 0, 1) := by decide +kernel
theorem dX12_post_28 : decode cX12_post 28 = .ok (.iconst 1, 1) := by decide +kernel
theorem dX12_post_29 : decode cX12_post 29 = .ok (.invokevirtual 250, 3) := by decide +kernel
theorem dX12_post_32 : decode cX12_post 32 = .ok (.istore_n 1, 1) := by decide +kernel
theorem dX12_post_33 : decode cX12_post 33 = .ok (.aload_n 0, 1) := by decide +kernel
theorem dX12_post_34 : decode cX12_post 34 = .ok (.iload_n 1, 1) := by decide +kernel
theorem dX12_post_35 : decode cX12_post 35 = .ok (.ifCond .ge 10, 3) := by decide +kernel
theorem dX12_post_38 : decode cX12_post 38 = .ok (.aload_n 0, 1) := by decide +kernel
theorem dX12_post_39 : decode cX12_post 39 = .ok (.getfield 107, 3) := by decide +kernel
theorem dX12_post_42 : decode cX12_post 42 = .ok (.goto 4, 3) := by decide +kernel
theorem dX12_post_45 : decode cX12_post 45 = .ok (.iconst (-1), 1) := by decide +kernel
theorem dX12_post_46 : decode cX12_post 46 = .ok (.putfield 33, 3) := by decide +kernel
theorem dX12_post_49 : decode cX12_post 49 = .ok (.aload_n 0, 1) := by decide +kernel
theorem dX12_post_50 : decode cX12_post 50 = .ok (.iload_n 1, 1) := by decide +kernel
theorem dX12_post_51 : decode cX12_post 51 = .ok (.ifCond .ge 7, 3) := by decide +kernel
theorem dX12_post_54 : decode cX12_post 54 = .ok (.iconst 1, 1) := by decide +kernel
theorem dX12_post_55 : decode cX12_post 55 = .ok (.goto 4, 3) := by decide +kernel
theorem dX12_post_58 : decode cX12_post 58 = .ok (.iconst 0, 1) := by decide +kernel
theorem dX12_post_59 : decode cX12_post 59 = .ok (.iconst 1, 1) := by decide +kernel
theorem dX12_post_60 : decode cX12_post 60 = .ok (.invokevirtual 254, 3) := by decide +kernel
theorem dX12_post_63 : decode cX12_post 63 = .ok (.ifCond .ne 27, 3) := by decide +kernel
theorem dX12_post_66 : decode cX12_post 66 = .ok (.aload_n 0, 1) := by decide +kernel
theorem dX12_post_67 : decode cX12_post 67 = .ok (.aload_n 0, 1) := by decide +kernel
theorem dX12_post_68 : decode cX12_post 68 = .ok (.getfield 13, 3) := by decide +kernel
theorem dX12_post_71 : decode cX12_post 71 = .ok (.iconst 2, 1) := by decide +kernel
theorem dX12_post_72 : decode cX12_post 72 = .ok (.iaload, 1) := by decide +kernel
theorem dX12_post_73 : decode cX12_post 73 = .ok (.bipush 12, 2) := by decide +kernel
theorem dX12_post_75 : decode cX12_post 75 = .ok (.if_icmp .ne 7, 3) := by decide +kernel
theorem dX12_post_78 : decode cX12_post 78 = .ok (.iconst 1, 1) := by decide +kernel
theorem dX12_post_79 : decode cX12_post 79 = .ok (.goto 4, 3) := by decide +kernel
theorem dX12_post_82 : decode cX12_post 82 = .ok (.iconst 0, 1) := by decide +kernel
theorem dX12_post_83 : decode cX12_post 83 = .ok (.iconst 2, 1) := by decide +kernel
theorem dX12_post_84 : decode cX12_post 84 = .ok (.invokevirtual 254, 3) := by decide +kernel
theorem dX12_post_87 : decode cX12_post 87 = .ok (.ifCond .eq 32, 3) := by decide +kernel
theorem dX12_post_90 : decode cX12_post 90 = .ok (.iconst 0, 1) := by decide +kernel
theorem dX12_post_91 : decode cX12_post 91 = .ok (.istore_n 2, 1) := by decide +kernel
theorem dX12_post_92 : decode cX12_post 92 = .ok (.iload_n 2, 1) := by decide +kernel
theorem dX12_post_93 : decode cX12_post 93 = .ok (.sipush 1309, 3) := by decide +kernel
theorem dX12_post_96 : decode cX12_post 96 = .ok (.if_icmp .ge 21, 3) := by decide +kernel
theorem dX12_post_99 : decode cX12_post 99 = .ok (.aload_n 0, 1) := by decide +kernel
theorem dX12_post_100 : decode cX12_post 100 = .ok (.getfield 13, 3) := by decide +kernel
theorem dX12_post_103 : decode cX12_post 103 = .ok (.iload_n 2, 1) := by decide +kernel
theorem dX12_post_104 : decode cX12_post 104 = .ok (.aload_n 0, 1) := by decide +kernel
theorem dX12_post_105 : decode cX12_post 105 = .ok (.getfield 20, 3) := by decide +kernel
theorem dX12_post_108 : decode cX12_post 108 = .ok (.iload_n 2, 1) := by decide +kernel
theorem dX12_post_109 : decode cX12_post 109 = .ok (.iaload, 1) := by decide +kernel
theorem dX12_post_110 : decode cX12_post 110 = .ok (.iastore, 1) := by decide +kernel
theorem dX12_post_111 : decode cX12_post 111 = .ok (.iinc 2 1, 3) := by decide +kernel
theorem dX12_post_114 : decode cX12_post 114 = .ok (.goto (-22), 3) := by decide +kernel
theorem dX12_post_117 : decode cX12_post 117 = .ok (.iconst 0, 1) := by decide +kernel
theorem dX12_post_118 : decode cX12_post 118 = .ok (.ireturn, 1) := by decide +kernel
theorem dX12_post_119 : decode cX12_post 119 = .ok (.aload_n 0, 1) := by decide +kernel
theorem dX12_post_120 : decode cX12_post 120 = .ok (.getfield 13, 3) := by decide +kernel
theorem dX12_post_123 : decode cX12_post 123 = .ok (.iconst 2, 1) := by decide +kernel
theorem dX12_post_124 : decode cX12_post 124 = .ok (.dup2, 1) := by decide +kernel
theorem dX12_post_125 : decode cX12_post 125 = .ok (.iaload, 1) := by decide +kernel
theorem dX12_post_126 : decode cX12_post 126 = .ok (.iconst 1, 1) := by decide +kernel
theorem dX12_post_127 : decode cX12_post 127 = .ok (.iadd, 1) := by decide +kernel
theorem dX12_post_128 : decode cX12_post 128 = .ok (.iastore, 1) := by decide +kernel
theorem dX12_post_129 : decode cX12_post 129 = .ok (.aload_n 0, 1) := by decide +kernel
theorem dX12_post_130 : decode cX12_post 130 = .ok (.iconst 0, 1) := by decide +kernel
theorem dX12_post_131 : decode cX12_post 131 = .ok (.putfield 64, 3) := by decide +kernel
theorem dX12_post_134 : decode cX12_post 134 = .ok (.aload_n 0, 1) := by decide +kernel
theorem dX12_post_135 : decode cX12_post 135 = .ok (.getfield 13, 3) := by decide +kernel
theorem dX12_post_138 : decode cX12_post 138 = .ok (.iconst 2, 1) := by decide +kernel
theorem dX12_post_139 : decode cX12_post 139 = .ok (.iaload, 1) := by decide +kernel
theorem dX12_post_140 : decode cX12_post 140 = .ok (.ireturn, 1) := by decide +kernel
theorem dX12_law_0 : decode cX12_law 0 = .ok (.aload_n 0, 1) := by decide +kernel
theorem dX12_law_1 : decode cX12_law 1 = .ok (.iconst 0, 1) := by decide +kernel
theorem dX12_law_2 : decode cX12_law 2 = .ok (.invokevirtual 250, 3) := by decide +kernel
theorem dX12_law_5 : decode cX12_law 5 = .ok (.istore_n 1, 1) := by decide +kernel
theorem dX12_law_6 : decode cX12_law 6 = .ok (.aload_n 0, 1) := by decide +kernel
theorem dX12_law_7 : decode cX12_law 7 = .ok (.iload_n 1, 1) := by decide +kernel
theorem dX12_law_8 : decode cX12_law 8 = .ok (.ifCond .ge 10, 3) := by decide +kernel
theorem dX12_law_11 : decode cX12_law 11 = .ok (.aload_n 0, 1) := by decide +kernel
theorem dX12_law_12 : decode cX12_law 12 = .ok (.getfield 107, 3) := by decide +kernel
theorem dX12_law_15 : decode cX12_law 15 = .ok (.goto 4, 3) := by decide +kernel
theorem dX12_law_18 : decode cX12_law 18 = .ok (.iconst (-1), 1) := by decide +kernel
theorem dX12_law_19 : decode cX12_law 19 = .ok (.putfield 33, 3) := by decide +kernel
theorem dX12_law_22 : decode cX12_law 22 = .ok (.aload_n 0, 1) := by decide +kernel
theorem dX12_law_23 : decode cX12_law 23 = .ok (.iload_n 1, 1) := by decide +kernel
theorem dX12_law_24 : decode cX12_law 24 = .ok (.ifCond .ge 7, 3) := by decide +kernel
theorem dX12_law_27 : decode cX12_law 27 = .ok (.iconst 1, 1) := by decide +kernel
theorem dX12_law_28 : decode cX12_law 28 = .ok (.goto 4, 3) := by decide +kernel
theorem dX12_law_31 : decode cX12_law 31 = .ok (.iconst 0, 1) := by decide +kernel
theorem dX12_law_32 : decode cX12_law 32 = .ok (.iconst 1, 1) := by decide +kernel
theorem dX12_law_33 : decode cX12_law 33 = .ok (.invokevirtual 254, 3) := by decide +kernel
theorem dX12_law_36 : decode cX12_law 36 = .ok (.ifCond .eq 5, 3) := by decide +kernel
theorem dX12_law_39 : decode cX12_law 39 = .ok (.iconst 0, 1) := by decide +kernel
theorem dX12_law_40 : decode cX12_law 40 = .ok (.ireturn, 1) := by decide +kernel
theorem dX12_law_41 : decode cX12_law 41 = .ok (.aload_n 0, 1) := by decide +kernel
theorem dX12_law_42 : decode cX12_law 42 = .ok (.getfield 13, 3) := by decide +kernel
theorem dX12_law_45 : decode cX12_law 45 = .ok (.sipush 1309, 3) := by decide +kernel
theorem dX12_law_48 : decode cX12_law 48 = .ok (.iload_n 1, 1) := by decide +kernel
theorem dX12_law_49 : decode cX12_law 49 = .ok (.iastore, 1) := by decide +kernel
theorem dX12_law_50 : decode cX12_law 50 = .ok (.iconst 0, 1) := by decide +kernel
theorem dX12_law_51 : decode cX12_law 51 = .ok (.istore_n 2, 1) := by decide +kernel
theorem dX12_law_52 : decode cX12_law 52 = .ok (.iload_n 2, 1) := by decide +kernel
theorem dX12_law_53 : decode cX12_law 53 = .ok (.sipush 849, 3) := by decide +kernel
theorem dX12_law_56 : decode cX12_law 56 = .ok (.if_icmp .ge 29, 3) := by decide +kernel
theorem dX12_law_59 : decode cX12_law 59 = .ok (.aload_n 0, 1) := by decide +kernel
theorem dX12_law_60 : decode cX12_law 60 = .ok (.getfield 13, 3) := by decide +kernel
theorem dX12_law_63 : decode cX12_law 63 = .ok (.sipush 460, 3) := by decide +kernel
theorem dX12_law_66 : decode cX12_law 66 = .ok (.iload_n 2, 1) := by decide +kernel
theorem dX12_law_67 : decode cX12_law 67 = .ok (.iadd, 1) := by decide +kernel
theorem dX12_law_68 : decode cX12_law 68 = .ok (.aload_n 0, 1) := by decide +kernel
theorem dX12_law_69 : decode cX12_law 69 = .ok (.getfield 13, 3) := by decide +kernel
theorem dX12_law_72 : decode cX12_law 72 = .ok (.sipush 1309, 3) := by decide +kernel
theorem dX12_law_75 : decode cX12_law 75 = .ok (.iload_n 2, 1) := by decide +kernel
theorem dX12_law_76 : decode cX12_law 76 = .ok (.iadd, 1) := by decide +kernel
theorem dX12_law_77 : decode cX12_law 77 = .ok (.iaload, 1) := by decide +kernel
theorem dX12_law_78 : decode cX12_law 78 = .ok (.iastore, 1) := by decide +kernel
theorem dX12_law_79 : decode cX12_law 79 = .ok (.iinc 2 1, 3) := by decide +kernel
theorem dX12_law_82 : decode cX12_law 82 = .ok (.goto (-30), 3) := by decide +kernel
theorem dX12_law_85 : decode cX12_law 85 = .ok (.aload_n 0, 1) := by decide +kernel
theorem dX12_law_86 : decode cX12_law 86 = .ok (.getfield 13, 3) := by decide +kernel
theorem dX12_law_89 : decode cX12_law 89 = .ok (.iconst 3, 1) := by decide +kernel
theorem dX12_law_90 : decode cX12_law 90 = .ok (.iconst 1, 1) := by decide +kernel
theorem dX12_law_91 : decode cX12_law 91 = .ok (.iastore, 1) := by decide +kernel
theorem dX12_law_92 : decode cX12_law 92 = .ok (.aload_n 0, 1) := by decide +kernel
theorem dX12_law_93 : decode cX12_law 93 = .ok (.iconst 0, 1) := by decide +kernel
theorem dX12_law_94 : decode cX12_law 94 = .ok (.putfield 64, 3) := by decide +kernel
theorem dX12_law_97 : decode cX12_law 97 = .ok (.iload_n 1, 1) := by decide +kernel
theorem dX12_law_98 : decode cX12_law 98 = .ok (.ireturn, 1) := by decide +kernel
theorem dX12_seasonOf_0 : decode cX12_seasonOf 0 = .ok (.iload_n 0, 1) := by decide +kernel
theorem dX12_seasonOf_1 : decode cX12_seasonOf 1 = .ok (.bipush 13, 2) := by decide +kernel
theorem dX12_seasonOf_3 : decode cX12_seasonOf 3 = .ok (.idiv, 1) := by decide +kernel
theorem dX12_seasonOf_4 : decode cX12_seasonOf 4 = .ok (.iconst 4, 1) := by decide +kernel
theorem dX12_seasonOf_5 : decode cX12_seasonOf 5 = .ok (.irem, 1) := by decide +kernel
theorem dX12_seasonOf_6 : decode cX12_seasonOf 6 = .ok (.ireturn, 1) := by decide +kernel
theorem dX12_factOf_0 : decode cX12_factOf 0 = .ok (.iload_n 1, 1) := by decide +kernel
theorem dX12_factOf_1 : decode cX12_factOf 1 = .ok (.tableswitch 130 0 7 #[47, 52, 57, 82, 87, 95, 100, 113], 47) := by decide +kernel
theorem dX12_factOf_48 : decode cX12_factOf 48 = .ok (.aload_n 0, 1) := by decide +kernel
theorem dX12_factOf_49 : decode cX12_factOf 49 = .ok (.getfield 257, 3) := by decide +kernel
theorem dX12_factOf_52 : decode cX12_factOf 52 = .ok (.ireturn, 1) := by decide +kernel
theorem dX12_factOf_53 : decode cX12_factOf 53 = .ok (.aload_n 0, 1) := by decide +kernel
theorem dX12_factOf_54 : decode cX12_factOf 54 = .ok (.getfield 260, 3) := by decide +kernel
theorem dX12_factOf_57 : decode cX12_factOf 57 = .ok (.ireturn, 1) := by decide +kernel
theorem dX12_factOf_58 : decode cX12_factOf 58 = .ok (.aload_n 0, 1) := by decide +kernel
theorem dX12_factOf_59 : decode cX12_factOf 59 = .ok (.getfield 257, 3) := by decide +kernel
theorem dX12_factOf_62 : decode cX12_factOf 62 = .ok (.iconst 2, 1) := by decide +kernel
theorem dX12_factOf_63 : decode cX12_factOf 63 = .ok (.if_icmp .ge 8, 3) := by decide +kernel
theorem dX12_factOf_66 : decode cX12_factOf 66 = .ok (.bipush 12, 2) := by decide +kernel
theorem dX12_factOf_68 : decode cX12_factOf 68 = .ok (.goto 14, 3) := by decide +kernel
theorem dX12_factOf_71 : decode cX12_factOf 71 = .ok (.aload_n 0, 1) := by decide +kernel
theorem dX12_factOf_72 : decode cX12_factOf 72 = .ok (.getfield 42, 3) := by decide +kernel
theorem dX12_factOf_75 : decode cX12_factOf 75 = .ok (.aload_n 0, 1) := by decide +kernel
theorem dX12_factOf_76 : decode cX12_factOf 76 = .ok (.getfield 257, 3) := by decide +kernel
theorem dX12_factOf_79 : decode cX12_factOf 79 = .ok (.iconst 2, 1) := by decide +kernel
theorem dX12_factOf_80 : decode cX12_factOf 80 = .ok (.isub, 1) := by decide +kernel
theorem dX12_factOf_81 : decode cX12_factOf 81 = .ok (.iaload, 1) := by decide +kernel
theorem dX12_factOf_82 : decode cX12_factOf 82 = .ok (.ireturn, 1) := by decide +kernel
theorem dX12_factOf_83 : decode cX12_factOf 83 = .ok (.aload_n 0, 1) := by decide +kernel
theorem dX12_factOf_84 : decode cX12_factOf 84 = .ok (.getfield 262, 3) := by decide +kernel
theorem dX12_factOf_87 : decode cX12_factOf 87 = .ok (.ireturn, 1) := by decide +kernel
theorem dX12_factOf_88 : decode cX12_factOf 88 = .ok (.aload_n 0, 1) := by decide +kernel
theorem dX12_factOf_89 : decode cX12_factOf 89 = .ok (.getfield 262, 3) := by decide +kernel
theorem dX12_factOf_92 : decode cX12_factOf 92 = .ok (.invokestatic 264, 3) := by decide +kernel
theorem dX12_factOf_95 : decode cX12_factOf 95 = .ok (.ireturn, 1) := by decide +kernel
theorem dX12_factOf_96 : decode cX12_factOf 96 = .ok (.aload_n 0, 1) := by decide +kernel
theorem dX12_factOf_97 : decode cX12_factOf 97 = .ok (.getfield 267, 3) := by decide +kernel
theorem dX12_factOf_100 : decode cX12_factOf 100 = .ok (.ireturn, 1) := by decide +kernel
theorem dX12_factOf_101 : decode cX12_factOf 101 = .ok (.aload_n 0, 1) := by decide +kernel
theorem dX12_factOf_102 : decode cX12_factOf 102 = .ok (.getfield 269, 3) := by decide +kernel
theorem dX12_factOf_105 : decode cX12_factOf 105 = .ok (.ifCond .eq 7, 3) := by decide +kernel
theorem dX12_factOf_108 : decode cX12_factOf 108 = .ok (.iconst 1, 1) := by decide +kernel
theorem dX12_factOf_109 : decode cX12_factOf 109 = .ok (.goto 4, 3) := by decide +kernel
theorem dX12_factOf_112 : decode cX12_factOf 112 = .ok (.iconst 0, 1) := by decide +kernel
theorem dX12_factOf_113 : decode cX12_factOf 113 = .ok (.ireturn, 1) := by decide +kernel
theorem dX12_factOf_114 : decode cX12_factOf 114 = .ok (.aload_n 0, 1) := by decide +kernel
theorem dX12_factOf_115 : decode cX12_factOf 115 = .ok (.getfield 262, 3) := by decide +kernel
theorem dX12_factOf_118 : decode cX12_factOf 118 = .ok (.invokestatic 264, 3) := by decide +kernel
theorem dX12_factOf_121 : decode cX12_factOf 121 = .ok (.iconst 3, 1) := by decide +kernel
theorem dX12_factOf_122 : decode cX12_factOf 122 = .ok (.if_icmp .ne 7, 3) := by decide +kernel
theorem dX12_factOf_125 : decode cX12_factOf 125 = .ok (.iconst 1, 1) := by decide +kernel
theorem dX12_factOf_126 : decode cX12_factOf 126 = .ok (.goto 4, 3) := by decide +kernel
theorem dX12_factOf_129 : decode cX12_factOf 129 = .ok (.iconst 0, 1) := by decide +kernel
theorem dX12_factOf_130 : decode cX12_factOf 130 = .ok (.ireturn, 1) := by decide +kernel
theorem dX12_factOf_131 : decode cX12_factOf 131 = .ok (.iload_n 2, 1) := by decide +kernel
theorem dX12_factOf_132 : decode cX12_factOf 132 = .ok (.ireturn, 1) := by decide +kernel
theorem dX12_holdsLine_0 : decode cX12_holdsLine 0 = .ok (.iconst 0, 1) := by decide +kernel
theorem dX12_holdsLine_1 : decode cX12_holdsLine 1 = .ok (.istore_n 2, 1) := by decide +kernel
theorem dX12_holdsLine_2 : decode cX12_holdsLine 2 = .ok (.sipush 461, 3) := by decide +kernel
theorem dX12_holdsLine_5 : decode cX12_holdsLine 5 = .ok (.iconst 4, 1) := by decide +kernel
theorem dX12_holdsLine_6 : decode cX12_holdsLine 6 = .ok (.iload_n 1, 1) := by decide +kernel
theorem dX12_holdsLine_7 : decode cX12_holdsLine 7 = .ok (.imul, 1) := by decide +kernel
theorem dX12_holdsLine_8 : decode cX12_holdsLine 8 = .ok (.iadd, 1) := by decide +kernel
theorem dX12_holdsLine_9 : decode cX12_holdsLine 9 = .ok (.istore_n 3, 1) := by decide +kernel
theorem dX12_holdsLine_10 : decode cX12_holdsLine 10 = .ok (.aload_n 0, 1) := by decide +kernel
theorem dX12_holdsLine_11 : decode cX12_holdsLine 11 = .ok (.getfield 13, 3) := by decide +kernel
theorem dX12_holdsLine_14 : decode cX12_holdsLine 14 = .ok (.iload_n 3, 1) := by decide +kernel
theorem dX12_holdsLine_15 : decode cX12_holdsLine 15 = .ok (.iconst 2, 1) := by decide +kernel
theorem dX12_holdsLine_16 : decode cX12_holdsLine 16 = .ok (.iadd, 1) := by decide +kernel
theorem dX12_holdsLine_17 : decode cX12_holdsLine 17 = .ok (.iaload, 1) := by decide +kernel
theorem dX12_holdsLine_18 : decode cX12_holdsLine 18 = .ok (.istore 4, 2) := by decide +kernel
theorem dX12_holdsLine_20 : decode cX12_holdsLine 20 = .ok (.iload 4, 2) := by decide +kernel
theorem dX12_holdsLine_22 : decode cX12_holdsLine 22 = .ok (.aload_n 0, 1) := by decide +kernel
theorem dX12_holdsLine_23 : decode cX12_holdsLine 23 = .ok (.getfield 13, 3) := by decide +kernel
theorem dX12_holdsLine_26 : decode cX12_holdsLine 26 = .ok (.iload_n 3, 1) := by decide +kernel
theorem dX12_holdsLine_27 : decode cX12_holdsLine 27 = .ok (.iconst 3, 1) := by decide +kernel
theorem dX12_holdsLine_28 : decode cX12_holdsLine 28 = .ok (.iadd, 1) := by decide +kernel
theorem dX12_holdsLine_29 : decode cX12_holdsLine 29 = .ok (.iaload, 1) := by decide +kernel
theorem dX12_holdsLine_30 : decode cX12_holdsLine 30 = .ok (.if_icmp .ge 229, 3) := by decide +kernel
theorem dX12_holdsLine_33 : decode cX12_holdsLine 33 = .ok (.aload_n 0, 1) := by decide +kernel
theorem dX12_holdsLine_34 : decode cX12_holdsLine 34 = .ok (.getfield 13, 3) := by decide +kernel
theorem dX12_holdsLine_37 : decode cX12_holdsLine 37 = .ok (.sipush 509, 3) := by decide +kernel
theorem dX12_holdsLine_40 : decode cX12_holdsLine 40 = .ok (.iconst 2, 1) := by decide +kernel
theorem dX12_holdsLine_41 : decode cX12_holdsLine 41 = .ok (.iload 4, 2) := by decide +kernel
theorem dX12_holdsLine_43 : decode cX12_holdsLine 43 = .ok (.imul, 1) := by decide +kernel
theorem dX12_holdsLine_44 : decode cX12_holdsLine 44 = .ok (.iadd, 1) := by decide +kernel
theorem dX12_holdsLine_45 : decode cX12_holdsLine 45 = .ok (.iaload, 1) := by decide +kernel
theorem dX12_holdsLine_46 : decode cX12_holdsLine 46 = .ok (.istore 5, 2) := by decide +kernel
theorem dX12_holdsLine_48 : decode cX12_holdsLine 48 = .ok (.iload 5, 2) := by decide +kernel
theorem dX12_holdsLine_50 : decode cX12_holdsLine 50 = .ok (.bipush 8, 2) := by decide +kernel
theorem dX12_holdsLine_52 : decode cX12_holdsLine 52 = .ok (.if_icmp .gt 36, 3) := by decide +kernel
theorem dX12_holdsLine_55 : decode cX12_holdsLine 55 = .ok (.aload_n 0, 1) := by decide +kernel
theorem dX12_holdsLine_56 : decode cX12_holdsLine 56 = .ok (.getfield 39, 3) := by decide +kernel
theorem dX12_holdsLine_59 : decode cX12_holdsLine 59 = .ok (.iload_n 2, 1) := by decide +kernel
theorem dX12_holdsLine_60 : decode cX12_holdsLine 60 = .ok (.aload_n 0, 1) := by decide +kernel
theorem dX12_holdsLine_61 : decode cX12_holdsLine 61 = .ok (.iload 5, 2) := by decide +kernel
theorem dX12_holdsLine_63 : decode cX12_holdsLine 63 = .ok (.aload_n 0, 1) := by decide +kernel
theorem dX12_holdsLine_64 : decode cX12_holdsLine 64 = .ok (.getfield 13, 3) := by decide +kernel
theorem dX12_holdsLine_67 : decode cX12_holdsLine 67 = .ok (.sipush 509, 3) := by decide +kernel
theorem dX12_holdsLine_70 : decode cX12_holdsLine 70 = .ok (.iconst 2, 1) := by decide +kernel
theorem dX12_holdsLine_71 : decode cX12_holdsLine 71 = .ok (.iload 4, 2) := by decide +kernel
theorem dX12_holdsLine_73 : decode cX12_holdsLine 73 = .ok (.imul, 1) := by decide +kernel
theorem dX12_holdsLine_74 : decode cX12_holdsLine 74 = .ok (.iadd, 1) := by decide +kernel
theorem dX12_holdsLine_75 : decode cX12_holdsLine 75 = .ok (.iconst 1, 1) := by decide +kernel
theorem dX12_holdsLine_76 : decode cX12_holdsLine 76 = .ok (.iadd, 1) := by decide +kernel
theorem dX12_holdsLine_77 : decode cX12_holdsLine 77 = .ok (.iaload, 1) := by decide +kernel
theorem dX12_holdsLine_78 : decode cX12_holdsLine 78 = .ok (.invokevirtual 271, 3) := by decide +kernel
theorem dX12_holdsLine_81 : decode cX12_holdsLine 81 = .ok (.iastore, 1) := by decide +kernel
theorem dX12_holdsLine_82 : decode cX12_holdsLine 82 = .ok (.iinc 2 1, 3) := by decide +kernel
theorem dX12_holdsLine_85 : decode cX12_holdsLine 85 = .ok (.goto 168, 3) := by decide +kernel
theorem dX12_holdsLine_88 : decode cX12_holdsLine 88 = .ok (.iload 5, 2) := by decide +kernel
theorem dX12_holdsLine_90 : decode cX12_holdsLine 90 = .ok (.bipush 12, 2) := by decide +kernel
theorem dX12_holdsLine_92 : decode cX12_holdsLine 92 = .ok (.if_icmp .ne 24, 3) := by decide +kernel
theorem dX12_holdsLine_95 : decode cX12_holdsLine 95 = .ok (.aload_n 0, 1) := by decide +kernel
theorem dX12_holdsLine_96 : decode cX12_holdsLine 96 = .ok (.getfield 39, 3) := by decide +kernel
theorem dX12_holdsLine_99 : decode cX12_holdsLine 99 = .ok (.iload_n 2, 1) := by decide +kernel
theorem dX12_holdsLine_100 : decode cX12_holdsLine 100 = .ok (.iconst 1, 1) := by decide +kernel
theorem dX12_holdsLine_101 : decode cX12_holdsLine 101 = .ok (.isub, 1) := by decide +kernel
theorem dX12_holdsLine_102 : decode cX12_holdsLine 102 = .ok (.iconst 1, 1) := by decide +kernel
theorem dX12_holdsLine_103 : decode cX12_holdsLine 103 = .ok (.aload_n 0, 1) := by decide +kernel
theorem dX12_holdsLine_104 : decode cX12_holdsLine 104 = .ok (.getfield 39, 3) := by decide +kernel
theorem dX12_holdsLine_107 : decode cX12_holdsLine 107 = .ok (.iload_n 2, 1) := by decide +kernel
theorem dX12_holdsLine_108 : decode cX12_holdsLine 108 = .ok (.iconst 1, 1) := by decide +kernel
theorem dX12_holdsLine_109 : decode cX12_holdsLine 109 = .ok (.isub, 1) := by decide +kernel
theorem dX12_holdsLine_110 : decode cX12_holdsLine 110 = .ok (.iaload, 1) := by decide +kernel
theorem dX12_holdsLine_111 : decode cX12_holdsLine 111 = .ok (.isub, 1) := by decide +kernel
theorem dX12_holdsLine_112 : decode cX12_holdsLine 112 = .ok (.iastore, 1) := by decide +kernel
theorem dX12_holdsLine_113 : decode cX12_holdsLine 113 = .ok (.goto 140, 3) := by decide +kernel
theorem dX12_holdsLine_116 : decode cX12_holdsLine 116 = .ok (.iinc 2 (-1), 3) := by decide +kernel
theorem dX12_holdsLine_119 : decode cX12_holdsLine 119 = .ok (.aload_n 0, 1) := by decide +kernel
theorem dX12_holdsLine_120 : decode cX12_holdsLine 120 = .ok (.getfield 39, 3) := by decide +kernel
theorem dX12_holdsLine_123 : decode cX12_holdsLine 123 = .ok (.iload_n 2, 1) := by decide +kernel
theorem dX12_holdsLine_124 : decode cX12_holdsLine 124 = .ok (.iconst 1, 1) := by decide +kernel
theorem dX12_holdsLine_125 : decode cX12_holdsLine 125 = .ok (.isub, 1) := by decide +kernel
theorem dX12_holdsLine_126 : decode cX12_holdsLine 126 = .ok (.iaload, 1) := by decide +kernel
theorem dX12_holdsLine_127 : decode cX12_holdsLine 127 = .ok (.istore 6, 2) := by decide +kernel
theorem dX12_holdsLine_129 : decode cX12_holdsLine 129 = .ok (.aload_n 0, 1) := by decide +kernel
theorem dX12_holdsLine_130 : decode cX12_holdsLine 130 = .ok (.getfield 39, 3) := by decide +kernel
theorem dX12_holdsLine_133 : decode cX12_holdsLine 133 = .ok (.iload_n 2, 1) := by decide +kernel
theorem dX12_holdsLine_134 : decode cX12_holdsLine 134 = .ok (.iaload, 1) := by decide +kernel
theorem dX12_holdsLine_135 : decode cX12_holdsLine 135 = .ok (.istore 7, 2) := by decide +kernel
theorem dX12_holdsLine_137 : decode cX12_holdsLine 137 = .ok (.iload 5, 2) := by decide +kernel
theorem dX12_holdsLine_139 : decode cX12_holdsLine 139 = .ok (.bipush 10, 2) := by decide +kernel
theorem dX12_holdsLine_141 : decode cX12_holdsLine 141 = .ok (.if_icmp .ne 18, 3) := by decide +kernel
theorem dX12_holdsLine_144 : decode cX12_holdsLine 144 = .ok (.iload 6, 2) := by decide +kernel
theorem dX12_holdsLine_146 : decode cX12_holdsLine 146 = .ok (.iload 7, 2) := by decide +kernel
theorem dX12_holdsLine_148 : decode cX12_holdsLine 148 = .ok (.if_icmp .ge 7, 3) := by decide +kernel
theorem dX12_holdsLine_151 : decode cX12_holdsLine 151 = .ok (.iconst 1, 1) := by decide +kernel
theorem dX12_holdsLine_152 : decode cX12_holdsLine 152 = .ok (.goto 66, 3) := by decide +kernel
theorem dX12_holdsLine_155 : decode cX12_holdsLine 155 = .ok (.iconst 0, 1) := by decide +kernel
theorem dX12_holdsLine_156 : decode cX12_holdsLine 156 = .ok (.goto 62, 3) := by decide +kernel
theorem dX12_holdsLine_159 : decode cX12_holdsLine 159 = .ok (.iload 5, 2) := by decide +kernel
theorem dX12_holdsLine_161 : decode cX12_holdsLine 161 = .ok (.bipush 11, 2) := by decide +kernel
theorem dX12_holdsLine_163 : decode cX12_holdsLine 163 = .ok (.if_icmp .ne 18, 3) := by decide +kernel
theorem dX12_holdsLine_166 : decode cX12_holdsLine 166 = .ok (.iload 6, 2) := by decide +kernel
theorem dX12_holdsLine_168 : decode cX12_holdsLine 168 = .ok (.iload 7, 2) := by decide +kernel
theorem dX12_holdsLine_170 : decode cX12_holdsLine 170 = .ok (.if_icmp .le 7, 3) := by decide +kernel
theorem dX12_holdsLine_173 : decode cX12_holdsLine 173 = .ok (.iconst 1, 1) := by decide +kernel
theorem dX12_holdsLine_174 : decode cX12_holdsLine 174 = .ok (.goto 44, 3) := by decide +kernel
theorem dX12_holdsLine_177 : decode cX12_holdsLine 177 = .ok (.iconst 0, 1) := by decide +kernel
theorem dX12_holdsLine_178 : decode cX12_holdsLine 178 = .ok (.goto 40, 3) := by decide +kernel
theorem dX12_holdsLine_181 : decode cX12_holdsLine 181 = .ok (.iload 5, 2) := by decide +kernel
theorem dX12_holdsLine_183 : decode cX12_holdsLine 183 = .ok (.bipush 13, 2) := by decide +kernel
theorem dX12_holdsLine_185 : decode cX12_holdsLine 185 = .ok (.if_icmp .ne 20, 3) := by decide +kernel
theorem dX12_holdsLine_188 : decode cX12_holdsLine 188 = .ok (.iload 6, 2) := by decide +kernel
theorem dX12_holdsLine_190 : decode cX12_holdsLine 190 = .ok (.iload 7, 2) := by decide +kernel
theorem dX12_holdsLine_192 : decode cX12_holdsLine 192 = .ok (.iadd, 1) := by decide +kernel
theorem dX12_holdsLine_193 : decode cX12_holdsLine 193 = .ok (.iconst 2, 1) := by decide +kernel
theorem dX12_holdsLine_194 : decode cX12_holdsLine 194 = .ok (.if_icmp .ne 7, 3) := by decide +kernel
theorem dX12_holdsLine_197 : decode cX12_holdsLine 197 = .ok (.iconst 1, 1) := by decide +kernel
theorem dX12_holdsLine_198 : decode cX12_holdsLine 198 = .ok (.goto 20, 3) := by decide +kernel
theorem dX12_holdsLine_201 : decode cX12_holdsLine 201 = .ok (.iconst 0, 1) := by decide +kernel
theorem dX12_holdsLine_202 : decode cX12_holdsLine 202 = .ok (.goto 16, 3) := by decide +kernel
theorem dX12_holdsLine_205 : decode cX12_holdsLine 205 = .ok (.iload 6, 2) := by decide +kernel
theorem dX12_holdsLine_207 : decode cX12_holdsLine 207 = .ok (.iload 7, 2) := by decide +kernel
theorem dX12_holdsLine_209 : decode cX12_holdsLine 209 = .ok (.iadd, 1) := by decide +kernel
theorem dX12_holdsLine_210 : decode cX12_holdsLine 210 = .ok (.ifCond .le 7, 3) := by decide +kernel
theorem dX12_holdsLine_213 : decode cX12_holdsLine 213 = .ok (.iconst 1, 1) := by decide +kernel
theorem dX12_holdsLine_214 : decode cX12_holdsLine 214 = .ok (.goto 4, 3) := by decide +kernel
theorem dX12_holdsLine_217 : decode cX12_holdsLine 217 = .ok (.iconst 0, 1) := by decide +kernel
theorem dX12_holdsLine_218 : decode cX12_holdsLine 218 = .ok (.istore 8, 2) := by decide +kernel
theorem dX12_holdsLine_220 : decode cX12_holdsLine 220 = .ok (.aload_n 0, 1) := by decide +kernel
theorem dX12_holdsLine_221 : decode cX12_holdsLine 221 = .ok (.getfield 39, 3) := by decide +kernel
theorem dX12_holdsLine_224 : decode cX12_holdsLine 224 = .ok (.iload_n 2, 1) := by decide +kernel
theorem dX12_holdsLine_225 : decode cX12_holdsLine 225 = .ok (.iconst 1, 1) := by decide +kernel
theorem dX12_holdsLine_226 : decode cX12_holdsLine 226 = .ok (.isub, 1) := by decide +kernel
theorem dX12_holdsLine_227 : decode cX12_holdsLine 227 = .ok (.iload 5, 2) := by decide +kernel
theorem dX12_holdsLine_229 : decode cX12_holdsLine 229 = .ok (.bipush 9, 2) := by decide +kernel
theorem dX12_holdsLine_231 : decode cX12_holdsLine 231 = .ok (.if_icmp .ne 11, 3) := by decide +kernel
theorem dX12_holdsLine_234 : decode cX12_holdsLine 234 = .ok (.iload 6, 2) := by decide +kernel
theorem dX12_holdsLine_236 : decode cX12_holdsLine 236 = .ok (.iload 7, 2) := by decide +kernel
theorem dX12_holdsLine_238 : decode cX12_holdsLine 238 = .ok (.iadd, 1) := by decide +kernel
theorem dX12_holdsLine_239 : decode cX12_holdsLine 239 = .ok (.goto 13, 3) := by decide +kernel
theorem dX12_holdsLine_242 : decode cX12_holdsLine 242 = .ok (.iload 8, 2) := by decide +kernel
theorem dX12_holdsLine_244 : decode cX12_holdsLine 244 = .ok (.ifCond .eq 7, 3) := by decide +kernel
theorem dX12_holdsLine_247 : decode cX12_holdsLine 247 = .ok (.iconst 1, 1) := by decide +kernel
theorem dX12_holdsLine_248 : decode cX12_holdsLine 248 = .ok (.goto 4, 3) := by decide +kernel
theorem dX12_holdsLine_251 : decode cX12_holdsLine 251 = .ok (.iconst 0, 1) := by decide +kernel
theorem dX12_holdsLine_252 : decode cX12_holdsLine 252 = .ok (.iastore, 1) := by decide +kernel
theorem dX12_holdsLine_253 : decode cX12_holdsLine 253 = .ok (.iinc 4 1, 3) := by decide +kernel
theorem dX12_holdsLine_256 : decode cX12_holdsLine 256 = .ok (.goto (-236), 3) := by decide +kernel
theorem dX12_holdsLine_259 : decode cX12_holdsLine 259 = .ok (.iload_n 2, 1) := by decide +kernel
theorem dX12_holdsLine_260 : decode cX12_holdsLine 260 = .ok (.ifCond .eq 13, 3) := by decide +kernel
theorem dX12_holdsLine_263 : decode cX12_holdsLine 263 = .ok (.aload_n 0, 1) := by decide +kernel
theorem dX12_holdsLine_264 : decode cX12_holdsLine 264 = .ok (.getfield 39, 3) := by decide +kernel
theorem dX12_holdsLine_267 : decode cX12_holdsLine 267 = .ok (.iconst 0, 1) := by decide +kernel
theorem dX12_holdsLine_268 : decode cX12_holdsLine 268 = .ok (.iaload, 1) := by decide +kernel
theorem dX12_holdsLine_269 : decode cX12_holdsLine 269 = .ok (.iconst 1, 1) := by decide +kernel
theorem dX12_holdsLine_270 : decode cX12_holdsLine 270 = .ok (.if_icmp .ne 7, 3) := by decide +kernel
theorem dX12_holdsLine_273 : decode cX12_holdsLine 273 = .ok (.iconst 1, 1) := by decide +kernel
theorem dX12_holdsLine_274 : decode cX12_holdsLine 274 = .ok (.goto 4, 3) := by decide +kernel
theorem dX12_holdsLine_277 : decode cX12_holdsLine 277 = .ok (.iconst 0, 1) := by decide +kernel
theorem dX12_holdsLine_278 : decode cX12_holdsLine 278 = .ok (.ireturn, 1) := by decide +kernel
theorem dX12_lawLines_0 : decode cX12_lawLines 0 = .ok (.aload_n 0, 1) := by decide +kernel
theorem dX12_lawLines_1 : decode cX12_lawLines 1 = .ok (.getfield 13, 3) := by decide +kernel
theorem dX12_lawLines_4 : decode cX12_lawLines 4 = .ok (.iconst 3, 1) := by decide +kernel
theorem dX12_lawLines_5 : decode cX12_lawLines 5 = .ok (.iaload, 1) := by decide +kernel
theorem dX12_lawLines_6 : decode cX12_lawLines 6 = .ok (.iconst 1, 1) := by decide +kernel
theorem dX12_lawLines_7 : decode cX12_lawLines 7 = .ok (.if_icmp .ne 14, 3) := by decide +kernel
theorem dX12_lawLines_10 : decode cX12_lawLines 10 = .ok (.aload_n 0, 1) := by decide +kernel
theorem dX12_lawLines_11 : decode cX12_lawLines 11 = .ok (.getfield 13, 3) := by decide +kernel
theorem dX12_lawLines_14 : decode cX12_lawLines 14 = .ok (.sipush 460, 3) := by decide +kernel
theorem dX12_lawLines_17 : decode cX12_lawLines 17 = .ok (.iaload, 1) := by decide +kernel
theorem dX12_lawLines_18 : decode cX12_lawLines 18 = .ok (.goto 4, 3) := by decide +kernel
theorem dX12_lawLines_21 : decode cX12_lawLines 21 = .ok (.iconst 0, 1) := by decide +kernel
theorem dX12_lawLines_22 : decode cX12_lawLines 22 = .ok (.ireturn, 1) := by decide +kernel
theorem dX12_lawFrom_0 : decode cX12_lawFrom 0 = .ok (.aload_n 0, 1) := by decide +kernel
theorem dX12_lawFrom_1 : decode cX12_lawFrom 1 = .ok (.getfield 13, 3) := by decide +kernel
theorem dX12_lawFrom_4 : decode cX12_lawFrom 4 = .ok (.sipush 461, 3) := by decide +kernel
theorem dX12_lawFrom_7 : decode cX12_lawFrom 7 = .ok (.iconst 4, 1) := by decide +kernel
theorem dX12_lawFrom_8 : decode cX12_lawFrom 8 = .ok (.iload_n 1, 1) := by decide +kernel
theorem dX12_lawFrom_9 : decode cX12_lawFrom 9 = .ok (.imul, 1) := by decide +kernel
theorem dX12_lawFrom_10 : decode cX12_lawFrom 10 = .ok (.iadd, 1) := by decide +kernel
theorem dX12_lawFrom_11 : decode cX12_lawFrom 11 = .ok (.iaload, 1) := by decide +kernel
theorem dX12_lawFrom_12 : decode cX12_lawFrom 12 = .ok (.ireturn, 1) := by decide +kernel
theorem dX12_lawTo_0 : decode cX12_lawTo 0 = .ok (.aload_n 0, 1) := by decide +kernel
theorem dX12_lawTo_1 : decode cX12_lawTo 1 = .ok (.getfield 13, 3) := by decide +kernel
theorem dX12_lawTo_4 : decode cX12_lawTo 4 = .ok (.sipush 461, 3) := by decide +kernel
theorem dX12_lawTo_7 : decode cX12_lawTo 7 = .ok (.iconst 4, 1) := by decide +kernel
theorem dX12_lawTo_8 : decode cX12_lawTo 8 = .ok (.iload_n 1, 1) := by decide +kernel
theorem dX12_lawTo_9 : decode cX12_lawTo 9 = .ok (.imul, 1) := by decide +kernel
theorem dX12_lawTo_10 : decode cX12_lawTo 10 = .ok (.iadd, 1) := by decide +kernel
theorem dX12_lawTo_11 : decode cX12_lawTo 11 = .ok (.iconst 1, 1) := by decide +kernel
theorem dX12_lawTo_12 : decode cX12_lawTo 12 = .ok (.iadd, 1) := by decide +kernel
theorem dX12_lawTo_13 : decode cX12_lawTo 13 = .ok (.iaload, 1) := by decide +kernel
theorem dX12_lawTo_14 : decode cX12_lawTo 14 = .ok (.ireturn, 1) := by decide +kernel
theorem dX12_follows_0 : decode cX12_follows 0 = .ok (.iconst 0, 1) := by decide +kernel
theorem dX12_follows_1 : decode cX12_follows 1 = .ok (.istore_n 1, 1) := by decide +kernel
theorem dX12_follows_2 : decode cX12_follows 2 = .ok (.iload_n 1, 1) := by decide +kernel
theorem dX12_follows_3 : decode cX12_follows 3 = .ok (.aload_n 0, 1) := by decide +kernel
theorem dX12_follows_4 : decode cX12_follows 4 = .ok (.invokevirtual 274, 3) := by decide +kernel
theorem dX12_follows_7 : decode cX12_follows 7 = .ok (.if_icmp .ge 42, 3) := by decide +kernel
theorem dX12_follows_10 : decode cX12_follows 10 = .ok (.aload_n 0, 1) := by decide +kernel
theorem dX12_follows_11 : decode cX12_follows 11 = .ok (.iload_n 1, 1) := by decide +kernel
theorem dX12_follows_12 : decode cX12_follows 12 = .ok (.invokevirtual 277, 3) := by decide +kernel
theorem dX12_follows_15 : decode cX12_follows 15 = .ok (.aload_n 0, 1) := by decide +kernel
theorem dX12_follows_16 : decode cX12_follows 16 = .ok (.getfield 42, 3) := by decide +kernel
theorem dX12_follows_19 : decode cX12_follows 19 = .ok (.aload_n 0, 1) := by decide +kernel
theorem dX12_follows_20 : decode cX12_follows 20 = .ok (.getfield 257, 3) := by decide +kernel
theorem dX12_follows_23 : decode cX12_follows 23 = .ok (.iconst 1, 1) := by decide +kernel
theorem dX12_follows_24 : decode cX12_follows 24 = .ok (.isub, 1) := by decide +kernel
theorem dX12_follows_25 : decode cX12_follows 25 = .ok (.iaload, 1) := by decide +kernel
theorem dX12_follows_26 : decode cX12_follows 26 = .ok (.if_icmp .ne 17, 3) := by decide +kernel
theorem dX12_follows_29 : decode cX12_follows 29 = .ok (.aload_n 0, 1) := by decide +kernel
theorem dX12_follows_30 : decode cX12_follows 30 = .ok (.iload_n 1, 1) := by decide +kernel
theorem dX12_follows_31 : decode cX12_follows 31 = .ok (.invokevirtual 280, 3) := by decide +kernel
theorem dX12_follows_34 : decode cX12_follows 34 = .ok (.ifCond .eq 9, 3) := by decide +kernel
theorem dX12_follows_37 : decode cX12_follows 37 = .ok (.aload_n 0, 1) := by decide +kernel
theorem dX12_follows_38 : decode cX12_follows 38 = .ok (.iload_n 1, 1) := by decide +kernel
theorem dX12_follows_39 : decode cX12_follows 39 = .ok (.invokevirtual 283, 3) := by decide +kernel
theorem dX12_follows_42 : decode cX12_follows 42 = .ok (.ireturn, 1) := by decide +kernel
theorem dX12_follows_43 : decode cX12_follows 43 = .ok (.iinc 1 1, 3) := by decide +kernel
theorem dX12_follows_46 : decode cX12_follows 46 = .ok (.goto (-44), 3) := by decide +kernel
theorem dX12_follows_49 : decode cX12_follows 49 = .ok (.iconst (-1), 1) := by decide +kernel
theorem dX12_follows_50 : decode cX12_follows 50 = .ok (.ireturn, 1) := by decide +kernel
theorem dX12_looksAt_0 : decode cX12_looksAt 0 = .ok (.aload_n 0, 1) := by decide +kernel
theorem dX12_looksAt_1 : decode cX12_looksAt 1 = .ok (.aload_n 0, 1) := by decide +kernel
theorem dX12_looksAt_2 : decode cX12_looksAt 2 = .ok (.iload_n 1, 1) := by decide +kernel
theorem dX12_looksAt_3 : decode cX12_looksAt 3 = .ok (.invokevirtual 86, 3) := by decide +kernel
theorem dX12_looksAt_6 : decode cX12_looksAt 6 = .ok (.putfield 257, 3) := by decide +kernel
theorem dX12_looksAt_9 : decode cX12_looksAt 9 = .ok (.iconst 0, 1) := by decide +kernel
theorem dX12_looksAt_10 : decode cX12_looksAt 10 = .ok (.istore_n 2, 1) := by decide +kernel
theorem dX12_looksAt_11 : decode cX12_looksAt 11 = .ok (.iload_n 2, 1) := by decide +kernel
theorem dX12_looksAt_12 : decode cX12_looksAt 12 = .ok (.aload_n 0, 1) := by decide +kernel
theorem dX12_looksAt_13 : decode cX12_looksAt 13 = .ok (.getfield 257, 3) := by decide +kernel
theorem dX12_looksAt_16 : decode cX12_looksAt 16 = .ok (.if_icmp .ge 21, 3) := by decide +kernel
theorem dX12_looksAt_19 : decode cX12_looksAt 19 = .ok (.aload_n 0, 1) := by decide +kernel
theorem dX12_looksAt_20 : decode cX12_looksAt 20 = .ok (.getfield 42, 3) := by decide +kernel
theorem dX12_looksAt_23 : decode cX12_looksAt 23 = .ok (.iload_n 2, 1) := by decide +kernel
theorem dX12_looksAt_24 : decode cX12_looksAt 24 = .ok (.aload_n 0, 1) := by decide +kernel
theorem dX12_looksAt_25 : decode cX12_looksAt 25 = .ok (.iload_n 1, 1) := by decide +kernel
theorem dX12_looksAt_26 : decode cX12_looksAt 26 = .ok (.iload_n 2, 1) := by decide +kernel
theorem dX12_looksAt_27 : decode cX12_looksAt 27 = .ok (.invokevirtual 286, 3) := by decide +kernel
theorem dX12_looksAt_30 : decode cX12_looksAt 30 = .ok (.iastore, 1) := by decide +kernel
theorem dX12_looksAt_31 : decode cX12_looksAt 31 = .ok (.iinc 2 1, 3) := by decide +kernel
theorem dX12_looksAt_34 : decode cX12_looksAt 34 = .ok (.goto (-23), 3) := by decide +kernel
theorem dX12_looksAt_37 : decode cX12_looksAt 37 = .ok (.aload_n 0, 1) := by decide +kernel
theorem dX12_looksAt_38 : decode cX12_looksAt 38 = .ok (.aload_n 0, 1) := by decide +kernel
theorem dX12_looksAt_39 : decode cX12_looksAt 39 = .ok (.iload_n 1, 1) := by decide +kernel
theorem dX12_looksAt_40 : decode cX12_looksAt 40 = .ok (.iconst 1, 1) := by decide +kernel
theorem dX12_looksAt_41 : decode cX12_looksAt 41 = .ok (.invokevirtual 71, 3) := by decide +kernel
theorem dX12_looksAt_44 : decode cX12_looksAt 44 = .ok (.putfield 260, 3) := by decide +kernel
theorem dX12_looksAt_47 : decode cX12_looksAt 47 = .ok (.aload_n 0, 1) := by decide +kernel
theorem dX12_looksAt_48 : decode cX12_looksAt 48 = .ok (.aload_n 0, 1) := by decide +kernel
theorem dX12_looksAt_49 : decode cX12_looksAt 49 = .ok (.iload_n 1, 1) := by decide +kernel
theorem dX12_looksAt_50 : decode cX12_looksAt 50 = .ok (.iconst 2, 1) := by decide +kernel
theorem dX12_looksAt_51 : decode cX12_looksAt 51 = .ok (.invokevirtual 71, 3) := by decide +kernel
theorem dX12_looksAt_54 : decode cX12_looksAt 54 = .ok (.putfield 267, 3) := by decide +kernel
theorem dX12_looksAt_57 : decode cX12_looksAt 57 = .ok (.aload_n 0, 1) := by decide +kernel
theorem dX12_looksAt_58 : decode cX12_looksAt 58 = .ok (.aload_n 0, 1) := by decide +kernel
theorem dX12_looksAt_59 : decode cX12_looksAt 59 = .ok (.iload_n 1, 1) := by decide +kernel
theorem dX12_looksAt_60 : decode cX12_looksAt 60 = .ok (.invokevirtual 289, 3) := by decide +kernel
theorem dX12_looksAt_63 : decode cX12_looksAt 63 = .ok (.putfield 292, 3) := by decide +kernel
theorem dX12_looksAt_66 : decode cX12_looksAt 66 = .ok (.aload_n 0, 1) := by decide +kernel
theorem dX12_looksAt_67 : decode cX12_looksAt 67 = .ok (.aload_n 0, 1) := by decide +kernel
theorem dX12_looksAt_68 : decode cX12_looksAt 68 = .ok (.iload_n 1, 1) := by decide +kernel
theorem dX12_looksAt_69 : decode cX12_looksAt 69 = .ok (.iconst 4, 1) := by decide +kernel
theorem dX12_looksAt_70 : decode cX12_looksAt 70 = .ok (.invokevirtual 71, 3) := by decide +kernel
theorem dX12_looksAt_73 : decode cX12_looksAt 73 = .ok (.iconst 1, 1) := by decide +kernel
theorem dX12_looksAt_74 : decode cX12_looksAt 74 = .ok (.if_icmp .ne 7, 3) := by decide +kernel
theorem dX12_looksAt_77 : decode cX12_looksAt 77 = .ok (.iconst 1, 1) := by decide +kernel
theorem dX12_looksAt_78 : decode cX12_looksAt 78 = .ok (.goto 4, 3) := by decide +kernel
theorem dX12_looksAt_81 : decode cX12_looksAt 81 = .ok (.iconst 0, 1) := by decide +kernel
theorem dX12_looksAt_82 : decode cX12_looksAt 82 = .ok (.putfield 269, 3) := by decide +kernel
theorem dX12_looksAt_85 : decode cX12_looksAt 85 = .ok (.aload_n 0, 1) := by decide +kernel
theorem dX12_looksAt_86 : decode cX12_looksAt 86 = .ok (.aload_n 0, 1) := by decide +kernel
theorem dX12_looksAt_87 : decode cX12_looksAt 87 = .ok (.getfield 13, 3) := by decide +kernel
theorem dX12_looksAt_90 : decode cX12_looksAt 90 = .ok (.iconst 4, 1) := by decide +kernel
theorem dX12_looksAt_91 : decode cX12_looksAt 91 = .ok (.iaload, 1) := by decide +kernel
theorem dX12_looksAt_92 : decode cX12_looksAt 92 = .ok (.putfield 262, 3) := by decide +kernel
theorem dX12_looksAt_95 : decode cX12_looksAt 95 = .ok (.return_, 1) := by decide +kernel
theorem dX12_canGrow_0 : decode cX12_canGrow 0 = .ok (.aload_n 0, 1) := by decide +kernel
theorem dX12_canGrow_1 : decode cX12_canGrow 1 = .ok (.getfield 292, 3) := by decide +kernel
theorem dX12_canGrow_4 : decode cX12_canGrow 4 = .ok (.ifCond .ne 23, 3) := by decide +kernel
theorem dX12_canGrow_7 : decode cX12_canGrow 7 = .ok (.aload_n 0, 1) := by decide +kernel
theorem dX12_canGrow_8 : decode cX12_canGrow 8 = .ok (.getfield 257, 3) := by decide +kernel
theorem dX12_canGrow_11 : decode cX12_canGrow 11 = .ok (.bipush 24, 2) := by decide +kernel
theorem dX12_canGrow_13 : decode cX12_canGrow 13 = .ok (.if_icmp .ge 14, 3) := by decide +kernel
theorem dX12_canGrow_16 : decode cX12_canGrow 16 = .ok (.aload_n 0, 1) := by decide +kernel
theorem dX12_canGrow_17 : decode cX12_canGrow 17 = .ok (.invokevirtual 294, 3) := by decide +kernel
theorem dX12_canGrow_20 : decode cX12_canGrow 20 = .ok (.ifCond .lt 7, 3) := by decide +kernel
theorem dX12_canGrow_23 : decode cX12_canGrow 23 = .ok (.iconst 1, 1) := by decide +kernel
theorem dX12_canGrow_24 : decode cX12_canGrow 24 = .ok (.goto 4, 3) := by decide +kernel
theorem dX12_canGrow_27 : decode cX12_canGrow 27 = .ok (.iconst 0, 1) := by decide +kernel
theorem dX12_canGrow_28 : decode cX12_canGrow 28 = .ok (.ireturn, 1) := by decide +kernel
theorem dX12_growsOnce_0 : decode cX12_growsOnce 0 = .ok (.aload_n 0, 1) := by decide +kernel
theorem dX12_growsOnce_1 : decode cX12_growsOnce 1 = .ok (.invokevirtual 297, 3) := by decide +kernel
theorem dX12_growsOnce_4 : decode cX12_growsOnce 4 = .ok (.ifCond .ne 4, 3) := by decide +kernel
theorem dX12_growsOnce_7 : decode cX12_growsOnce 7 = .ok (.return_, 1) := by decide +kernel
theorem dX12_growsOnce_8 : decode cX12_growsOnce 8 = .ok (.aload_n 0, 1) := by decide +kernel
theorem dX12_growsOnce_9 : decode cX12_growsOnce 9 = .ok (.getfield 42, 3) := by decide +kernel
theorem dX12_growsOnce_12 : decode cX12_growsOnce 12 = .ok (.aload_n 0, 1) := by decide +kernel
theorem dX12_growsOnce_13 : decode cX12_growsOnce 13 = .ok (.getfield 257, 3) := by decide +kernel
theorem dX12_growsOnce_16 : decode cX12_growsOnce 16 = .ok (.aload_n 0, 1) := by decide +kernel
theorem dX12_growsOnce_17 : decode cX12_growsOnce 17 = .ok (.invokevirtual 294, 3) := by decide +kernel
theorem dX12_growsOnce_20 : decode cX12_growsOnce 20 = .ok (.iastore, 1) := by decide +kernel
theorem dX12_growsOnce_21 : decode cX12_growsOnce 21 = .ok (.aload_n 0, 1) := by decide +kernel
theorem dX12_growsOnce_22 : decode cX12_growsOnce 22 = .ok (.dup, 1) := by decide +kernel
theorem dX12_growsOnce_23 : decode cX12_growsOnce 23 = .ok (.getfield 257, 3) := by decide +kernel
theorem dX12_growsOnce_26 : decode cX12_growsOnce 26 = .ok (.iconst 1, 1) := by decide +kernel
theorem dX12_growsOnce_27 : decode cX12_growsOnce 27 = .ok (.iadd, 1) := by decide +kernel
theorem dX12_growsOnce_28 : decode cX12_growsOnce 28 = .ok (.putfield 257, 3) := by decide +kernel
theorem dX12_growsOnce_31 : decode cX12_growsOnce 31 = .ok (.return_, 1) := by decide +kernel
theorem dX12_goesOn_0 : decode cX12_goesOn 0 = .ok (.aload_n 0, 1) := by decide +kernel
theorem dX12_goesOn_1 : decode cX12_goesOn 1 = .ok (.invokevirtual 300, 3) := by decide +kernel
theorem dX12_goesOn_4 : decode cX12_goesOn 4 = .ok (.aload_n 0, 1) := by decide +kernel
theorem dX12_goesOn_5 : decode cX12_goesOn 5 = .ok (.getfield 269, 3) := by decide +kernel
theorem dX12_goesOn_8 : decode cX12_goesOn 8 = .ok (.ifCond .eq 7, 3) := by decide +kernel
theorem dX12_goesOn_11 : decode cX12_goesOn 11 = .ok (.aload_n 0, 1) := by decide +kernel
theorem dX12_goesOn_12 : decode cX12_goesOn 12 = .ok (.invokevirtual 300, 3) := by decide +kernel
theorem dX12_goesOn_15 : decode cX12_goesOn 15 = .ok (.aload_n 0, 1) := by decide +kernel
theorem dX12_goesOn_16 : decode cX12_goesOn 16 = .ok (.sipush 9999, 3) := by decide +kernel
theorem dX12_goesOn_19 : decode cX12_goesOn 19 = .ok (.aload_n 0, 1) := by decide +kernel
theorem dX12_goesOn_20 : decode cX12_goesOn 20 = .ok (.getfield 262, 3) := by decide +kernel
theorem dX12_goesOn_23 : decode cX12_goesOn 23 = .ok (.iconst 1, 1) := by decide +kernel
theorem dX12_goesOn_24 : decode cX12_goesOn 24 = .ok (.iadd, 1) := by decide +kernel
theorem dX12_goesOn_25 : decode cX12_goesOn 25 = .ok (.invokestatic 303, 3) := by decide +kernel
theorem dX12_goesOn_28 : decode cX12_goesOn 28 = .ok (.putfield 262, 3) := by decide +kernel
theorem dX12_goesOn_31 : decode cX12_goesOn 31 = .ok (.return_, 1) := by decide +kernel
theorem dX12_goesFor_0 : decode cX12_goesFor 0 = .ok (.iconst 0, 1) := by decide +kernel
theorem dX12_goesFor_1 : decode cX12_goesFor 1 = .ok (.istore_n 2, 1) := by decide +kernel
theorem dX12_goesFor_2 : decode cX12_goesFor 2 = .ok (.iload_n 2, 1) := by decide +kernel
theorem dX12_goesFor_3 : decode cX12_goesFor 3 = .ok (.iload_n 1, 1) := by decide +kernel
theorem dX12_goesFor_4 : decode cX12_goesFor 4 = .ok (.if_icmp .ge 13, 3) := by decide +kernel
theorem dX12_goesFor_7 : decode cX12_goesFor 7 = .ok (.aload_n 0, 1) := by decide +kernel
theorem dX12_goesFor_8 : decode cX12_goesFor 8 = .ok (.invokevirtual 308, 3) := by decide +kernel
theorem dX12_goesFor_11 : decode cX12_goesFor 11 = .ok (.iinc 2 1, 3) := by decide +kernel
theorem dX12_goesFor_14 : decode cX12_goesFor 14 = .ok (.goto (-12), 3) := by decide +kernel
theorem dX12_goesFor_17 : decode cX12_goesFor 17 = .ok (.return_, 1) := by decide +kernel
theorem dX12_looksAhead_0 : decode cX12_looksAhead 0 = .ok (.aload_n 0, 1) := by decide +kernel
theorem dX12_looksAhead_1 : decode cX12_looksAhead 1 = .ok (.iload_n 1, 1) := by decide +kernel
theorem dX12_looksAhead_2 : decode cX12_looksAhead 2 = .ok (.invokevirtual 311, 3) := by decide +kernel
theorem dX12_looksAhead_5 : decode cX12_looksAhead 5 = .ok (.aload_n 0, 1) := by decide +kernel
theorem dX12_looksAhead_6 : decode cX12_looksAhead 6 = .ok (.iload_n 2, 1) := by decide +kernel
theorem dX12_looksAhead_7 : decode cX12_looksAhead 7 = .ok (.invokevirtual 315, 3) := by decide +kernel
theorem dX12_looksAhead_10 : decode cX12_looksAhead 10 = .ok (.return_, 1) := by decide +kernel
theorem dX12_last_0 : decode cX12_last 0 = .ok (.aload_n 0, 1) := by decide +kernel
theorem dX12_last_1 : decode cX12_last 1 = .ok (.getfield 42, 3) := by decide +kernel
theorem dX12_last_4 : decode cX12_last 4 = .ok (.aload_n 0, 1) := by decide +kernel
theorem dX12_last_5 : decode cX12_last 5 = .ok (.getfield 257, 3) := by decide +kernel
theorem dX12_last_8 : decode cX12_last 8 = .ok (.iconst 1, 1) := by decide +kernel
theorem dX12_last_9 : decode cX12_last 9 = .ok (.isub, 1) := by decide +kernel
theorem dX12_last_10 : decode cX12_last 10 = .ok (.iaload, 1) := by decide +kernel
theorem dX12_last_11 : decode cX12_last 11 = .ok (.ireturn, 1) := by decide +kernel
theorem dX12_wordsNow_0 : decode cX12_wordsNow 0 = .ok (.iconst 0, 1) := by decide +kernel
theorem dX12_wordsNow_1 : decode cX12_wordsNow 1 = .ok (.istore_n 1, 1) := by decide +kernel
theorem dX12_wordsNow_2 : decode cX12_wordsNow 2 = .ok (.iconst 0, 1) := by decide +kernel
theorem dX12_wordsNow_3 : decode cX12_wordsNow 3 = .ok (.istore_n 2, 1) := by decide +kernel
theorem dX12_wordsNow_4 : decode cX12_wordsNow 4 = .ok (.iload_n 2, 1) := by decide +kernel
theorem dX12_wordsNow_5 : decode cX12_wordsNow 5 = .ok (.aload_n 0, 1) := by decide +kernel
theorem dX12_wordsNow_6 : decode cX12_wordsNow 6 = .ok (.getfield 257, 3) := by decide +kernel
theorem dX12_wordsNow_9 : decode cX12_wordsNow 9 = .ok (.if_icmp .ge 26, 3) := by decide +kernel
theorem dX12_wordsNow_12 : decode cX12_wordsNow 12 = .ok (.iload_n 1, 1) := by decide +kernel
theorem dX12_wordsNow_13 : decode cX12_wordsNow 13 = .ok (.aload_n 0, 1) := by decide +kernel
theorem dX12_wordsNow_14 : decode cX12_wordsNow 14 = .ok (.getfield 13, 3) := by decide +kernel
theorem dX12_wordsNow_17 : decode cX12_wordsNow 17 = .ok (.bipush 8, 2) := by decide +kernel
theorem dX12_wordsNow_19 : decode cX12_wordsNow 19 = .ok (.aload_n 0, 1) := by decide +kernel
theorem dX12_wordsNow_20 : decode cX12_wordsNow 20 = .ok (.getfield 42, 3) := by decide +kernel
theorem dX12_wordsNow_23 : decode cX12_wordsNow 23 = .ok (.iload_n 2, 1) := by decide +kernel
theorem dX12_wordsNow_24 : decode cX12_wordsNow 24 = .ok (.iaload, 1) := by decide +kernel
theorem dX12_wordsNow_25 : decode cX12_wordsNow 25 = .ok (.iadd, 1) := by decide +kernel
theorem dX12_wordsNow_26 : decode cX12_wordsNow 26 = .ok (.iaload, 1) := by decide +kernel
theorem dX12_wordsNow_27 : decode cX12_wordsNow 27 = .ok (.iadd, 1) := by decide +kernel
theorem dX12_wordsNow_28 : decode cX12_wordsNow 28 = .ok (.istore_n 1, 1) := by decide +kernel
theorem dX12_wordsNow_29 : decode cX12_wordsNow 29 = .ok (.iinc 2 1, 3) := by decide +kernel
theorem dX12_wordsNow_32 : decode cX12_wordsNow 32 = .ok (.goto (-28), 3) := by decide +kernel
theorem dX12_wordsNow_35 : decode cX12_wordsNow 35 = .ok (.iload_n 1, 1) := by decide +kernel
theorem dX12_wordsNow_36 : decode cX12_wordsNow 36 = .ok (.ireturn, 1) := by decide +kernel
theorem dX12_letter_0 : decode cX12_letter 0 = .ok (.aload_n 0, 1) := by decide +kernel
theorem dX12_letter_1 : decode cX12_letter 1 = .ok (.iconst 0, 1) := by decide +kernel
theorem dX12_letter_2 : decode cX12_letter 2 = .ok (.putfield 3, 3) := by decide +kernel
theorem dX12_letter_5 : decode cX12_letter 5 = .ok (.aload_n 0, 1) := by decide +kernel
theorem dX12_letter_6 : decode cX12_letter 6 = .ok (.aload_n 0, 1) := by decide +kernel
theorem dX12_letter_7 : decode cX12_letter 7 = .ok (.iload_n 1, 1) := by decide +kernel
theorem dX12_letter_8 : decode cX12_letter 8 = .ok (.invokevirtual 82, 3) := by decide +kernel
theorem dX12_letter_11 : decode cX12_letter 11 = .ok (.iconst 1, 1) := by decide +kernel
theorem dX12_letter_12 : decode cX12_letter 12 = .ok (.invokevirtual 254, 3) := by decide +kernel
theorem dX12_letter_15 : decode cX12_letter 15 = .ok (.ifCond .ne 26, 3) := by decide +kernel
theorem dX12_letter_18 : decode cX12_letter 18 = .ok (.aload_n 0, 1) := by decide +kernel
theorem dX12_letter_19 : decode cX12_letter 19 = .ok (.iload_n 2, 1) := by decide +kernel
theorem dX12_letter_20 : decode cX12_letter 20 = .ok (.iconst 0, 1) := by decide +kernel
theorem dX12_letter_21 : decode cX12_letter 21 = .ok (.bipush 7, 2) := by decide +kernel
theorem dX12_letter_23 : decode cX12_letter 23 = .ok (.invokestatic 78, 3) := by decide +kernel
theorem dX12_letter_26 : decode cX12_letter 26 = .ok (.ifCond .ne 7, 3) := by decide +kernel
theorem dX12_letter_29 : decode cX12_letter 29 = .ok (.iconst 1, 1) := by decide +kernel
theorem dX12_letter_30 : decode cX12_letter 30 = .ok (.goto 4, 3) := by decide +kernel
theorem dX12_letter_33 : decode cX12_letter 33 = .ok (.iconst 0, 1) := by decide +kernel
theorem dX12_letter_34 : decode cX12_letter 34 = .ok (.iconst 2, 1) := by decide +kernel
theorem dX12_letter_35 : decode cX12_letter 35 = .ok (.invokevirtual 254, 3) := by decide +kernel
theorem dX12_letter_38 : decode cX12_letter 38 = .ok (.ifCond .eq 5, 3) := by decide +kernel
theorem dX12_letter_41 : decode cX12_letter 41 = .ok (.iconst 0, 1) := by decide +kernel
theorem dX12_letter_42 : decode cX12_letter 42 = .ok (.ireturn, 1) := by decide +kernel
theorem dX12_letter_43 : decode cX12_letter 43 = .ok (.aload_n 0, 1) := by decide +kernel
theorem dX12_letter_44 : decode cX12_letter 44 = .ok (.iload_n 1, 1) := by decide +kernel
theorem dX12_letter_45 : decode cX12_letter 45 = .ok (.invokevirtual 311, 3) := by decide +kernel
theorem dX12_letter_48 : decode cX12_letter 48 = .ok (.iload_n 2, 1) := by decide +kernel
theorem dX12_letter_49 : decode cX12_letter 49 = .ok (.tableswitch 53 5 7 #[27, 32, 37], 27) := by decide +kernel
theorem dX12_letter_76 : decode cX12_letter 76 = .ok (.aload_n 0, 1) := by decide +kernel
theorem dX12_letter_77 : decode cX12_letter 77 = .ok (.invokevirtual 318, 3) := by decide +kernel
theorem dX12_letter_80 : decode cX12_letter 80 = .ok (.ireturn, 1) := by decide +kernel
theorem dX12_letter_81 : decode cX12_letter 81 = .ok (.aload_n 0, 1) := by decide +kernel
theorem dX12_letter_82 : decode cX12_letter 82 = .ok (.invokevirtual 321, 3) := by decide +kernel
theorem dX12_letter_85 : decode cX12_letter 85 = .ok (.ireturn, 1) := by decide +kernel
theorem dX12_letter_86 : decode cX12_letter 86 = .ok (.aload_n 0, 1) := by decide +kernel
theorem dX12_letter_87 : decode cX12_letter 87 = .ok (.invokevirtual 297, 3) := by decide +kernel
theorem dX12_letter_90 : decode cX12_letter 90 = .ok (.ifCond .eq 10, 3) := by decide +kernel
theorem dX12_letter_93 : decode cX12_letter 93 = .ok (.aload_n 0, 1) := by decide +kernel
theorem dX12_letter_94 : decode cX12_letter 94 = .ok (.invokevirtual 294, 3) := by decide +kernel
theorem dX12_letter_97 : decode cX12_letter 97 = .ok (.goto 4, 3) := by decide +kernel
theorem dX12_letter_100 : decode cX12_letter 100 = .ok (.iconst (-1), 1) := by decide +kernel
theorem dX12_letter_101 : decode cX12_letter 101 = .ok (.ireturn, 1) := by decide +kernel
theorem dX12_letter_102 : decode cX12_letter 102 = .ok (.aload_n 0, 1) := by decide +kernel
theorem dX12_letter_103 : decode cX12_letter 103 = .ok (.iload_n 1, 1) := by decide +kernel
theorem dX12_letter_104 : decode cX12_letter 104 = .ok (.iload_n 2, 1) := by decide +kernel
theorem dX12_letter_105 : decode cX12_letter 105 = .ok (.invokevirtual 71, 3) := by decide +kernel
theorem dX12_letter_108 : decode cX12_letter 108 = .ok (.ireturn, 1) := by decide +kernel
theorem dX12_line_0 : decode cX12_line 0 = .ok (.aload_n 0, 1) := by decide +kernel
theorem dX12_line_1 : decode cX12_line 1 = .ok (.iconst 0, 1) := by decide +kernel
theorem dX12_line_2 : decode cX12_line 2 = .ok (.putfield 3, 3) := by decide +kernel
theorem dX12_line_5 : decode cX12_line 5 = .ok (.aload_n 0, 1) := by decide +kernel
theorem dX12_line_6 : decode cX12_line 6 = .ok (.aload_n 0, 1) := by decide +kernel
theorem dX12_line_7 : decode cX12_line 7 = .ok (.iload_n 1, 1) := by decide +kernel
theorem dX12_line_8 : decode cX12_line 8 = .ok (.iload_n 2, 1) := by decide +kernel
theorem dX12_line_9 : decode cX12_line 9 = .ok (.invokevirtual 324, 3) := by decide +kernel
theorem dX12_line_12 : decode cX12_line 12 = .ok (.iconst 1, 1) := by decide +kernel
theorem dX12_line_13 : decode cX12_line 13 = .ok (.invokevirtual 254, 3) := by decide +kernel
theorem dX12_line_16 : decode cX12_line 16 = .ok (.ifCond .eq 7, 3) := by decide +kernel
theorem dX12_line_19 : decode cX12_line 19 = .ok (.iconst 0, 1) := by decide +kernel
theorem dX12_line_20 : decode cX12_line 20 = .ok (.goto 20, 3) := by decide +kernel
theorem dX12_line_23 : decode cX12_line 23 = .ok (.aload_n 0, 1) := by decide +kernel
theorem dX12_line_24 : decode cX12_line 24 = .ok (.iload_n 1, 1) := by decide +kernel
theorem dX12_line_25 : decode cX12_line 25 = .ok (.iload_n 3, 1) := by decide +kernel
theorem dX12_line_26 : decode cX12_line 26 = .ok (.ifCond .eq 8, 3) := by decide +kernel
theorem dX12_line_29 : decode cX12_line 29 = .ok (.bipush 29, 2) := by decide +kernel
theorem dX12_line_31 : decode cX12_line 31 = .ok (.goto 4, 3) := by decide +kernel
theorem dX12_line_34 : decode cX12_line 34 = .ok (.iconst 5, 1) := by decide +kernel
theorem dX12_line_35 : decode cX12_line 35 = .ok (.iload_n 2, 1) := by decide +kernel
theorem dX12_line_36 : decode cX12_line 36 = .ok (.iadd, 1) := by decide +kernel
theorem dX12_line_37 : decode cX12_line 37 = .ok (.invokevirtual 71, 3) := by decide +kernel
theorem dX12_line_40 : decode cX12_line 40 = .ok (.ireturn, 1) := by decide +kernel
theorem dX12_words_0 : decode cX12_words 0 = .ok (.aload_n 0, 1) := by decide +kernel
theorem dX12_words_1 : decode cX12_words 1 = .ok (.iconst 0, 1) := by decide +kernel
theorem dX12_words_2 : decode cX12_words 2 = .ok (.putfield 3, 3) := by decide +kernel
theorem dX12_words_5 : decode cX12_words 5 = .ok (.aload_n 0, 1) := by decide +kernel
theorem dX12_words_6 : decode cX12_words 6 = .ok (.iload_n 1, 1) := by decide +kernel
theorem dX12_words_7 : decode cX12_words 7 = .ok (.invokestatic 327, 3) := by decide +kernel
theorem dX12_words_10 : decode cX12_words 10 = .ok (.iconst 1, 1) := by decide +kernel
theorem dX12_words_11 : decode cX12_words 11 = .ok (.invokevirtual 254, 3) := by decide +kernel
theorem dX12_words_14 : decode cX12_words 14 = .ok (.ifCond .eq 7, 3) := by decide +kernel
theorem dX12_words_17 : decode cX12_words 17 = .ok (.iconst 0, 1) := by decide +kernel
theorem dX12_words_18 : decode cX12_words 18 = .ok (.goto 12, 3) := by decide +kernel
theorem dX12_words_21 : decode cX12_words 21 = .ok (.aload_n 0, 1) := by decide +kernel
theorem dX12_words_22 : decode cX12_words 22 = .ok (.getfield 13, 3) := by decide +kernel
theorem dX12_words_25 : decode cX12_words 25 = .ok (.bipush 8, 2) := by decide +kernel
theorem dX12_words_27 : decode cX12_words 27 = .ok (.iload_n 1, 1) := by decide +kernel
theorem dX12_words_28 : decode cX12_words 28 = .ok (.iadd, 1) := by decide +kernel
theorem dX12_words_29 : decode cX12_words 29 = .ok (.iaload, 1) := by decide +kernel
theorem dX12_words_30 : decode cX12_words 30 = .ok (.ireturn, 1) := by decide +kernel
theorem dX12_ofPromise_0 : decode cX12_ofPromise 0 = .ok (.aload_n 0, 1) := by decide +kernel
theorem dX12_ofPromise_1 : decode cX12_ofPromise 1 = .ok (.getfield 13, 3) := by decide +kernel
theorem dX12_ofPromise_4 : decode cX12_ofPromise 4 = .ok (.bipush 20, 2) := by decide +kernel
theorem dX12_ofPromise_6 : decode cX12_ofPromise 6 = .ok (.iconst 2, 1) := by decide +kernel
theorem dX12_ofPromise_7 : decode cX12_ofPromise 7 = .ok (.iload_n 1, 1) := by decide +kernel
theorem dX12_ofPromise_8 : decode cX12_ofPromise 8 = .ok (.imul, 1) := by decide +kernel
theorem dX12_ofPromise_9 : decode cX12_ofPromise 9 = .ok (.iadd, 1) := by decide +kernel
theorem dX12_ofPromise_10 : decode cX12_ofPromise 10 = .ok (.iload_n 2, 1) := by decide +kernel
theorem dX12_ofPromise_11 : decode cX12_ofPromise 11 = .ok (.ifCond .eq 7, 3) := by decide +kernel
theorem dX12_ofPromise_14 : decode cX12_ofPromise 14 = .ok (.iconst 1, 1) := by decide +kernel
theorem dX12_ofPromise_15 : decode cX12_ofPromise 15 = .ok (.goto 4, 3) := by decide +kernel
theorem dX12_ofPromise_18 : decode cX12_ofPromise 18 = .ok (.iconst 0, 1) := by decide +kernel
theorem dX12_ofPromise_19 : decode cX12_ofPromise 19 = .ok (.iadd, 1) := by decide +kernel
theorem dX12_ofPromise_20 : decode cX12_ofPromise 20 = .ok (.iaload, 1) := by decide +kernel
theorem dX12_ofPromise_21 : decode cX12_ofPromise 21 = .ok (.ireturn, 1) := by decide +kernel
theorem dX12_promise_0 : decode cX12_promise 0 = .ok (.aload_n 0, 1) := by decide +kernel
theorem dX12_promise_1 : decode cX12_promise 1 = .ok (.iconst 0, 1) := by decide +kernel
theorem dX12_promise_2 : decode cX12_promise 2 = .ok (.putfield 3, 3) := by decide +kernel
theorem dX12_promise_5 : decode cX12_promise 5 = .ok (.aload_n 0, 1) := by decide +kernel
theorem dX12_promise_6 : decode cX12_promise 6 = .ok (.aload_n 0, 1) := by decide +kernel
theorem dX12_promise_7 : decode cX12_promise 7 = .ok (.iload_n 1, 1) := by decide +kernel
theorem dX12_promise_8 : decode cX12_promise 8 = .ok (.invokevirtual 330, 3) := by decide +kernel
theorem dX12_promise_11 : decode cX12_promise 11 = .ok (.iconst 1, 1) := by decide +kernel
theorem dX12_promise_12 : decode cX12_promise 12 = .ok (.invokevirtual 254, 3) := by decide +kernel
theorem dX12_promise_15 : decode cX12_promise 15 = .ok (.ifCond .eq 7, 3) := by decide +kernel
theorem dX12_promise_18 : decode cX12_promise 18 = .ok (.iconst 0, 1) := by decide +kernel
theorem dX12_promise_19 : decode cX12_promise 19 = .ok (.goto 9, 3) := by decide +kernel
theorem dX12_promise_22 : decode cX12_promise 22 = .ok (.aload_n 0, 1) := by decide +kernel
theorem dX12_promise_23 : decode cX12_promise 23 = .ok (.iload_n 1, 1) := by decide +kernel
theorem dX12_promise_24 : decode cX12_promise 24 = .ok (.iload_n 2, 1) := by decide +kernel
theorem dX12_promise_25 : decode cX12_promise 25 = .ok (.invokevirtual 333, 3) := by decide +kernel
theorem dX12_promise_28 : decode cX12_promise 28 = .ok (.ireturn, 1) := by decide +kernel
theorem dX12_season_0 : decode cX12_season 0 = .ok (.aload_n 0, 1) := by decide +kernel
theorem dX12_season_1 : decode cX12_season 1 = .ok (.iconst 0, 1) := by decide +kernel
theorem dX12_season_2 : decode cX12_season 2 = .ok (.putfield 3, 3) := by decide +kernel
theorem dX12_season_5 : decode cX12_season 5 = .ok (.aload_n 0, 1) := by decide +kernel
theorem dX12_season_6 : decode cX12_season 6 = .ok (.iload_n 1, 1) := by decide +kernel
theorem dX12_season_7 : decode cX12_season 7 = .ok (.iconst 0, 1) := by decide +kernel
theorem dX12_season_8 : decode cX12_season 8 = .ok (.sipush 9999, 3) := by decide +kernel
theorem dX12_season_11 : decode cX12_season 11 = .ok (.invokestatic 78, 3) := by decide +kernel
theorem dX12_season_14 : decode cX12_season 14 = .ok (.ifCond .ne 7, 3) := by decide +kernel
theorem dX12_season_17 : decode cX12_season 17 = .ok (.iconst 1, 1) := by decide +kernel
theorem dX12_season_18 : decode cX12_season 18 = .ok (.goto 4, 3) := by decide +kernel
theorem dX12_season_21 : decode cX12_season 21 = .ok (.iconst 0, 1) := by decide +kernel
theorem dX12_season_22 : decode cX12_season 22 = .ok (.iconst 1, 1) := by decide +kernel
theorem dX12_season_23 : decode cX12_season 23 = .ok (.invokevirtual 254, 3) := by decide +kernel
theorem dX12_season_26 : decode cX12_season 26 = .ok (.ifCond .eq 7, 3) := by decide +kernel
theorem dX12_season_29 : decode cX12_season 29 = .ok (.iconst 0, 1) := by decide +kernel
theorem dX12_season_30 : decode cX12_season 30 = .ok (.goto 7, 3) := by decide +kernel
theorem dX12_season_33 : decode cX12_season 33 = .ok (.iload_n 1, 1) := by decide +kernel
theorem dX12_season_34 : decode cX12_season 34 = .ok (.invokestatic 264, 3) := by decide +kernel
theorem dX12_season_37 : decode cX12_season 37 = .ok (.ireturn, 1) := by decide +kernel
theorem dX12_write_0 : decode cX12_write 0 = .ok (.aload_n 0, 1) := by decide +kernel
theorem dX12_write_1 : decode cX12_write 1 = .ok (.invokevirtual 243, 3) := by decide +kernel
theorem dX12_write_4 : decode cX12_write 4 = .ok (.iload_n 1, 1) := by decide +kernel
theorem dX12_write_5 : decode cX12_write 5 = .ok (.iload_n 2, 1) := by decide +kernel
theorem dX12_write_6 : decode cX12_write 6 = .ok (.invokestatic 337, 3) := by decide +kernel
theorem dX12_write_9 : decode cX12_write 9 = .ok (.ifCond .ne 20, 3) := by decide +kernel
theorem dX12_write_12 : decode cX12_write 12 = .ok (.aload_n 0, 1) := by decide +kernel
theorem dX12_write_13 : decode cX12_write 13 = .ok (.getfield 100, 3) := by decide +kernel
theorem dX12_write_16 : decode cX12_write 16 = .ok (.iconst 1, 1) := by decide +kernel
theorem dX12_write_17 : decode cX12_write 17 = .ok (.bipush 24, 2) := by decide +kernel
theorem dX12_write_19 : decode cX12_write 19 = .ok (.invokestatic 78, 3) := by decide +kernel
theorem dX12_write_22 : decode cX12_write 22 = .ok (.ifCond .eq 7, 3) := by decide +kernel
theorem dX12_write_25 : decode cX12_write 25 = .ok (.iconst 1, 1) := by decide +kernel
theorem dX12_write_26 : decode cX12_write 26 = .ok (.goto 4, 3) := by decide +kernel
theorem dX12_write_29 : decode cX12_write 29 = .ok (.iconst 0, 1) := by decide +kernel
theorem dX12_write_30 : decode cX12_write 30 = .ok (.istore_n 3, 1) := by decide +kernel
theorem dX12_write_31 : decode cX12_write 31 = .ok (.iconst 0, 1) := by decide +kernel
theorem dX12_write_32 : decode cX12_write 32 = .ok (.istore 4, 2) := by decide +kernel
theorem dX12_write_34 : decode cX12_write 34 = .ok (.iload 4, 2) := by decide +kernel
theorem dX12_write_36 : decode cX12_write 36 = .ok (.aload_n 0, 1) := by decide +kernel
theorem dX12_write_37 : decode cX12_write 37 = .ok (.getfield 100, 3) := by decide +kernel
theorem dX12_write_40 : decode cX12_write 40 = .ok (.if_icmp .ge 32, 3) := by decide +kernel
theorem dX12_write_43 : decode cX12_write 43 = .ok (.iload_n 3, 1) := by decide +kernel
theorem dX12_write_44 : decode cX12_write 44 = .ok (.ifCond .eq 28, 3) := by decide +kernel
theorem dX12_write_47 : decode cX12_write 47 = .ok (.aload_n 0, 1) := by decide +kernel
theorem dX12_write_48 : decode cX12_write 48 = .ok (.getfield 29, 3) := by decide +kernel
theorem dX12_write_51 : decode cX12_write 51 = .ok (.iload 4, 2) := by decide +kernel
theorem dX12_write_53 : decode cX12_write 53 = .ok (.baload, 1) := by decide +kernel
theorem dX12_write_54 : decode cX12_write 54 = .ok (.invokestatic 327, 3) := by decide +kernel
theorem dX12_write_57 : decode cX12_write 57 = .ok (.ifCond .ne 7, 3) := by decide +kernel
theorem dX12_write_60 : decode cX12_write 60 = .ok (.iconst 1, 1) := by decide +kernel
theorem dX12_write_61 : decode cX12_write 61 = .ok (.goto 4, 3) := by decide +kernel
theorem dX12_write_64 : decode cX12_write 64 = .ok (.iconst 0, 1) := by decide +kernel
theorem dX12_write_65 : decode cX12_write 65 = .ok (.istore_n 3, 1) := by decide +kernel
theorem dX12_write_66 : decode cX12_write 66 = .ok (.iinc 4 1, 3) := by decide +kernel
theorem dX12_write_69 : decode cX12_write 69 = .ok (.goto (-35), 3) := by decide +kernel
theorem dX12_write_72 : decode cX12_write 72 = .ok (.aload_n 0, 1) := by decide +kernel
theorem dX12_write_73 : decode cX12_write 73 = .ok (.iload_n 3, 1) := by decide +kernel
theorem dX12_write_74 : decode cX12_write 74 = .ok (.ifCond .ne 7, 3) := by decide +kernel
theorem dX12_write_77 : decode cX12_write 77 = .ok (.iconst 1, 1) := by decide +kernel
theorem dX12_write_78 : decode cX12_write 78 = .ok (.goto 4, 3) := by decide +kernel
theorem dX12_write_81 : decode cX12_write 81 = .ok (.iconst 0, 1) := by decide +kernel
theorem dX12_write_82 : decode cX12_write 82 = .ok (.iconst 1, 1) := by decide +kernel
theorem dX12_write_83 : decode cX12_write 83 = .ok (.invokevirtual 254, 3) := by decide +kernel
theorem dX12_write_86 : decode cX12_write 86 = .ok (.ifCond .ne 25, 3) := by decide +kernel
theorem dX12_write_89 : decode cX12_write 89 = .ok (.aload_n 0, 1) := by decide +kernel
theorem dX12_write_90 : decode cX12_write 90 = .ok (.aload_n 0, 1) := by decide +kernel
theorem dX12_write_91 : decode cX12_write 91 = .ok (.invokevirtual 74, 3) := by decide +kernel
theorem dX12_write_94 : decode cX12_write 94 = .ok (.bipush 8, 2) := by decide +kernel
theorem dX12_write_96 : decode cX12_write 96 = .ok (.if_icmp .ne 7, 3) := by decide +kernel
theorem dX12_write_99 : decode cX12_write 99 = .ok (.iconst 1, 1) := by decide +kernel
theorem dX12_write_100 : decode cX12_write 100 = .ok (.goto 4, 3) := by decide +kernel
theorem dX12_write_103 : decode cX12_write 103 = .ok (.iconst 0, 1) := by decide +kernel
theorem dX12_write_104 : decode cX12_write 104 = .ok (.iconst 2, 1) := by decide +kernel
theorem dX12_write_105 : decode cX12_write 105 = .ok (.invokevirtual 254, 3) := by decide +kernel
theorem dX12_write_108 : decode cX12_write 108 = .ok (.ifCond .eq 5, 3) := by decide +kernel
theorem dX12_write_111 : decode cX12_write 111 = .ok (.iconst 0, 1) := by decide +kernel
theorem dX12_write_112 : decode cX12_write 112 = .ok (.ireturn, 1) := by decide +kernel
theorem dX12_write_113 : decode cX12_write 113 = .ok (.aload_n 0, 1) := by decide +kernel
theorem dX12_write_114 : decode cX12_write 114 = .ok (.invokevirtual 340, 3) := by decide +kernel
theorem dX12_write_117 : decode cX12_write 117 = .ok (.aload_n 0, 1) := by decide +kernel
theorem dX12_write_118 : decode cX12_write 118 = .ok (.iload_n 1, 1) := by decide +kernel
theorem dX12_write_119 : decode cX12_write 119 = .ok (.iload_n 2, 1) := by decide +kernel
theorem dX12_write_120 : decode cX12_write 120 = .ok (.invokevirtual 146, 3) := by decide +kernel
theorem dX12_write_123 : decode cX12_write 123 = .ok (.istore 4, 2) := by decide +kernel
theorem dX12_write_125 : decode cX12_write 125 = .ok (.iconst 0, 1) := by decide +kernel
theorem dX12_write_126 : decode cX12_write 126 = .ok (.istore 5, 2) := by decide +kernel
theorem dX12_write_128 : decode cX12_write 128 = .ok (.iload 5, 2) := by decide +kernel
theorem dX12_write_130 : decode cX12_write 130 = .ok (.aload_n 0, 1) := by decide +kernel
theorem dX12_write_131 : decode cX12_write 131 = .ok (.getfield 100, 3) := by decide +kernel
theorem dX12_write_134 : decode cX12_write 134 = .ok (.if_icmp .ge 22, 3) := by decide +kernel
theorem dX12_write_137 : decode cX12_write 137 = .ok (.aload_n 0, 1) := by decide +kernel
theorem dX12_write_138 : decode cX12_write 138 = .ok (.iload 4, 2) := by decide +kernel
theorem dX12_write_140 : decode cX12_write 140 = .ok (.aload_n 0, 1) := by decide +kernel
theorem dX12_write_141 : decode cX12_write 141 = .ok (.getfield 29, 3) := by decide +kernel
theorem dX12_write_144 : decode cX12_write 144 = .ok (.iload 5, 2) := by decide +kernel
theorem dX12_write_146 : decode cX12_write 146 = .ok (.baload, 1) := by decide +kernel
theorem dX12_write_147 : decode cX12_write 147 = .ok (.invokevirtual 149, 3) := by decide +kernel
theorem dX12_write_150 : decode cX12_write 150 = .ok (.iinc 5 1, 3) := by decide +kernel
theorem dX12_write_153 : decode cX12_write 153 = .ok (.goto (-25), 3) := by decide +kernel
theorem dX12_write_156 : decode cX12_write 156 = .ok (.iload 4, 2) := by decide +kernel
theorem dX12_write_158 : decode cX12_write 158 = .ok (.ireturn, 1) := by decide +kernel
theorem dX12_turns_0 : decode cX12_turns 0 = .ok (.aload_n 0, 1) := by decide +kernel
theorem dX12_turns_1 : decode cX12_turns 1 = .ok (.invokevirtual 340, 3) := by decide +kernel
theorem dX12_turns_4 : decode cX12_turns 4 = .ok (.aload_n 0, 1) := by decide +kernel
theorem dX12_turns_5 : decode cX12_turns 5 = .ok (.iload_n 1, 1) := by decide +kernel
theorem dX12_turns_6 : decode cX12_turns 6 = .ok (.iload_n 2, 1) := by decide +kernel
theorem dX12_turns_7 : decode cX12_turns 7 = .ok (.invokevirtual 71, 3) := by decide +kernel
theorem dX12_turns_10 : decode cX12_turns 10 = .ok (.iconst 1, 1) := by decide +kernel
theorem dX12_turns_11 : decode cX12_turns 11 = .ok (.if_icmp .ne 7, 3) := by decide +kernel
theorem dX12_turns_14 : decode cX12_turns 14 = .ok (.iconst 1, 1) := by decide +kernel
theorem dX12_turns_15 : decode cX12_turns 15 = .ok (.goto 4, 3) := by decide +kernel
theorem dX12_turns_18 : decode cX12_turns 18 = .ok (.iconst 0, 1) := by decide +kernel
theorem dX12_turns_19 : decode cX12_turns 19 = .ok (.istore 4, 2) := by decide +kernel
theorem dX12_turns_21 : decode cX12_turns 21 = .ok (.aload_n 0, 1) := by decide +kernel
theorem dX12_turns_22 : decode cX12_turns 22 = .ok (.getfield 13, 3) := by decide +kernel
theorem dX12_turns_25 : decode cX12_turns 25 = .ok (.iload_n 1, 1) := by decide +kernel
theorem dX12_turns_26 : decode cX12_turns 26 = .ok (.iload_n 2, 1) := by decide +kernel
theorem dX12_turns_27 : decode cX12_turns 27 = .ok (.invokestatic 67, 3) := by decide +kernel
theorem dX12_turns_30 : decode cX12_turns 30 = .ok (.iload_n 3, 1) := by decide +kernel
theorem dX12_turns_31 : decode cX12_turns 31 = .ok (.ifCond .eq 7, 3) := by decide +kernel
theorem dX12_turns_34 : decode cX12_turns 34 = .ok (.iconst 1, 1) := by decide +kernel
theorem dX12_turns_35 : decode cX12_turns 35 = .ok (.goto 4, 3) := by decide +kernel
theorem dX12_turns_38 : decode cX12_turns 38 = .ok (.iconst 0, 1) := by decide +kernel
theorem dX12_turns_39 : decode cX12_turns 39 = .ok (.iastore, 1) := by decide +kernel
theorem dX12_turns_40 : decode cX12_turns 40 = .ok (.iload 4, 2) := by decide +kernel
theorem dX12_turns_42 : decode cX12_turns 42 = .ok (.iload_n 3, 1) := by decide +kernel
theorem dX12_turns_43 : decode cX12_turns 43 = .ok (.if_icmp .eq 7, 3) := by decide +kernel
theorem dX12_turns_46 : decode cX12_turns 46 = .ok (.iconst 1, 1) := by decide +kernel
theorem dX12_turns_47 : decode cX12_turns 47 = .ok (.goto 4, 3) := by decide +kernel
theorem dX12_turns_50 : decode cX12_turns 50 = .ok (.iconst 0, 1) := by decide +kernel
theorem dX12_turns_51 : decode cX12_turns 51 = .ok (.ireturn, 1) := by decide +kernel
theorem dX12_open_0 : decode cX12_open 0 = .ok (.aload_n 0, 1) := by decide +kernel
theorem dX12_open_1 : decode cX12_open 1 = .ok (.iconst 0, 1) := by decide +kernel
theorem dX12_open_2 : decode cX12_open 2 = .ok (.putfield 3, 3) := by decide +kernel
theorem dX12_open_5 : decode cX12_open 5 = .ok (.aload_n 0, 1) := by decide +kernel
theorem dX12_open_6 : decode cX12_open 6 = .ok (.aload_n 0, 1) := by decide +kernel
theorem dX12_open_7 : decode cX12_open 7 = .ok (.iload_n 1, 1) := by decide +kernel
theorem dX12_open_8 : decode cX12_open 8 = .ok (.invokevirtual 82, 3) := by decide +kernel
theorem dX12_open_11 : decode cX12_open 11 = .ok (.iconst 1, 1) := by decide +kernel
theorem dX12_open_12 : decode cX12_open 12 = .ok (.invokevirtual 254, 3) := by decide +kernel
theorem dX12_open_15 : decode cX12_open 15 = .ok (.ifCond .ne 17, 3) := by decide +kernel
theorem dX12_open_18 : decode cX12_open 18 = .ok (.aload_n 0, 1) := by decide +kernel
theorem dX12_open_19 : decode cX12_open 19 = .ok (.iload_n 1, 1) := by decide +kernel
theorem dX12_open_20 : decode cX12_open 20 = .ok (.iconst 3, 1) := by decide +kernel
theorem dX12_open_21 : decode cX12_open 21 = .ok (.iload_n 2, 1) := by decide +kernel
theorem dX12_open_22 : decode cX12_open 22 = .ok (.invokevirtual 343, 3) := by decide +kernel
theorem dX12_open_25 : decode cX12_open 25 = .ok (.ifCond .eq 7, 3) := by decide +kernel
theorem dX12_open_28 : decode cX12_open 28 = .ok (.iconst 1, 1) := by decide +kernel
theorem dX12_open_29 : decode cX12_open 29 = .ok (.goto 4, 3) := by decide +kernel
theorem dX12_open_32 : decode cX12_open 32 = .ok (.iconst 0, 1) := by decide +kernel
theorem dX12_open_33 : decode cX12_open 33 = .ok (.ireturn, 1) := by decide +kernel
theorem dX12_heat_0 : decode cX12_heat 0 = .ok (.aload_n 0, 1) := by decide +kernel
theorem dX12_heat_1 : decode cX12_heat 1 = .ok (.iconst 0, 1) := by decide +kernel
theorem dX12_heat_2 : decode cX12_heat 2 = .ok (.putfield 3, 3) := by decide +kernel
theorem dX12_heat_5 : decode cX12_heat 5 = .ok (.aload_n 0, 1) := by decide +kernel
theorem dX12_heat_6 : decode cX12_heat 6 = .ok (.aload_n 0, 1) := by decide +kernel
theorem dX12_heat_7 : decode cX12_heat 7 = .ok (.iload_n 1, 1) := by decide +kernel
theorem dX12_heat_8 : decode cX12_heat 8 = .ok (.invokevirtual 82, 3) := by decide +kernel
theorem dX12_heat_11 : decode cX12_heat 11 = .ok (.iconst 1, 1) := by decide +kernel
theorem dX12_heat_12 : decode cX12_heat 12 = .ok (.invokevirtual 254, 3) := by decide +kernel
theorem dX12_heat_15 : decode cX12_heat 15 = .ok (.ifCond .ne 17, 3) := by decide +kernel
theorem dX12_heat_18 : decode cX12_heat 18 = .ok (.aload_n 0, 1) := by decide +kernel
theorem dX12_heat_19 : decode cX12_heat 19 = .ok (.iload_n 1, 1) := by decide +kernel
theorem dX12_heat_20 : decode cX12_heat 20 = .ok (.iconst 4, 1) := by decide +kernel
theorem dX12_heat_21 : decode cX12_heat 21 = .ok (.iload_n 2, 1) := by decide +kernel
theorem dX12_heat_22 : decode cX12_heat 22 = .ok (.invokevirtual 343, 3) := by decide +kernel
theorem dX12_heat_25 : decode cX12_heat 25 = .ok (.ifCond .eq 7, 3) := by decide +kernel
theorem dX12_heat_28 : decode cX12_heat 28 = .ok (.iconst 1, 1) := by decide +kernel
theorem dX12_heat_29 : decode cX12_heat 29 = .ok (.goto 4, 3) := by decide +kernel
theorem dX12_heat_32 : decode cX12_heat 32 = .ok (.iconst 0, 1) := by decide +kernel
theorem dX12_heat_33 : decode cX12_heat 33 = .ok (.ireturn, 1) := by decide +kernel
theorem dX12_copy_0 : decode cX12_copy 0 = .ok (.aload_n 0, 1) := by decide +kernel
theorem dX12_copy_1 : decode cX12_copy 1 = .ok (.iconst 0, 1) := by decide +kernel
theorem dX12_copy_2 : decode cX12_copy 2 = .ok (.putfield 3, 3) := by decide +kernel
theorem dX12_copy_5 : decode cX12_copy 5 = .ok (.aload_n 0, 1) := by decide +kernel
theorem dX12_copy_6 : decode cX12_copy 6 = .ok (.aload_n 0, 1) := by decide +kernel
theorem dX12_copy_7 : decode cX12_copy 7 = .ok (.iload_n 1, 1) := by decide +kernel
theorem dX12_copy_8 : decode cX12_copy 8 = .ok (.invokevirtual 82, 3) := by decide +kernel
theorem dX12_copy_11 : decode cX12_copy 11 = .ok (.iconst 1, 1) := by decide +kernel
theorem dX12_copy_12 : decode cX12_copy 12 = .ok (.invokevirtual 254, 3) := by decide +kernel
theorem dX12_copy_15 : decode cX12_copy 15 = .ok (.ifCond .ne 25, 3) := by decide +kernel
theorem dX12_copy_18 : decode cX12_copy 18 = .ok (.aload_n 0, 1) := by decide +kernel
theorem dX12_copy_19 : decode cX12_copy 19 = .ok (.aload_n 0, 1) := by decide +kernel
theorem dX12_copy_20 : decode cX12_copy 20 = .ok (.invokevirtual 74, 3) := by decide +kernel
theorem dX12_copy_23 : decode cX12_copy 23 = .ok (.bipush 8, 2) := by decide +kernel
theorem dX12_copy_25 : decode cX12_copy 25 = .ok (.if_icmp .ne 7, 3) := by decide +kernel
theorem dX12_copy_28 : decode cX12_copy 28 = .ok (.iconst 1, 1) := by decide +kernel
theorem dX12_copy_29 : decode cX12_copy 29 = .ok (.goto 4, 3) := by decide +kernel
theorem dX12_copy_32 : decode cX12_copy 32 = .ok (.iconst 0, 1) := by decide +kernel
theorem dX12_copy_33 : decode cX12_copy 33 = .ok (.iconst 2, 1) := by decide +kernel
theorem dX12_copy_34 : decode cX12_copy 34 = .ok (.invokevirtual 254, 3) := by decide +kernel
theorem dX12_copy_37 : decode cX12_copy 37 = .ok (.ifCond .eq 5, 3) := by decide +kernel
theorem dX12_copy_40 : decode cX12_copy 40 = .ok (.iconst 0, 1) := by decide +kernel
theorem dX12_copy_41 : decode cX12_copy 41 = .ok (.ireturn, 1) := by decide +kernel
theorem dX12_copy_42 : decode cX12_copy 42 = .ok (.aload_n 0, 1) := by decide +kernel
theorem dX12_copy_43 : decode cX12_copy 43 = .ok (.invokevirtual 340, 3) := by decide +kernel
theorem dX12_copy_46 : decode cX12_copy 46 = .ok (.aload_n 0, 1) := by decide +kernel
theorem dX12_copy_47 : decode cX12_copy 47 = .ok (.invokevirtual 74, 3) := by decide +kernel
theorem dX12_copy_50 : decode cX12_copy 50 = .ok (.istore_n 2, 1) := by decide +kernel
theorem dX12_copy_51 : decode cX12_copy 51 = .ok (.iconst 0, 1) := by decide +kernel
theorem dX12_copy_52 : decode cX12_copy 52 = .ok (.istore_n 3, 1) := by decide +kernel
theorem dX12_copy_53 : decode cX12_copy 53 = .ok (.iload_n 3, 1) := by decide +kernel
theorem dX12_copy_54 : decode cX12_copy 54 = .ok (.bipush 53, 2) := by decide +kernel
theorem dX12_copy_56 : decode cX12_copy 56 = .ok (.if_icmp .ge 25, 3) := by decide +kernel
theorem dX12_copy_59 : decode cX12_copy 59 = .ok (.aload_n 0, 1) := by decide +kernel
theorem dX12_copy_60 : decode cX12_copy 60 = .ok (.getfield 13, 3) := by decide +kernel
theorem dX12_copy_63 : decode cX12_copy 63 = .ok (.iload_n 2, 1) := by decide +kernel
theorem dX12_copy_64 : decode cX12_copy 64 = .ok (.iload_n 3, 1) := by decide +kernel
theorem dX12_copy_65 : decode cX12_copy 65 = .ok (.invokestatic 67, 3) := by decide +kernel
theorem dX12_copy_68 : decode cX12_copy 68 = .ok (.aload_n 0, 1) := by decide +kernel
theorem dX12_copy_69 : decode cX12_copy 69 = .ok (.iload_n 1, 1) := by decide +kernel
theorem dX12_copy_70 : decode cX12_copy 70 = .ok (.iload_n 3, 1) := by decide +kernel
theorem dX12_copy_71 : decode cX12_copy 71 = .ok (.invokevirtual 71, 3) := by decide +kernel
theorem dX12_copy_74 : decode cX12_copy 74 = .ok (.iastore, 1) := by decide +kernel
theorem dX12_copy_75 : decode cX12_copy 75 = .ok (.iinc 3 1, 3) := by decide +kernel
theorem dX12_copy_78 : decode cX12_copy 78 = .ok (.goto (-25), 3) := by decide +kernel
theorem dX12_copy_81 : decode cX12_copy 81 = .ok (.aload_n 0, 1) := by decide +kernel
theorem dX12_copy_82 : decode cX12_copy 82 = .ok (.getfield 13, 3) := by decide +kernel
theorem dX12_copy_85 : decode cX12_copy 85 = .ok (.iload_n 2, 1) := by decide +kernel
theorem dX12_copy_86 : decode cX12_copy 86 = .ok (.iconst 3, 1) := by decide +kernel
theorem dX12_copy_87 : decode cX12_copy 87 = .ok (.invokestatic 67, 3) := by decide +kernel
theorem dX12_copy_90 : decode cX12_copy 90 = .ok (.iconst 0, 1) := by decide +kernel
theorem dX12_copy_91 : decode cX12_copy 91 = .ok (.iastore, 1) := by decide +kernel
theorem dX12_copy_92 : decode cX12_copy 92 = .ok (.aload_n 0, 1) := by decide +kernel
theorem dX12_copy_93 : decode cX12_copy 93 = .ok (.getfield 13, 3) := by decide +kernel
theorem dX12_copy_96 : decode cX12_copy 96 = .ok (.iconst 0, 1) := by decide +kernel
theorem dX12_copy_97 : decode cX12_copy 97 = .ok (.dup2, 1) := by decide +kernel
theorem dX12_copy_98 : decode cX12_copy 98 = .ok (.iaload, 1) := by decide +kernel
theorem dX12_copy_99 : decode cX12_copy 99 = .ok (.iconst 1, 1) := by decide +kernel
theorem dX12_copy_100 : decode cX12_copy 100 = .ok (.iadd, 1) := by decide +kernel
theorem dX12_copy_101 : decode cX12_copy 101 = .ok (.iastore, 1) := by decide +kernel
theorem dX12_copy_102 : decode cX12_copy 102 = .ok (.iload_n 2, 1) := by decide +kernel
theorem dX12_copy_103 : decode cX12_copy 103 = .ok (.ireturn, 1) := by decide +kernel
theorem dX12_prune_0 : decode cX12_prune 0 = .ok (.aload_n 0, 1) := by decide +kernel
theorem dX12_prune_1 : decode cX12_prune 1 = .ok (.iconst 0, 1) := by decide +kernel
theorem dX12_prune_2 : decode cX12_prune 2 = .ok (.putfield 3, 3) := by decide +kernel
theorem dX12_prune_5 : decode cX12_prune 5 = .ok (.aload_n 0, 1) := by decide +kernel
theorem dX12_prune_6 : decode cX12_prune 6 = .ok (.aload_n 0, 1) := by decide +kernel
theorem dX12_prune_7 : decode cX12_prune 7 = .ok (.iload_n 1, 1) := by decide +kernel
theorem dX12_prune_8 : decode cX12_prune 8 = .ok (.invokevirtual 82, 3) := by decide +kernel
theorem dX12_prune_11 : decode cX12_prune 11 = .ok (.iconst 1, 1) := by decide +kernel
theorem dX12_prune_12 : decode cX12_prune 12 = .ok (.invokevirtual 254, 3) := by decide +kernel
theorem dX12_prune_15 : decode cX12_prune 15 = .ok (.ifCond .ne 30, 3) := by decide +kernel
theorem dX12_prune_18 : decode cX12_prune 18 = .ok (.aload_n 0, 1) := by decide +kernel
theorem dX12_prune_19 : decode cX12_prune 19 = .ok (.iload_n 2, 1) := by decide +kernel
theorem dX12_prune_20 : decode cX12_prune 20 = .ok (.iconst 1, 1) := by decide +kernel
theorem dX12_prune_21 : decode cX12_prune 21 = .ok (.if_icmp .lt 12, 3) := by decide +kernel
theorem dX12_prune_24 : decode cX12_prune 24 = .ok (.iload_n 2, 1) := by decide +kernel
theorem dX12_prune_25 : decode cX12_prune 25 = .ok (.aload_n 0, 1) := by decide +kernel
theorem dX12_prune_26 : decode cX12_prune 26 = .ok (.iload_n 1, 1) := by decide +kernel
theorem dX12_prune_27 : decode cX12_prune 27 = .ok (.invokevirtual 86, 3) := by decide +kernel
theorem dX12_prune_30 : decode cX12_prune 30 = .ok (.if_icmp .lt 7, 3) := by decide +kernel
theorem dX12_prune_33 : decode cX12_prune 33 = .ok (.iconst 1, 1) := by decide +kernel
theorem dX12_prune_34 : decode cX12_prune 34 = .ok (.goto 4, 3) := by decide +kernel
theorem dX12_prune_37 : decode cX12_prune 37 = .ok (.iconst 0, 1) := by decide +kernel
theorem dX12_prune_38 : decode cX12_prune 38 = .ok (.iconst 2, 1) := by decide +kernel
theorem dX12_prune_39 : decode cX12_prune 39 = .ok (.invokevirtual 254, 3) := by decide +kernel
theorem dX12_prune_42 : decode cX12_prune 42 = .ok (.ifCond .eq 5, 3) := by decide +kernel
theorem dX12_prune_45 : decode cX12_prune 45 = .ok (.iconst 0, 1) := by decide +kernel
theorem dX12_prune_46 : decode cX12_prune 46 = .ok (.ireturn, 1) := by decide +kernel
theorem dX12_prune_47 : decode cX12_prune 47 = .ok (.aload_n 0, 1) := by decide +kernel
theorem dX12_prune_48 : decode cX12_prune 48 = .ok (.invokevirtual 340, 3) := by decide +kernel
theorem dX12_prune_51 : decode cX12_prune 51 = .ok (.aload_n 0, 1) := by decide +kernel
theorem dX12_prune_52 : decode cX12_prune 52 = .ok (.getfield 13, 3) := by decide +kernel
theorem dX12_prune_55 : decode cX12_prune 55 = .ok (.iload_n 1, 1) := by decide +kernel
theorem dX12_prune_56 : decode cX12_prune 56 = .ok (.iconst 0, 1) := by decide +kernel
theorem dX12_prune_57 : decode cX12_prune 57 = .ok (.invokestatic 67, 3) := by decide +kernel
theorem dX12_prune_60 : decode cX12_prune 60 = .ok (.dup2, 1) := by decide +kernel
theorem dX12_prune_61 : decode cX12_prune 61 = .ok (.iaload, 1) := by decide +kernel
theorem dX12_prune_62 : decode cX12_prune 62 = .ok (.iload_n 2, 1) := by decide +kernel
theorem dX12_prune_63 : decode cX12_prune 63 = .ok (.isub, 1) := by decide +kernel
theorem dX12_prune_64 : decode cX12_prune 64 = .ok (.iastore, 1) := by decide +kernel
theorem dX12_prune_65 : decode cX12_prune 65 = .ok (.aload_n 0, 1) := by decide +kernel
theorem dX12_prune_66 : decode cX12_prune 66 = .ok (.iload_n 1, 1) := by decide +kernel
theorem dX12_prune_67 : decode cX12_prune 67 = .ok (.invokevirtual 86, 3) := by decide +kernel
theorem dX12_prune_70 : decode cX12_prune 70 = .ok (.ireturn, 1) := by decide +kernel
theorem dX12_cut_0 : decode cX12_cut 0 = .ok (.aload_n 0, 1) := by decide +kernel
theorem dX12_cut_1 : decode cX12_cut 1 = .ok (.iconst 0, 1) := by decide +kernel
theorem dX12_cut_2 : decode cX12_cut 2 = .ok (.putfield 3, 3) := by decide +kernel
theorem dX12_cut_5 : decode cX12_cut 5 = .ok (.aload_n 0, 1) := by decide +kernel
theorem dX12_cut_6 : decode cX12_cut 6 = .ok (.aload_n 0, 1) := by decide +kernel
theorem dX12_cut_7 : decode cX12_cut 7 = .ok (.iload_n 1, 1) := by decide +kernel
theorem dX12_cut_8 : decode cX12_cut 8 = .ok (.iload_n 2, 1) := by decide +kernel
theorem dX12_cut_9 : decode cX12_cut 9 = .ok (.invokevirtual 324, 3) := by decide +kernel
theorem dX12_cut_12 : decode cX12_cut 12 = .ok (.iconst 1, 1) := by decide +kernel
theorem dX12_cut_13 : decode cX12_cut 13 = .ok (.invokevirtual 254, 3) := by decide +kernel
theorem dX12_cut_16 : decode cX12_cut 16 = .ok (.ifCond .ne 25, 3) := by decide +kernel
theorem dX12_cut_19 : decode cX12_cut 19 = .ok (.aload_n 0, 1) := by decide +kernel
theorem dX12_cut_20 : decode cX12_cut 20 = .ok (.aload_n 0, 1) := by decide +kernel
theorem dX12_cut_21 : decode cX12_cut 21 = .ok (.iload_n 1, 1) := by decide +kernel
theorem dX12_cut_22 : decode cX12_cut 22 = .ok (.invokevirtual 86, 3) := by decide +kernel
theorem dX12_cut_25 : decode cX12_cut 25 = .ok (.iconst 1, 1) := by decide +kernel
theorem dX12_cut_26 : decode cX12_cut 26 = .ok (.if_icmp .ne 7, 3) := by decide +kernel
theorem dX12_cut_29 : decode cX12_cut 29 = .ok (.iconst 1, 1) := by decide +kernel
theorem dX12_cut_30 : decode cX12_cut 30 = .ok (.goto 4, 3) := by decide +kernel
theorem dX12_cut_33 : decode cX12_cut 33 = .ok (.iconst 0, 1) := by decide +kernel
theorem dX12_cut_34 : decode cX12_cut 34 = .ok (.iconst 2, 1) := by decide +kernel
theorem dX12_cut_35 : decode cX12_cut 35 = .ok (.invokevirtual 254, 3) := by decide +kernel
theorem dX12_cut_38 : decode cX12_cut 38 = .ok (.ifCond .eq 5, 3) := by decide +kernel
theorem dX12_cut_41 : decode cX12_cut 41 = .ok (.iconst 0, 1) := by decide +kernel
theorem dX12_cut_42 : decode cX12_cut 42 = .ok (.ireturn, 1) := by decide +kernel
theorem dX12_cut_43 : decode cX12_cut 43 = .ok (.aload_n 0, 1) := by decide +kernel
theorem dX12_cut_44 : decode cX12_cut 44 = .ok (.invokevirtual 340, 3) := by decide +kernel
theorem dX12_cut_47 : decode cX12_cut 47 = .ok (.aload_n 0, 1) := by decide +kernel
theorem dX12_cut_48 : decode cX12_cut 48 = .ok (.iload_n 1, 1) := by decide +kernel
theorem dX12_cut_49 : decode cX12_cut 49 = .ok (.iload_n 2, 1) := by decide +kernel
theorem dX12_cut_50 : decode cX12_cut 50 = .ok (.invokevirtual 286, 3) := by decide +kernel
theorem dX12_cut_53 : decode cX12_cut 53 = .ok (.istore_n 3, 1) := by decide +kernel
theorem dX12_cut_54 : decode cX12_cut 54 = .ok (.iload_n 2, 1) := by decide +kernel
theorem dX12_cut_55 : decode cX12_cut 55 = .ok (.istore 4, 2) := by decide +kernel
theorem dX12_cut_57 : decode cX12_cut 57 = .ok (.iload 4, 2) := by decide +kernel
theorem dX12_cut_59 : decode cX12_cut 59 = .ok (.iconst 1, 1) := by decide +kernel
theorem dX12_cut_60 : decode cX12_cut 60 = .ok (.iadd, 1) := by decide +kernel
theorem dX12_cut_61 : decode cX12_cut 61 = .ok (.aload_n 0, 1) := by decide +kernel
theorem dX12_cut_62 : decode cX12_cut 62 = .ok (.iload_n 1, 1) := by decide +kernel
theorem dX12_cut_63 : decode cX12_cut 63 = .ok (.invokevirtual 86, 3) := by decide +kernel
theorem dX12_cut_66 : decode cX12_cut 66 = .ok (.if_icmp .ge 57, 3) := by decide +kernel
theorem dX12_cut_69 : decode cX12_cut 69 = .ok (.aload_n 0, 1) := by decide +kernel
theorem dX12_cut_70 : decode cX12_cut 70 = .ok (.getfield 13, 3) := by decide +kernel
theorem dX12_cut_73 : decode cX12_cut 73 = .ok (.iload_n 1, 1) := by decide +kernel
theorem dX12_cut_74 : decode cX12_cut 74 = .ok (.iconst 5, 1) := by decide +kernel
theorem dX12_cut_75 : decode cX12_cut 75 = .ok (.iload 4, 2) := by decide +kernel
theorem dX12_cut_77 : decode cX12_cut 77 = .ok (.iadd, 1) := by decide +kernel
theorem dX12_cut_78 : decode cX12_cut 78 = .ok (.invokestatic 67, 3) := by decide +kernel
theorem dX12_cut_81 : decode cX12_cut 81 = .ok (.aload_n 0, 1) := by decide +kernel
theorem dX12_cut_82 : decode cX12_cut 82 = .ok (.iload_n 1, 1) := by decide +kernel
theorem dX12_cut_83 : decode cX12_cut 83 = .ok (.iload 4, 2) := by decide +kernel
theorem dX12_cut_85 : decode cX12_cut 85 = .ok (.iconst 1, 1) := by decide +kernel
theorem dX12_cut_86 : decode cX12_cut 86 = .ok (.iadd, 1) := by decide +kernel
theorem dX12_cut_87 : decode cX12_cut 87 = .ok (.invokevirtual 286, 3) := by decide +kernel
theorem dX12_cut_90 : decode cX12_cut 90 = .ok (.iastore, 1) := by decide +kernel
theorem dX12_cut_91 : decode cX12_cut 91 = .ok (.aload_n 0, 1) := by decide +kernel
theorem dX12_cut_92 : decode cX12_cut 92 = .ok (.getfield 13, 3) := by decide +kernel
theorem dX12_cut_95 : decode cX12_cut 95 = .ok (.iload_n 1, 1) := by decide +kernel
theorem dX12_cut_96 : decode cX12_cut 96 = .ok (.bipush 29, 2) := by decide +kernel
theorem dX12_cut_98 : decode cX12_cut 98 = .ok (.iload 4, 2) := by decide +kernel
theorem dX12_cut_100 : decode cX12_cut 100 = .ok (.iadd, 1) := by decide +kernel
theorem dX12_cut_101 : decode cX12_cut 101 = .ok (.invokestatic 67, 3) := by decide +kernel
theorem dX12_cut_104 : decode cX12_cut 104 = .ok (.aload_n 0, 1) := by decide +kernel
theorem dX12_cut_105 : decode cX12_cut 105 = .ok (.iload_n 1, 1) := by decide +kernel
theorem dX12_cut_106 : decode cX12_cut 106 = .ok (.bipush 29, 2) := by decide +kernel
theorem dX12_cut_108 : decode cX12_cut 108 = .ok (.iload 4, 2) := by decide +kernel
theorem dX12_cut_110 : decode cX12_cut 110 = .ok (.iadd, 1) := by decide +kernel
theorem dX12_cut_111 : decode cX12_cut 111 = .ok (.iconst 1, 1) := by decide +kernel
theorem dX12_cut_112 : decode cX12_cut 112 = .ok (.iadd, 1) := by decide +kernel
theorem dX12_cut_113 : decode cX12_cut 113 = .ok (.invokevirtual 71, 3) := by decide +kernel
theorem dX12_cut_116 : decode cX12_cut 116 = .ok (.iastore, 1) := by decide +kernel
theorem dX12_cut_117 : decode cX12_cut 117 = .ok (.iinc 4 1, 3) := by decide +kernel
theorem dX12_cut_120 : decode cX12_cut 120 = .ok (.goto (-63), 3) := by decide +kernel
theorem dX12_cut_123 : decode cX12_cut 123 = .ok (.aload_n 0, 1) := by decide +kernel
theorem dX12_cut_124 : decode cX12_cut 124 = .ok (.getfield 13, 3) := by decide +kernel
theorem dX12_cut_127 : decode cX12_cut 127 = .ok (.iload_n 1, 1) := by decide +kernel
theorem dX12_cut_128 : decode cX12_cut 128 = .ok (.iconst 0, 1) := by decide +kernel
theorem dX12_cut_129 : decode cX12_cut 129 = .ok (.invokestatic 67, 3) := by decide +kernel
theorem dX12_cut_132 : decode cX12_cut 132 = .ok (.dup2, 1) := by decide +kernel
theorem dX12_cut_133 : decode cX12_cut 133 = .ok (.iaload, 1) := by decide +kernel
theorem dX12_cut_134 : decode cX12_cut 134 = .ok (.iconst 1, 1) := by decide +kernel
theorem dX12_cut_135 : decode cX12_cut 135 = .ok (.isub, 1) := by decide +kernel
theorem dX12_cut_136 : decode cX12_cut 136 = .ok (.iastore, 1) := by decide +kernel
theorem dX12_cut_137 : decode cX12_cut 137 = .ok (.iload_n 3, 1) := by decide +kernel
theorem dX12_cut_138 : decode cX12_cut 138 = .ok (.ireturn, 1) := by decide +kernel
theorem dX12_burn_0 : decode cX12_burn 0 = .ok (.aload_n 0, 1) := by decide +kernel
theorem dX12_burn_1 : decode cX12_burn 1 = .ok (.iconst 0, 1) := by decide +kernel
theorem dX12_burn_2 : decode cX12_burn 2 = .ok (.putfield 3, 3) := by decide +kernel
theorem dX12_burn_5 : decode cX12_burn 5 = .ok (.aload_n 0, 1) := by decide +kernel
theorem dX12_burn_6 : decode cX12_burn 6 = .ok (.aload_n 0, 1) := by decide +kernel
theorem dX12_burn_7 : decode cX12_burn 7 = .ok (.iload_n 1, 1) := by decide +kernel
theorem dX12_burn_8 : decode cX12_burn 8 = .ok (.invokevirtual 82, 3) := by decide +kernel
theorem dX12_burn_11 : decode cX12_burn 11 = .ok (.iconst 1, 1) := by decide +kernel
theorem dX12_burn_12 : decode cX12_burn 12 = .ok (.invokevirtual 254, 3) := by decide +kernel
theorem dX12_burn_15 : decode cX12_burn 15 = .ok (.ifCond .eq 5, 3) := by decide +kernel
theorem dX12_burn_18 : decode cX12_burn 18 = .ok (.iconst 0, 1) := by decide +kernel
theorem dX12_burn_19 : decode cX12_burn 19 = .ok (.ireturn, 1) := by decide +kernel
theorem dX12_burn_20 : decode cX12_burn 20 = .ok (.aload_n 0, 1) := by decide +kernel
theorem dX12_burn_21 : decode cX12_burn 21 = .ok (.invokevirtual 340, 3) := by decide +kernel
theorem dX12_burn_24 : decode cX12_burn 24 = .ok (.iload_n 1, 1) := by decide +kernel
theorem dX12_burn_25 : decode cX12_burn 25 = .ok (.iconst 0, 1) := by decide +kernel
theorem dX12_burn_26 : decode cX12_burn 26 = .ok (.invokestatic 67, 3) := by decide +kernel
theorem dX12_burn_29 : decode cX12_burn 29 = .ok (.istore_n 2, 1) := by decide +kernel
theorem dX12_burn_30 : decode cX12_burn 30 = .ok (.iload_n 2, 1) := by decide +kernel
theorem dX12_burn_31 : decode cX12_burn 31 = .ok (.bipush 53, 2) := by decide +kernel
theorem dX12_burn_33 : decode cX12_burn 33 = .ok (.iadd, 1) := by decide +kernel
theorem dX12_burn_34 : decode cX12_burn 34 = .ok (.sipush 460, 3) := by decide +kernel
theorem dX12_burn_37 : decode cX12_burn 37 = .ok (.if_icmp .ge 24, 3) := by decide +kernel
theorem dX12_burn_40 : decode cX12_burn 40 = .ok (.aload_n 0, 1) := by decide +kernel
theorem dX12_burn_41 : decode cX12_burn 41 = .ok (.getfield 13, 3) := by decide +kernel
theorem dX12_burn_44 : decode cX12_burn 44 = .ok (.iload_n 2, 1) := by decide +kernel
theorem dX12_burn_45 : decode cX12_burn 45 = .ok (.aload_n 0, 1) := by decide +kernel
theorem dX12_burn_46 : decode cX12_burn 46 = .ok (.getfield 13, 3) := by decide +kernel
theorem dX12_burn_49 : decode cX12_burn 49 = .ok (.iload_n 2, 1) := by decide +kernel
theorem dX12_burn_50 : decode cX12_burn 50 = .ok (.bipush 53, 2) := by decide +kernel
theorem dX12_burn_52 : decode cX12_burn 52 = .ok (.iadd, 1) := by decide +kernel
theorem dX12_burn_53 : decode cX12_burn 53 = .ok (.iaload, 1) := by decide +kernel
theorem dX12_burn_54 : decode cX12_burn 54 = .ok (.iastore, 1) := by decide +kernel
theorem dX12_burn_55 : decode cX12_burn 55 = .ok (.iinc 2 1, 3) := by decide +kernel
theorem dX12_burn_58 : decode cX12_burn 58 = .ok (.goto (-28), 3) := by decide +kernel
theorem dX12_burn_61 : decode cX12_burn 61 = .ok (.aload_n 0, 1) := by decide +kernel
theorem dX12_burn_62 : decode cX12_burn 62 = .ok (.getfield 13, 3) := by decide +kernel
theorem dX12_burn_65 : decode cX12_burn 65 = .ok (.iconst 0, 1) := by decide +kernel
theorem dX12_burn_66 : decode cX12_burn 66 = .ok (.dup2, 1) := by decide +kernel
theorem dX12_burn_67 : decode cX12_burn 67 = .ok (.iaload, 1) := by decide +kernel
theorem dX12_burn_68 : decode cX12_burn 68 = .ok (.iconst 1, 1) := by decide +kernel
theorem dX12_burn_69 : decode cX12_burn 69 = .ok (.isub, 1) := by decide +kernel
theorem dX12_burn_70 : decode cX12_burn 70 = .ok (.iastore, 1) := by decide +kernel
theorem dX12_burn_71 : decode cX12_burn 71 = .ok (.aload_n 0, 1) := by decide +kernel
theorem dX12_burn_72 : decode cX12_burn 72 = .ok (.invokevirtual 74, 3) := by decide +kernel
theorem dX12_burn_75 : decode cX12_burn 75 = .ok (.ireturn, 1) := by decide +kernel
theorem dX12_grows_0 : decode cX12_grows 0 = .ok (.aload_n 0, 1) := by decide +kernel
theorem dX12_grows_1 : decode cX12_grows 1 = .ok (.iload_n 1, 1) := by decide +kernel
theorem dX12_grows_2 : decode cX12_grows 2 = .ok (.invokevirtual 311, 3) := by decide +kernel
theorem dX12_grows_5 : decode cX12_grows 5 = .ok (.aload_n 0, 1) := by decide +kernel
theorem dX12_grows_6 : decode cX12_grows 6 = .ok (.invokevirtual 297, 3) := by decide +kernel
theorem dX12_grows_9 : decode cX12_grows 9 = .ok (.ifCond .ne 5, 3) := by decide +kernel
theorem dX12_grows_12 : decode cX12_grows 12 = .ok (.iconst 0, 1) := by decide +kernel
theorem dX12_grows_13 : decode cX12_grows 13 = .ok (.ireturn, 1) := by decide +kernel
theorem dX12_grows_14 : decode cX12_grows 14 = .ok (.aload_n 0, 1) := by decide +kernel
theorem dX12_grows_15 : decode cX12_grows 15 = .ok (.invokevirtual 294, 3) := by decide +kernel
theorem dX12_grows_18 : decode cX12_grows 18 = .ok (.istore_n 2, 1) := by decide +kernel
theorem dX12_grows_19 : decode cX12_grows 19 = .ok (.aload_n 0, 1) := by decide +kernel
theorem dX12_grows_20 : decode cX12_grows 20 = .ok (.bipush 100, 2) := by decide +kernel
theorem dX12_grows_22 : decode cX12_grows 22 = .ok (.invokevirtual 347, 3) := by decide +kernel
theorem dX12_grows_25 : decode cX12_grows 25 = .ok (.aload_n 0, 1) := by decide +kernel
theorem dX12_grows_26 : decode cX12_grows 26 = .ok (.getfield 13, 3) := by decide +kernel
theorem dX12_grows_29 : decode cX12_grows 29 = .ok (.iconst 5, 1) := by decide +kernel
theorem dX12_grows_30 : decode cX12_grows 30 = .ok (.iaload, 1) := by decide +kernel
theorem dX12_grows_31 : decode cX12_grows 31 = .ok (.if_icmp .ge 10, 3) := by decide +kernel
theorem dX12_grows_34 : decode cX12_grows 34 = .ok (.aload_n 0, 1) := by decide +kernel
theorem dX12_grows_35 : decode cX12_grows 35 = .ok (.bipush 12, 2) := by decide +kernel
theorem dX12_grows_37 : decode cX12_grows 37 = .ok (.invokevirtual 347, 3) := by decide +kernel
theorem dX12_grows_40 : decode cX12_grows 40 = .ok (.istore_n 2, 1) := by decide +kernel
theorem dX12_grows_41 : decode cX12_grows 41 = .ok (.aload_n 0, 1) := by decide +kernel
theorem dX12_grows_42 : decode cX12_grows 42 = .ok (.iload_n 1, 1) := by decide +kernel
theorem dX12_grows_43 : decode cX12_grows 43 = .ok (.iload_n 2, 1) := by decide +kernel
theorem dX12_grows_44 : decode cX12_grows 44 = .ok (.invokevirtual 149, 3) := by decide +kernel
theorem dX12_grows_47 : decode cX12_grows 47 = .ok (.iconst 1, 1) := by decide +kernel
theorem dX12_grows_48 : decode cX12_grows 48 = .ok (.ireturn, 1) := by decide +kernel
theorem dX12_oneWeek_0 : decode cX12_oneWeek 0 = .ok (.iconst 0, 1) := by decide +kernel
theorem dX12_oneWeek_1 : decode cX12_oneWeek 1 = .ok (.istore_n 1, 1) := by decide +kernel
theorem dX12_oneWeek_2 : decode cX12_oneWeek 2 = .ok (.iconst 0, 1) := by decide +kernel
theorem dX12_oneWeek_3 : decode cX12_oneWeek 3 = .ok (.istore_n 2, 1) := by decide +kernel
theorem dX12_oneWeek_4 : decode cX12_oneWeek 4 = .ok (.iload_n 2, 1) := by decide +kernel
theorem dX12_oneWeek_5 : decode cX12_oneWeek 5 = .ok (.aload_n 0, 1) := by decide +kernel
theorem dX12_oneWeek_6 : decode cX12_oneWeek 6 = .ok (.invokevirtual 74, 3) := by decide +kernel
theorem dX12_oneWeek_9 : decode cX12_oneWeek 9 = .ok (.if_icmp .ge 39, 3) := by decide +kernel
theorem dX12_oneWeek_12 : decode cX12_oneWeek 12 = .ok (.iload_n 1, 1) := by decide +kernel
theorem dX12_oneWeek_13 : decode cX12_oneWeek 13 = .ok (.aload_n 0, 1) := by decide +kernel
theorem dX12_oneWeek_14 : decode cX12_oneWeek 14 = .ok (.iload_n 2, 1) := by decide +kernel
theorem dX12_oneWeek_15 : decode cX12_oneWeek 15 = .ok (.invokevirtual 350, 3) := by decide +kernel
theorem dX12_oneWeek_18 : decode cX12_oneWeek 18 = .ok (.iadd, 1) := by decide +kernel
theorem dX12_oneWeek_19 : decode cX12_oneWeek 19 = .ok (.istore_n 1, 1) := by decide +kernel
theorem dX12_oneWeek_20 : decode cX12_oneWeek 20 = .ok (.iload_n 1, 1) := by decide +kernel
theorem dX12_oneWeek_21 : decode cX12_oneWeek 21 = .ok (.aload_n 0, 1) := by decide +kernel
theorem dX12_oneWeek_22 : decode cX12_oneWeek 22 = .ok (.iload_n 2, 1) := by decide +kernel
theorem dX12_oneWeek_23 : decode cX12_oneWeek 23 = .ok (.iconst 4, 1) := by decide +kernel
theorem dX12_oneWeek_24 : decode cX12_oneWeek 24 = .ok (.invokevirtual 71, 3) := by decide +kernel
theorem dX12_oneWeek_27 : decode cX12_oneWeek 27 = .ok (.iconst 1, 1) := by decide +kernel
theorem dX12_oneWeek_28 : decode cX12_oneWeek 28 = .ok (.if_icmp .ne 11, 3) := by decide +kernel
theorem dX12_oneWeek_31 : decode cX12_oneWeek 31 = .ok (.aload_n 0, 1) := by decide +kernel
theorem dX12_oneWeek_32 : decode cX12_oneWeek 32 = .ok (.iload_n 2, 1) := by decide +kernel
theorem dX12_oneWeek_33 : decode cX12_oneWeek 33 = .ok (.invokevirtual 350, 3) := by decide +kernel
theorem dX12_oneWeek_36 : decode cX12_oneWeek 36 = .ok (.goto 4, 3) := by decide +kernel
theorem dX12_oneWeek_39 : decode cX12_oneWeek 39 = .ok (.iconst 0, 1) := by decide +kernel
theorem dX12_oneWeek_40 : decode cX12_oneWeek 40 = .ok (.iadd, 1) := by decide +kernel
theorem dX12_oneWeek_41 : decode cX12_oneWeek 41 = .ok (.istore_n 1, 1) := by decide +kernel
theorem dX12_oneWeek_42 : decode cX12_oneWeek 42 = .ok (.iinc 2 1, 3) := by decide +kernel
theorem dX12_oneWeek_45 : decode cX12_oneWeek 45 = .ok (.goto (-41), 3) := by decide +kernel
theorem dX12_oneWeek_48 : decode cX12_oneWeek 48 = .ok (.aload_n 0, 1) := by decide +kernel
theorem dX12_oneWeek_49 : decode cX12_oneWeek 49 = .ok (.getfield 13, 3) := by decide +kernel
theorem dX12_oneWeek_52 : decode cX12_oneWeek 52 = .ok (.bipush 6, 2) := by decide +kernel
theorem dX12_oneWeek_54 : decode cX12_oneWeek 54 = .ok (.dup2, 1) := by decide +kernel
theorem dX12_oneWeek_55 : decode cX12_oneWeek 55 = .ok (.iaload, 1) := by decide +kernel
theorem dX12_oneWeek_56 : decode cX12_oneWeek 56 = .ok (.iload_n 1, 1) := by decide +kernel
theorem dX12_oneWeek_57 : decode cX12_oneWeek 57 = .ok (.iadd, 1) := by decide +kernel
theorem dX12_oneWeek_58 : decode cX12_oneWeek 58 = .ok (.iastore, 1) := by decide +kernel
theorem dX12_oneWeek_59 : decode cX12_oneWeek 59 = .ok (.aload_n 0, 1) := by decide +kernel
theorem dX12_oneWeek_60 : decode cX12_oneWeek 60 = .ok (.getfield 13, 3) := by decide +kernel
theorem dX12_oneWeek_63 : decode cX12_oneWeek 63 = .ok (.iconst 4, 1) := by decide +kernel
theorem dX12_oneWeek_64 : decode cX12_oneWeek 64 = .ok (.sipush 9999, 3) := by decide +kernel
theorem dX12_oneWeek_67 : decode cX12_oneWeek 67 = .ok (.aload_n 0, 1) := by decide +kernel
theorem dX12_oneWeek_68 : decode cX12_oneWeek 68 = .ok (.getfield 13, 3) := by decide +kernel
theorem dX12_oneWeek_71 : decode cX12_oneWeek 71 = .ok (.iconst 4, 1) := by decide +kernel
theorem dX12_oneWeek_72 : decode cX12_oneWeek 72 = .ok (.iaload, 1) := by decide +kernel
theorem dX12_oneWeek_73 : decode cX12_oneWeek 73 = .ok (.iconst 1, 1) := by decide +kernel
theorem dX12_oneWeek_74 : decode cX12_oneWeek 74 = .ok (.iadd, 1) := by decide +kernel
theorem dX12_oneWeek_75 : decode cX12_oneWeek 75 = .ok (.invokestatic 303, 3) := by decide +kernel
theorem dX12_oneWeek_78 : decode cX12_oneWeek 78 = .ok (.iastore, 1) := by decide +kernel
theorem dX12_oneWeek_79 : decode cX12_oneWeek 79 = .ok (.iload_n 1, 1) := by decide +kernel
theorem dX12_oneWeek_80 : decode cX12_oneWeek 80 = .ok (.ireturn, 1) := by decide +kernel
theorem dX12_weeks_0 : decode cX12_weeks 0 = .ok (.aload_n 0, 1) := by decide +kernel
theorem dX12_weeks_1 : decode cX12_weeks 1 = .ok (.iconst 0, 1) := by decide +kernel
theorem dX12_weeks_2 : decode cX12_weeks 2 = .ok (.putfield 3, 3) := by decide +kernel
theorem dX12_weeks_5 : decode cX12_weeks 5 = .ok (.aload_n 0, 1) := by decide +kernel
theorem dX12_weeks_6 : decode cX12_weeks 6 = .ok (.iload_n 1, 1) := by decide +kernel
theorem dX12_weeks_7 : decode cX12_weeks 7 = .ok (.iconst 1, 1) := by decide +kernel
theorem dX12_weeks_8 : decode cX12_weeks 8 = .ok (.bipush 60, 2) := by decide +kernel
theorem dX12_weeks_10 : decode cX12_weeks 10 = .ok (.invokestatic 78, 3) := by decide +kernel
theorem dX12_weeks_13 : decode cX12_weeks 13 = .ok (.ifCond .ne 7, 3) := by decide +kernel
theorem dX12_weeks_16 : decode cX12_weeks 16 = .ok (.iconst 1, 1) := by decide +kernel
theorem dX12_weeks_17 : decode cX12_weeks 17 = .ok (.goto 4, 3) := by decide +kernel
theorem dX12_weeks_20 : decode cX12_weeks 20 = .ok (.iconst 0, 1) := by decide +kernel
theorem dX12_weeks_21 : decode cX12_weeks 21 = .ok (.iconst 1, 1) := by decide +kernel
theorem dX12_weeks_22 : decode cX12_weeks 22 = .ok (.invokevirtual 254, 3) := by decide +kernel
theorem dX12_weeks_25 : decode cX12_weeks 25 = .ok (.ifCond .eq 5, 3) := by decide +kernel
theorem dX12_weeks_28 : decode cX12_weeks 28 = .ok (.iconst 0, 1) := by decide +kernel
theorem dX12_weeks_29 : decode cX12_weeks 29 = .ok (.ireturn, 1) := by decide +kernel
theorem dX12_weeks_30 : decode cX12_weeks 30 = .ok (.aload_n 0, 1) := by decide +kernel
theorem dX12_weeks_31 : decode cX12_weeks 31 = .ok (.invokevirtual 340, 3) := by decide +kernel
theorem dX12_weeks_34 : decode cX12_weeks 34 = .ok (.iconst 0, 1) := by decide +kernel
theorem dX12_weeks_35 : decode cX12_weeks 35 = .ok (.istore_n 2, 1) := by decide +kernel
theorem dX12_weeks_36 : decode cX12_weeks 36 = .ok (.iconst 0, 1) := by decide +kernel
theorem dX12_weeks_37 : decode cX12_weeks 37 = .ok (.istore_n 3, 1) := by decide +kernel
theorem dX12_weeks_38 : decode cX12_weeks 38 = .ok (.iload_n 3, 1) := by decide +kernel
theorem dX12_weeks_39 : decode cX12_weeks 39 = .ok (.iload_n 1, 1) := by decide +kernel
theorem dX12_weeks_40 : decode cX12_weeks 40 = .ok (.if_icmp .ge 16, 3) := by decide +kernel
theorem dX12_weeks_43 : decode cX12_weeks 43 = .ok (.iload_n 2, 1) := by decide +kernel
theorem dX12_weeks_44 : decode cX12_weeks 44 = .ok (.aload_n 0, 1) := by decide +kernel
theorem dX12_weeks_45 : decode cX12_weeks 45 = .ok (.invokevirtual 353, 3) := by decide +kernel
theorem dX12_weeks_48 : decode cX12_weeks 48 = .ok (.iadd, 1) := by decide +kernel
theorem dX12_weeks_49 : decode cX12_weeks 49 = .ok (.istore_n 2, 1) := by decide +kernel
theorem dX12_weeks_50 : decode cX12_weeks 50 = .ok (.iinc 3 1, 3) := by decide +kernel
theorem dX12_weeks_53 : decode cX12_weeks 53 = .ok (.goto (-15), 3) := by decide +kernel
theorem dX12_weeks_56 : decode cX12_weeks 56 = .ok (.iload_n 2, 1) := by decide +kernel
theorem dX12_weeks_57 : decode cX12_weeks 57 = .ok (.ireturn, 1) := by decide +kernel
theorem dX12_ahead_0 : decode cX12_ahead 0 = .ok (.aload_n 0, 1) := by decide +kernel
theorem dX12_ahead_1 : decode cX12_ahead 1 = .ok (.iconst 0, 1) := by decide +kernel
theorem dX12_ahead_2 : decode cX12_ahead 2 = .ok (.putfield 3, 3) := by decide +kernel
theorem dX12_ahead_5 : decode cX12_ahead 5 = .ok (.aload_n 0, 1) := by decide +kernel
theorem dX12_ahead_6 : decode cX12_ahead 6 = .ok (.aload_n 0, 1) := by decide +kernel
theorem dX12_ahead_7 : decode cX12_ahead 7 = .ok (.iload_n 1, 1) := by decide +kernel
theorem dX12_ahead_8 : decode cX12_ahead 8 = .ok (.invokevirtual 82, 3) := by decide +kernel
theorem dX12_ahead_11 : decode cX12_ahead 11 = .ok (.iconst 1, 1) := by decide +kernel
theorem dX12_ahead_12 : decode cX12_ahead 12 = .ok (.invokevirtual 254, 3) := by decide +kernel
theorem dX12_ahead_15 : decode cX12_ahead 15 = .ok (.ifCond .ne 37, 3) := by decide +kernel
theorem dX12_ahead_18 : decode cX12_ahead 18 = .ok (.aload_n 0, 1) := by decide +kernel
theorem dX12_ahead_19 : decode cX12_ahead 19 = .ok (.iload_n 2, 1) := by decide +kernel
theorem dX12_ahead_20 : decode cX12_ahead 20 = .ok (.invokestatic 356, 3) := by decide +kernel
theorem dX12_ahead_23 : decode cX12_ahead 23 = .ok (.iconst 2, 1) := by decide +kernel
theorem dX12_ahead_24 : decode cX12_ahead 24 = .ok (.invokevirtual 254, 3) := by decide +kernel
theorem dX12_ahead_27 : decode cX12_ahead 27 = .ok (.ifCond .ne 25, 3) := by decide +kernel
theorem dX12_ahead_30 : decode cX12_ahead 30 = .ok (.aload_n 0, 1) := by decide +kernel
theorem dX12_ahead_31 : decode cX12_ahead 31 = .ok (.iload_n 3, 1) := by decide +kernel
theorem dX12_ahead_32 : decode cX12_ahead 32 = .ok (.iconst 0, 1) := by decide +kernel
theorem dX12_ahead_33 : decode cX12_ahead 33 = .ok (.iconst 2, 1) := by decide +kernel
theorem dX12_ahead_34 : decode cX12_ahead 34 = .ok (.invokestatic 78, 3) := by decide +kernel
theorem dX12_ahead_37 : decode cX12_ahead 37 = .ok (.ifCond .ne 7, 3) := by decide +kernel
theorem dX12_ahead_40 : decode cX12_ahead 40 = .ok (.iconst 1, 1) := by decide +kernel
theorem dX12_ahead_41 : decode cX12_ahead 41 = .ok (.goto 4, 3) := by decide +kernel
theorem dX12_ahead_44 : decode cX12_ahead 44 = .ok (.iconst 0, 1) := by decide +kernel
theorem dX12_ahead_45 : decode cX12_ahead 45 = .ok (.iconst 3, 1) := by decide +kernel
theorem dX12_ahead_46 : decode cX12_ahead 46 = .ok (.invokevirtual 254, 3) := by decide +kernel
theorem dX12_ahead_49 : decode cX12_ahead 49 = .ok (.ifCond .eq 5, 3) := by decide +kernel
theorem dX12_ahead_52 : decode cX12_ahead 52 = .ok (.iconst 0, 1) := by decide +kernel
theorem dX12_ahead_53 : decode cX12_ahead 53 = .ok (.ireturn, 1) := by decide +kernel
theorem dX12_ahead_54 : decode cX12_ahead 54 = .ok (.aload_n 0, 1) := by decide +kernel
theorem dX12_ahead_55 : decode cX12_ahead 55 = .ok (.iload_n 1, 1) := by decide +kernel
theorem dX12_ahead_56 : decode cX12_ahead 56 = .ok (.iload_n 2, 1) := by decide +kernel
theorem dX12_ahead_57 : decode cX12_ahead 57 = .ok (.invokevirtual 359, 3) := by decide +kernel
theorem dX12_ahead_60 : decode cX12_ahead 60 = .ok (.iload_n 3, 1) := by decide +kernel
theorem dX12_ahead_61 : decode cX12_ahead 61 = .ok (.ifCond .ne 10, 3) := by decide +kernel
theorem dX12_ahead_64 : decode cX12_ahead 64 = .ok (.aload_n 0, 1) := by decide +kernel
theorem dX12_ahead_65 : decode cX12_ahead 65 = .ok (.invokevirtual 321, 3) := by decide +kernel
theorem dX12_ahead_68 : decode cX12_ahead 68 = .ok (.goto 19, 3) := by decide +kernel
theorem dX12_ahead_71 : decode cX12_ahead 71 = .ok (.iload_n 3, 1) := by decide +kernel
theorem dX12_ahead_72 : decode cX12_ahead 72 = .ok (.iconst 1, 1) := by decide +kernel
theorem dX12_ahead_73 : decode cX12_ahead 73 = .ok (.if_icmp .ne 10, 3) := by decide +kernel
theorem dX12_ahead_76 : decode cX12_ahead 76 = .ok (.aload_n 0, 1) := by decide +kernel
theorem dX12_ahead_77 : decode cX12_ahead 77 = .ok (.getfield 257, 3) := by decide +kernel
theorem dX12_ahead_80 : decode cX12_ahead 80 = .ok (.goto 7, 3) := by decide +kernel
theorem dX12_ahead_83 : decode cX12_ahead 83 = .ok (.aload_n 0, 1) := by decide +kernel
theorem dX12_ahead_84 : decode cX12_ahead 84 = .ok (.invokevirtual 318, 3) := by decide +kernel
theorem dX12_ahead_87 : decode cX12_ahead 87 = .ok (.ireturn, 1) := by decide +kernel
theorem dX12_holdsKind_0 : decode cX12_holdsKind 0 = .ok (.iconst 0, 1) := by decide +kernel
theorem dX12_holdsKind_1 : decode cX12_holdsKind 1 = .ok (.istore_n 2, 1) := by decide +kernel
theorem dX12_holdsKind_2 : decode cX12_holdsKind 2 = .ok (.iconst 0, 1) := by decide +kernel
theorem dX12_holdsKind_3 : decode cX12_holdsKind 3 = .ok (.istore_n 3, 1) := by decide +kernel
theorem dX12_holdsKind_4 : decode cX12_holdsKind 4 = .ok (.iload_n 3, 1) := by decide +kernel
theorem dX12_holdsKind_5 : decode cX12_holdsKind 5 = .ok (.aload_n 0, 1) := by decide +kernel
theorem dX12_holdsKind_6 : decode cX12_holdsKind 6 = .ok (.getfield 257, 3) := by decide +kernel
theorem dX12_holdsKind_9 : decode cX12_holdsKind 9 = .ok (.if_icmp .ge 29, 3) := by decide +kernel
theorem dX12_holdsKind_12 : decode cX12_holdsKind 12 = .ok (.iload_n 2, 1) := by decide +kernel
theorem dX12_holdsKind_13 : decode cX12_holdsKind 13 = .ok (.ifCond .ne 13, 3) := by decide +kernel
theorem dX12_holdsKind_16 : decode cX12_holdsKind 16 = .ok (.aload_n 0, 1) := by decide +kernel
theorem dX12_holdsKind_17 : decode cX12_holdsKind 17 = .ok (.getfield 42, 3) := by decide +kernel
theorem dX12_holdsKind_20 : decode cX12_holdsKind 20 = .ok (.iload_n 3, 1) := by decide +kernel
theorem dX12_holdsKind_21 : decode cX12_holdsKind 21 = .ok (.iaload, 1) := by decide +kernel
theorem dX12_holdsKind_22 : decode cX12_holdsKind 22 = .ok (.iload_n 1, 1) := by decide +kernel
theorem dX12_holdsKind_23 : decode cX12_holdsKind 23 = .ok (.if_icmp .ne 7, 3) := by decide +kernel
theorem dX12_holdsKind_26 : decode cX12_holdsKind 26 = .ok (.iconst 1, 1) := by decide +kernel
theorem dX12_holdsKind_27 : decode cX12_holdsKind 27 = .ok (.goto 4, 3) := by decide +kernel
theorem dX12_holdsKind_30 : decode cX12_holdsKind 30 = .ok (.iconst 0, 1) := by decide +kernel
theorem dX12_holdsKind_31 : decode cX12_holdsKind 31 = .ok (.istore_n 2, 1) := by decide +kernel
theorem dX12_holdsKind_32 : decode cX12_holdsKind 32 = .ok (.iinc 3 1, 3) := by decide +kernel
theorem dX12_holdsKind_35 : decode cX12_holdsKind 35 = .ok (.goto (-31), 3) := by decide +kernel
theorem dX12_holdsKind_38 : decode cX12_holdsKind 38 = .ok (.iload_n 2, 1) := by decide +kernel
theorem dX12_holdsKind_39 : decode cX12_holdsKind 39 = .ok (.ireturn, 1) := by decide +kernel
theorem dX12_saysBy_0 : decode cX12_saysBy 0 = .ok (.aload_n 0, 1) := by decide +kernel
theorem dX12_saysBy_1 : decode cX12_saysBy 1 = .ok (.iload_n 1, 1) := by decide +kernel
theorem dX12_saysBy_2 : decode cX12_saysBy 2 = .ok (.invokevirtual 311, 3) := by decide +kernel
theorem dX12_saysBy_5 : decode cX12_saysBy 5 = .ok (.iconst 0, 1) := by decide +kernel
theorem dX12_saysBy_6 : decode cX12_saysBy 6 = .ok (.istore 4, 2) := by decide +kernel
theorem dX12_saysBy_8 : decode cX12_saysBy 8 = .ok (.iload 4, 2) := by decide +kernel
theorem dX12_saysBy_10 : decode cX12_saysBy 10 = .ok (.bipush 40, 2) := by decide +kernel
theorem dX12_saysBy_12 : decode cX12_saysBy 12 = .ok (.if_icmp .gt 39, 3) := by decide +kernel
theorem dX12_saysBy_15 : decode cX12_saysBy 15 = .ok (.iload_n 3, 1) := by decide +kernel
theorem dX12_saysBy_16 : decode cX12_saysBy 16 = .ok (.ifCond .eq 14, 3) := by decide +kernel
theorem dX12_saysBy_19 : decode cX12_saysBy 19 = .ok (.aload_n 0, 1) := by decide +kernel
theorem dX12_saysBy_20 : decode cX12_saysBy 20 = .ok (.iload_n 2, 1) := by decide +kernel
theorem dX12_saysBy_21 : decode cX12_saysBy 21 = .ok (.invokevirtual 362, 3) := by decide +kernel
theorem dX12_saysBy_24 : decode cX12_saysBy 24 = .ok (.ifCond .eq 17, 3) := by decide +kernel
theorem dX12_saysBy_27 : decode cX12_saysBy 27 = .ok (.goto 11, 3) := by decide +kernel
theorem dX12_saysBy_30 : decode cX12_saysBy 30 = .ok (.aload_n 0, 1) := by decide +kernel
theorem dX12_saysBy_31 : decode cX12_saysBy 31 = .ok (.invokevirtual 321, 3) := by decide +kernel
theorem dX12_saysBy_34 : decode cX12_saysBy 34 = .ok (.iload_n 2, 1) := by decide +kernel
theorem dX12_saysBy_35 : decode cX12_saysBy 35 = .ok (.if_icmp .ne 6, 3) := by decide +kernel
theorem dX12_saysBy_38 : decode cX12_saysBy 38 = .ok (.iload 4, 2) := by decide +kernel
theorem dX12_saysBy_40 : decode cX12_saysBy 40 = .ok (.ireturn, 1) := by decide +kernel
theorem dX12_saysBy_41 : decode cX12_saysBy 41 = .ok (.aload_n 0, 1) := by decide +kernel
theorem dX12_saysBy_42 : decode cX12_saysBy 42 = .ok (.invokevirtual 308, 3) := by decide +kernel
theorem dX12_saysBy_45 : decode cX12_saysBy 45 = .ok (.iinc 4 1, 3) := by decide +kernel
theorem dX12_saysBy_48 : decode cX12_saysBy 48 = .ok (.goto (-40), 3) := by decide +kernel
theorem dX12_saysBy_51 : decode cX12_saysBy 51 = .ok (.iconst (-1), 1) := by decide +kernel
theorem dX12_saysBy_52 : decode cX12_saysBy 52 = .ok (.ireturn, 1) := by decide +kernel
theorem dX12_says_0 : decode cX12_says 0 = .ok (.aload_n 0, 1) := by decide +kernel
theorem dX12_says_1 : decode cX12_says 1 = .ok (.iconst 0, 1) := by decide +kernel
theorem dX12_says_2 : decode cX12_says 2 = .ok (.putfield 3, 3) := by decide +kernel
theorem dX12_says_5 : decode cX12_says 5 = .ok (.aload_n 0, 1) := by decide +kernel
theorem dX12_says_6 : decode cX12_says 6 = .ok (.aload_n 0, 1) := by decide +kernel
theorem dX12_says_7 : decode cX12_says 7 = .ok (.iload_n 1, 1) := by decide +kernel
theorem dX12_says_8 : decode cX12_says 8 = .ok (.invokevirtual 82, 3) := by decide +kernel
theorem dX12_says_11 : decode cX12_says 11 = .ok (.ifCond .ne 10, 3) := by decide +kernel
theorem dX12_says_14 : decode cX12_says 14 = .ok (.iload_n 2, 1) := by decide +kernel
theorem dX12_says_15 : decode cX12_says 15 = .ok (.invokestatic 327, 3) := by decide +kernel
theorem dX12_says_18 : decode cX12_says 18 = .ok (.ifCond .eq 7, 3) := by decide +kernel
theorem dX12_says_21 : decode cX12_says 21 = .ok (.iconst 1, 1) := by decide +kernel
theorem dX12_says_22 : decode cX12_says 22 = .ok (.goto 4, 3) := by decide +kernel
theorem dX12_says_25 : decode cX12_says 25 = .ok (.iconst 0, 1) := by decide +kernel
theorem dX12_says_26 : decode cX12_says 26 = .ok (.iconst 1, 1) := by decide +kernel
theorem dX12_says_27 : decode cX12_says 27 = .ok (.invokevirtual 254, 3) := by decide +kernel
theorem dX12_says_30 : decode cX12_says 30 = .ok (.ifCond .eq 7, 3) := by decide +kernel
theorem dX12_says_33 : decode cX12_says 33 = .ok (.iconst 0, 1) := by decide +kernel
theorem dX12_says_34 : decode cX12_says 34 = .ok (.goto 10, 3) := by decide +kernel
theorem dX12_says_37 : decode cX12_says 37 = .ok (.aload_n 0, 1) := by decide +kernel
theorem dX12_says_38 : decode cX12_says 38 = .ok (.iload_n 1, 1) := by decide +kernel
theorem dX12_says_39 : decode cX12_says 39 = .ok (.iload_n 2, 1) := by decide +kernel
theorem dX12_says_40 : decode cX12_says 40 = .ok (.iload_n 3, 1) := by decide +kernel
theorem dX12_says_41 : decode cX12_says 41 = .ok (.invokevirtual 365, 3) := by decide +kernel
theorem dX12_says_44 : decode cX12_says 44 = .ok (.ireturn, 1) := by decide +kernel
theorem dX12_stops_0 : decode cX12_stops 0 = .ok (.aload_n 0, 1) := by decide +kernel
theorem dX12_stops_1 : decode cX12_stops 1 = .ok (.iconst 0, 1) := by decide +kernel
theorem dX12_stops_2 : decode cX12_stops 2 = .ok (.putfield 3, 3) := by decide +kernel
theorem dX12_stops_5 : decode cX12_stops 5 = .ok (.aload_n 0, 1) := by decide +kernel
theorem dX12_stops_6 : decode cX12_stops 6 = .ok (.aload_n 0, 1) := by decide +kernel
theorem dX12_stops_7 : decode cX12_stops 7 = .ok (.iload_n 1, 1) := by decide +kernel
theorem dX12_stops_8 : decode cX12_stops 8 = .ok (.invokevirtual 82, 3) := by decide +kernel
theorem dX12_stops_11 : decode cX12_stops 11 = .ok (.iconst 1, 1) := by decide +kernel
theorem dX12_stops_12 : decode cX12_stops 12 = .ok (.invokevirtual 254, 3) := by decide +kernel
theorem dX12_stops_15 : decode cX12_stops 15 = .ok (.ifCond .eq 5, 3) := by decide +kernel
theorem dX12_stops_18 : decode cX12_stops 18 = .ok (.iconst 0, 1) := by decide +kernel
theorem dX12_stops_19 : decode cX12_stops 19 = .ok (.ireturn, 1) := by decide +kernel
theorem dX12_stops_20 : decode cX12_stops 20 = .ok (.aload_n 0, 1) := by decide +kernel
theorem dX12_stops_21 : decode cX12_stops 21 = .ok (.iload_n 1, 1) := by decide +kernel
theorem dX12_stops_22 : decode cX12_stops 22 = .ok (.invokevirtual 311, 3) := by decide +kernel
theorem dX12_stops_25 : decode cX12_stops 25 = .ok (.iconst 0, 1) := by decide +kernel
theorem dX12_stops_26 : decode cX12_stops 26 = .ok (.istore_n 2, 1) := by decide +kernel
theorem dX12_stops_27 : decode cX12_stops 27 = .ok (.iload_n 2, 1) := by decide +kernel
theorem dX12_stops_28 : decode cX12_stops 28 = .ok (.bipush 40, 2) := by decide +kernel
theorem dX12_stops_30 : decode cX12_stops 30 = .ok (.if_icmp .gt 22, 3) := by decide +kernel
theorem dX12_stops_33 : decode cX12_stops 33 = .ok (.aload_n 0, 1) := by decide +kernel
theorem dX12_stops_34 : decode cX12_stops 34 = .ok (.invokevirtual 297, 3) := by decide +kernel
theorem dX12_stops_37 : decode cX12_stops 37 = .ok (.ifCond .ne 5, 3) := by decide +kernel
theorem dX12_stops_40 : decode cX12_stops 40 = .ok (.iload_n 2, 1) := by decide +kernel
theorem dX12_stops_41 : decode cX12_stops 41 = .ok (.ireturn, 1) := by decide +kernel
theorem dX12_stops_42 : decode cX12_stops 42 = .ok (.aload_n 0, 1) := by decide +kernel
theorem dX12_stops_43 : decode cX12_stops 43 = .ok (.invokevirtual 308, 3) := by decide +kernel
theorem dX12_stops_46 : decode cX12_stops 46 = .ok (.iinc 2 1, 3) := by decide +kernel
theorem dX12_stops_49 : decode cX12_stops 49 = .ok (.goto (-22), 3) := by decide +kernel
theorem dX12_stops_52 : decode cX12_stops 52 = .ok (.iconst (-1), 1) := by decide +kernel
theorem dX12_stops_53 : decode cX12_stops 53 = .ok (.ireturn, 1) := by decide +kernel
theorem dX12_stays_0 : decode cX12_stays 0 = .ok (.aload_n 0, 1) := by decide +kernel
theorem dX12_stays_1 : decode cX12_stays 1 = .ok (.iconst 0, 1) := by decide +kernel
theorem dX12_stays_2 : decode cX12_stays 2 = .ok (.putfield 3, 3) := by decide +kernel
theorem dX12_stays_5 : decode cX12_stays 5 = .ok (.aload_n 0, 1) := by decide +kernel
theorem dX12_stays_6 : decode cX12_stays 6 = .ok (.aload_n 0, 1) := by decide +kernel
theorem dX12_stays_7 : decode cX12_stays 7 = .ok (.iload_n 1, 1) := by decide +kernel
theorem dX12_stays_8 : decode cX12_stays 8 = .ok (.invokevirtual 82, 3) := by decide +kernel
theorem dX12_stays_11 : decode cX12_stays 11 = .ok (.ifCond .ne 10, 3) := by decide +kernel
theorem dX12_stays_14 : decode cX12_stays 14 = .ok (.iload_n 2, 1) := by decide +kernel
theorem dX12_stays_15 : decode cX12_stays 15 = .ok (.invokestatic 327, 3) := by decide +kernel
theorem dX12_stays_18 : decode cX12_stays 18 = .ok (.ifCond .eq 7, 3) := by decide +kernel
theorem dX12_stays_21 : decode cX12_stays 21 = .ok (.iconst 1, 1) := by decide +kernel
theorem dX12_stays_22 : decode cX12_stays 22 = .ok (.goto 4, 3) := by decide +kernel
theorem dX12_stays_25 : decode cX12_stays 25 = .ok (.iconst 0, 1) := by decide +kernel
theorem dX12_stays_26 : decode cX12_stays 26 = .ok (.iconst 1, 1) := by decide +kernel
theorem dX12_stays_27 : decode cX12_stays 27 = .ok (.invokevirtual 254, 3) := by decide +kernel
theorem dX12_stays_30 : decode cX12_stays 30 = .ok (.ifCond .eq 5, 3) := by decide +kernel
theorem dX12_stays_33 : decode cX12_stays 33 = .ok (.iconst 0, 1) := by decide +kernel
theorem dX12_stays_34 : decode cX12_stays 34 = .ok (.ireturn, 1) := by decide +kernel
theorem dX12_stays_35 : decode cX12_stays 35 = .ok (.aload_n 0, 1) := by decide +kernel
theorem dX12_stays_36 : decode cX12_stays 36 = .ok (.iload_n 1, 1) := by decide +kernel
theorem dX12_stays_37 : decode cX12_stays 37 = .ok (.iload_n 2, 1) := by decide +kernel
theorem dX12_stays_38 : decode cX12_stays 38 = .ok (.iconst 0, 1) := by decide +kernel
theorem dX12_stays_39 : decode cX12_stays 39 = .ok (.invokevirtual 365, 3) := by decide +kernel
theorem dX12_stays_42 : decode cX12_stays 42 = .ok (.istore_n 3, 1) := by decide +kernel
theorem dX12_stays_43 : decode cX12_stays 43 = .ok (.iload_n 3, 1) := by decide +kernel
theorem dX12_stays_44 : decode cX12_stays 44 = .ok (.ifCond .ge 5, 3) := by decide +kernel
theorem dX12_stays_47 : decode cX12_stays 47 = .ok (.iconst 0, 1) := by decide +kernel
theorem dX12_stays_48 : decode cX12_stays 48 = .ok (.ireturn, 1) := by decide +kernel
theorem dX12_stays_49 : decode cX12_stays 49 = .ok (.aload_n 0, 1) := by decide +kernel
theorem dX12_stays_50 : decode cX12_stays 50 = .ok (.iload_n 1, 1) := by decide +kernel
theorem dX12_stays_51 : decode cX12_stays 51 = .ok (.iload_n 3, 1) := by decide +kernel
theorem dX12_stays_52 : decode cX12_stays 52 = .ok (.invokevirtual 359, 3) := by decide +kernel
theorem dX12_stays_55 : decode cX12_stays 55 = .ok (.iconst 0, 1) := by decide +kernel
theorem dX12_stays_56 : decode cX12_stays 56 = .ok (.istore 4, 2) := by decide +kernel
theorem dX12_stays_58 : decode cX12_stays 58 = .ok (.iload_n 3, 1) := by decide +kernel
theorem dX12_stays_59 : decode cX12_stays 59 = .ok (.iload 4, 2) := by decide +kernel
theorem dX12_stays_61 : decode cX12_stays 61 = .ok (.iadd, 1) := by decide +kernel
theorem dX12_stays_62 : decode cX12_stays 62 = .ok (.bipush 40, 2) := by decide +kernel
theorem dX12_stays_64 : decode cX12_stays 64 = .ok (.if_icmp .gt 21, 3) := by decide +kernel
theorem dX12_stays_67 : decode cX12_stays 67 = .ok (.aload_n 0, 1) := by decide +kernel
theorem dX12_stays_68 : decode cX12_stays 68 = .ok (.invokevirtual 321, 3) := by decide +kernel
theorem dX12_stays_71 : decode cX12_stays 71 = .ok (.iload_n 2, 1) := by decide +kernel
theorem dX12_stays_72 : decode cX12_stays 72 = .ok (.if_icmp .ne 13, 3) := by decide +kernel
theorem dX12_stays_75 : decode cX12_stays 75 = .ok (.iinc 4 1, 3) := by decide +kernel
theorem dX12_stays_78 : decode cX12_stays 78 = .ok (.aload_n 0, 1) := by decide +kernel
theorem dX12_stays_79 : decode cX12_stays 79 = .ok (.invokevirtual 308, 3) := by decide +kernel
theorem dX12_stays_82 : decode cX12_stays 82 = .ok (.goto (-24), 3) := by decide +kernel
theorem dX12_stays_85 : decode cX12_stays 85 = .ok (.iload 4, 2) := by decide +kernel
theorem dX12_stays_87 : decode cX12_stays 87 = .ok (.ireturn, 1) := by decide +kernel
theorem dX12_leads_0 : decode cX12_leads 0 = .ok (.aload_n 0, 1) := by decide +kernel
theorem dX12_leads_1 : decode cX12_leads 1 = .ok (.iload_n 1, 1) := by decide +kernel
theorem dX12_leads_2 : decode cX12_leads 2 = .ok (.bipush 12, 2) := by decide +kernel
theorem dX12_leads_4 : decode cX12_leads 4 = .ok (.if_icmp .ge 7, 3) := by decide +kernel
theorem dX12_leads_7 : decode cX12_leads 7 = .ok (.iconst 1, 1) := by decide +kernel
theorem dX12_leads_8 : decode cX12_leads 8 = .ok (.goto 4, 3) := by decide +kernel
theorem dX12_leads_11 : decode cX12_leads 11 = .ok (.iconst 2, 1) := by decide +kernel
theorem dX12_leads_12 : decode cX12_leads 12 = .ok (.putfield 257, 3) := by decide +kernel
theorem dX12_leads_15 : decode cX12_leads 15 = .ok (.aload_n 0, 1) := by decide +kernel
theorem dX12_leads_16 : decode cX12_leads 16 = .ok (.getfield 42, 3) := by decide +kernel
theorem dX12_leads_19 : decode cX12_leads 19 = .ok (.iconst 0, 1) := by decide +kernel
theorem dX12_leads_20 : decode cX12_leads 20 = .ok (.iload_n 1, 1) := by decide +kernel
theorem dX12_leads_21 : decode cX12_leads 21 = .ok (.bipush 12, 2) := by decide +kernel
theorem dX12_leads_23 : decode cX12_leads 23 = .ok (.if_icmp .ge 7, 3) := by decide +kernel
theorem dX12_leads_26 : decode cX12_leads 26 = .ok (.iload_n 1, 1) := by decide +kernel
theorem dX12_leads_27 : decode cX12_leads 27 = .ok (.goto 10, 3) := by decide +kernel
theorem dX12_leads_30 : decode cX12_leads 30 = .ok (.iload_n 1, 1) := by decide +kernel
theorem dX12_leads_31 : decode cX12_leads 31 = .ok (.bipush 12, 2) := by decide +kernel
theorem dX12_leads_33 : decode cX12_leads 33 = .ok (.isub, 1) := by decide +kernel
theorem dX12_leads_34 : decode cX12_leads 34 = .ok (.bipush 12, 2) := by decide +kernel
theorem dX12_leads_36 : decode cX12_leads 36 = .ok (.idiv, 1) := by decide +kernel
theorem dX12_leads_37 : decode cX12_leads 37 = .ok (.iastore, 1) := by decide +kernel
theorem dX12_leads_38 : decode cX12_leads 38 = .ok (.aload_n 0, 1) := by decide +kernel
theorem dX12_leads_39 : decode cX12_leads 39 = .ok (.getfield 42, 3) := by decide +kernel
theorem dX12_leads_42 : decode cX12_leads 42 = .ok (.iconst 1, 1) := by decide +kernel
theorem dX12_leads_43 : decode cX12_leads 43 = .ok (.iload_n 1, 1) := by decide +kernel
theorem dX12_leads_44 : decode cX12_leads 44 = .ok (.bipush 12, 2) := by decide +kernel
theorem dX12_leads_46 : decode cX12_leads 46 = .ok (.irem, 1) := by decide +kernel
theorem dX12_leads_47 : decode cX12_leads 47 = .ok (.iastore, 1) := by decide +kernel
theorem dX12_leads_48 : decode cX12_leads 48 = .ok (.aload_n 0, 1) := by decide +kernel
theorem dX12_leads_49 : decode cX12_leads 49 = .ok (.iload_n 3, 1) := by decide +kernel
theorem dX12_leads_50 : decode cX12_leads 50 = .ok (.putfield 260, 3) := by decide +kernel
theorem dX12_leads_53 : decode cX12_leads 53 = .ok (.aload_n 0, 1) := by decide +kernel
theorem dX12_leads_54 : decode cX12_leads 54 = .ok (.iload_n 2, 1) := by decide +kernel
theorem dX12_leads_55 : decode cX12_leads 55 = .ok (.putfield 267, 3) := by decide +kernel
theorem dX12_leads_58 : decode cX12_leads 58 = .ok (.aload_n 0, 1) := by decide +kernel
theorem dX12_leads_59 : decode cX12_leads 59 = .ok (.iconst 0, 1) := by decide +kernel
theorem dX12_leads_60 : decode cX12_leads 60 = .ok (.putfield 292, 3) := by decide +kernel
theorem dX12_leads_63 : decode cX12_leads 63 = .ok (.aload_n 0, 1) := by decide +kernel
theorem dX12_leads_64 : decode cX12_leads 64 = .ok (.iconst 0, 1) := by decide +kernel
theorem dX12_leads_65 : decode cX12_leads 65 = .ok (.putfield 269, 3) := by decide +kernel
theorem dX12_leads_68 : decode cX12_leads 68 = .ok (.aload_n 0, 1) := by decide +kernel
theorem dX12_leads_69 : decode cX12_leads 69 = .ok (.aload_n 0, 1) := by decide +kernel
theorem dX12_leads_70 : decode cX12_leads 70 = .ok (.getfield 13, 3) := by decide +kernel
theorem dX12_leads_73 : decode cX12_leads 73 = .ok (.iconst 4, 1) := by decide +kernel
theorem dX12_leads_74 : decode cX12_leads 74 = .ok (.iaload, 1) := by decide +kernel
theorem dX12_leads_75 : decode cX12_leads 75 = .ok (.putfield 262, 3) := by decide +kernel
theorem dX12_leads_78 : decode cX12_leads 78 = .ok (.aload_n 0, 1) := by decide +kernel
theorem dX12_leads_79 : decode cX12_leads 79 = .ok (.iload 5, 2) := by decide +kernel
theorem dX12_leads_81 : decode cX12_leads 81 = .ok (.invokevirtual 315, 3) := by decide +kernel
theorem dX12_leads_84 : decode cX12_leads 84 = .ok (.aload_n 0, 1) := by decide +kernel
theorem dX12_leads_85 : decode cX12_leads 85 = .ok (.invokevirtual 321, 3) := by decide +kernel
theorem dX12_leads_88 : decode cX12_leads 88 = .ok (.iload 4, 2) := by decide +kernel
theorem dX12_leads_90 : decode cX12_leads 90 = .ok (.if_icmp .ne 7, 3) := by decide +kernel
theorem dX12_leads_93 : decode cX12_leads 93 = .ok (.iconst 1, 1) := by decide +kernel
theorem dX12_leads_94 : decode cX12_leads 94 = .ok (.goto 4, 3) := by decide +kernel
theorem dX12_leads_97 : decode cX12_leads 97 = .ok (.iconst 0, 1) := by decide +kernel
theorem dX12_leads_98 : decode cX12_leads 98 = .ok (.ireturn, 1) := by decide +kernel
theorem dX12_send_0 : decode cX12_send 0 = .ok (.aload_n 0, 1) := by decide +kernel
theorem dX12_send_1 : decode cX12_send 1 = .ok (.iconst 0, 1) := by decide +kernel
theorem dX12_send_2 : decode cX12_send 2 = .ok (.putfield 3, 3) := by decide +kernel
theorem dX12_send_5 : decode cX12_send 5 = .ok (.aload_n 0, 1) := by decide +kernel
theorem dX12_send_6 : decode cX12_send 6 = .ok (.iload_n 3, 1) := by decide +kernel
theorem dX12_send_7 : decode cX12_send 7 = .ok (.invokestatic 327, 3) := by decide +kernel
theorem dX12_send_10 : decode cX12_send 10 = .ok (.iconst 1, 1) := by decide +kernel
theorem dX12_send_11 : decode cX12_send 11 = .ok (.invokevirtual 254, 3) := by decide +kernel
theorem dX12_send_14 : decode cX12_send 14 = .ok (.ifCond .ne 32, 3) := by decide +kernel
theorem dX12_send_17 : decode cX12_send 17 = .ok (.aload_n 0, 1) := by decide +kernel
theorem dX12_send_18 : decode cX12_send 18 = .ok (.iload_n 1, 1) := by decide +kernel
theorem dX12_send_19 : decode cX12_send 19 = .ok (.iload_n 2, 1) := by decide +kernel
theorem dX12_send_20 : decode cX12_send 20 = .ok (.invokestatic 337, 3) := by decide +kernel
theorem dX12_send_23 : decode cX12_send 23 = .ok (.ifCond .ne 11, 3) := by decide +kernel
theorem dX12_send_26 : decode cX12_send 26 = .ok (.iload 4, 2) := by decide +kernel
theorem dX12_send_28 : decode cX12_send 28 = .ok (.invokestatic 356, 3) := by decide +kernel
theorem dX12_send_31 : decode cX12_send 31 = .ok (.ifCond .eq 7, 3) := by decide +kernel
theorem dX12_send_34 : decode cX12_send 34 = .ok (.iconst 1, 1) := by decide +kernel
theorem dX12_send_35 : decode cX12_send 35 = .ok (.goto 4, 3) := by decide +kernel
theorem dX12_send_38 : decode cX12_send 38 = .ok (.iconst 0, 1) := by decide +kernel
theorem dX12_send_39 : decode cX12_send 39 = .ok (.iconst 2, 1) := by decide +kernel
theorem dX12_send_40 : decode cX12_send 40 = .ok (.invokevirtual 254, 3) := by decide +kernel
theorem dX12_send_43 : decode cX12_send 43 = .ok (.ifCond .eq 5, 3) := by decide +kernel
theorem dX12_send_46 : decode cX12_send 46 = .ok (.iconst 0, 1) := by decide +kernel
theorem dX12_send_47 : decode cX12_send 47 = .ok (.ireturn, 1) := by decide +kernel
theorem dX12_send_48 : decode cX12_send 48 = .ok (.iconst (-1), 1) := by decide +kernel
theorem dX12_send_49 : decode cX12_send 49 = .ok (.istore 6, 2) := by decide +kernel
theorem dX12_send_51 : decode cX12_send 51 = .ok (.iconst 0, 1) := by decide +kernel
theorem dX12_send_52 : decode cX12_send 52 = .ok (.istore 7, 2) := by decide +kernel
theorem dX12_send_54 : decode cX12_send 54 = .ok (.iconst 0, 1) := by decide +kernel
theorem dX12_send_55 : decode cX12_send 55 = .ok (.istore 8, 2) := by decide +kernel
theorem dX12_send_57 : decode cX12_send 57 = .ok (.iload 8, 2) := by decide +kernel
theorem dX12_send_59 : decode cX12_send 59 = .ok (.sipush 156, 3) := by decide +kernel
theorem dX12_send_62 : decode cX12_send 62 = .ok (.if_icmp .ge 43, 3) := by decide +kernel
theorem dX12_send_65 : decode cX12_send 65 = .ok (.aload_n 0, 1) := by decide +kernel
theorem dX12_send_66 : decode cX12_send 66 = .ok (.iload 8, 2) := by decide +kernel
theorem dX12_send_68 : decode cX12_send 68 = .ok (.iload_n 1, 1) := by decide +kernel
theorem dX12_send_69 : decode cX12_send 69 = .ok (.iload_n 2, 1) := by decide +kernel
theorem dX12_send_70 : decode cX12_send 70 = .ok (.iload_n 3, 1) := by decide +kernel
theorem dX12_send_71 : decode cX12_send 71 = .ok (.iload 4, 2) := by decide +kernel
theorem dX12_send_73 : decode cX12_send 73 = .ok (.invokevirtual 369, 3) := by decide +kernel
theorem dX12_send_76 : decode cX12_send 76 = .ok (.ifCond .ne 6, 3) := by decide +kernel
theorem dX12_send_79 : decode cX12_send 79 = .ok (.goto 20, 3) := by decide +kernel
theorem dX12_send_82 : decode cX12_send 82 = .ok (.iload 6, 2) := by decide +kernel
theorem dX12_send_84 : decode cX12_send 84 = .ok (.ifCond .ge 8, 3) := by decide +kernel
theorem dX12_send_87 : decode cX12_send 87 = .ok (.iload 8, 2) := by decide +kernel
theorem dX12_send_89 : decode cX12_send 89 = .ok (.goto 5, 3) := by decide +kernel
theorem dX12_send_92 : decode cX12_send 92 = .ok (.iload 6, 2) := by decide +kernel
theorem dX12_send_94 : decode cX12_send 94 = .ok (.istore 6, 2) := by decide +kernel
theorem dX12_send_96 : decode cX12_send 96 = .ok (.iinc 7 1, 3) := by decide +kernel
theorem dX12_send_99 : decode cX12_send 99 = .ok (.iinc 8 1, 3) := by decide +kernel
theorem dX12_send_102 : decode cX12_send 102 = .ok (.goto (-45), 3) := by decide +kernel
theorem dX12_send_105 : decode cX12_send 105 = .ok (.iload 5, 2) := by decide +kernel
theorem dX12_send_107 : decode cX12_send 107 = .ok (.ifCond .eq 8, 3) := by decide +kernel
theorem dX12_send_110 : decode cX12_send 110 = .ok (.iload 7, 2) := by decide +kernel
theorem dX12_send_112 : decode cX12_send 112 = .ok (.goto 5, 3) := by decide +kernel
theorem dX12_send_115 : decode cX12_send 115 = .ok (.iload 6, 2) := by decide +kernel
theorem dX12_send_117 : decode cX12_send 117 = .ok (.ireturn, 1) := by decide +kernel
theorem dX12_cuts_0 : decode cX12_cuts 0 = .ok (.aload_n 0, 1) := by decide +kernel
theorem dX12_cuts_1 : decode cX12_cuts 1 = .ok (.iconst 0, 1) := by decide +kernel
theorem dX12_cuts_2 : decode cX12_cuts 2 = .ok (.putfield 3, 3) := by decide +kernel
theorem dX12_cuts_5 : decode cX12_cuts 5 = .ok (.aload_n 0, 1) := by decide +kernel
theorem dX12_cuts_6 : decode cX12_cuts 6 = .ok (.aload_n 0, 1) := by decide +kernel
theorem dX12_cuts_7 : decode cX12_cuts 7 = .ok (.iload_n 1, 1) := by decide +kernel
theorem dX12_cuts_8 : decode cX12_cuts 8 = .ok (.invokevirtual 82, 3) := by decide +kernel
theorem dX12_cuts_11 : decode cX12_cuts 11 = .ok (.ifCond .ne 10, 3) := by decide +kernel
theorem dX12_cuts_14 : decode cX12_cuts 14 = .ok (.iload_n 2, 1) := by decide +kernel
theorem dX12_cuts_15 : decode cX12_cuts 15 = .ok (.invokestatic 327, 3) := by decide +kernel
theorem dX12_cuts_18 : decode cX12_cuts 18 = .ok (.ifCond .eq 7, 3) := by decide +kernel
theorem dX12_cuts_21 : decode cX12_cuts 21 = .ok (.iconst 1, 1) := by decide +kernel
theorem dX12_cuts_22 : decode cX12_cuts 22 = .ok (.goto 4, 3) := by decide +kernel
theorem dX12_cuts_25 : decode cX12_cuts 25 = .ok (.iconst 0, 1) := by decide +kernel
theorem dX12_cuts_26 : decode cX12_cuts 26 = .ok (.iconst 1, 1) := by decide +kernel
theorem dX12_cuts_27 : decode cX12_cuts 27 = .ok (.invokevirtual 254, 3) := by decide +kernel
theorem dX12_cuts_30 : decode cX12_cuts 30 = .ok (.ifCond .ne 15, 3) := by decide +kernel
theorem dX12_cuts_33 : decode cX12_cuts 33 = .ok (.aload_n 0, 1) := by decide +kernel
theorem dX12_cuts_34 : decode cX12_cuts 34 = .ok (.iload_n 3, 1) := by decide +kernel
theorem dX12_cuts_35 : decode cX12_cuts 35 = .ok (.invokestatic 356, 3) := by decide +kernel
theorem dX12_cuts_38 : decode cX12_cuts 38 = .ok (.iconst 2, 1) := by decide +kernel
theorem dX12_cuts_39 : decode cX12_cuts 39 = .ok (.invokevirtual 254, 3) := by decide +kernel
theorem dX12_cuts_42 : decode cX12_cuts 42 = .ok (.ifCond .eq 5, 3) := by decide +kernel
theorem dX12_cuts_45 : decode cX12_cuts 45 = .ok (.iconst 0, 1) := by decide +kernel
theorem dX12_cuts_46 : decode cX12_cuts 46 = .ok (.ireturn, 1) := by decide +kernel
theorem dX12_cuts_47 : decode cX12_cuts 47 = .ok (.iconst 0, 1) := by decide +kernel
theorem dX12_cuts_48 : decode cX12_cuts 48 = .ok (.istore 5, 2) := by decide +kernel
theorem dX12_cuts_50 : decode cX12_cuts 50 = .ok (.iload 5, 2) := by decide +kernel
theorem dX12_cuts_52 : decode cX12_cuts 52 = .ok (.aload_n 0, 1) := by decide +kernel
theorem dX12_cuts_53 : decode cX12_cuts 53 = .ok (.iload_n 1, 1) := by decide +kernel
theorem dX12_cuts_54 : decode cX12_cuts 54 = .ok (.invokevirtual 86, 3) := by decide +kernel
theorem dX12_cuts_57 : decode cX12_cuts 57 = .ok (.if_icmp .ge 51, 3) := by decide +kernel
theorem dX12_cuts_60 : decode cX12_cuts 60 = .ok (.aload_n 0, 1) := by decide +kernel
theorem dX12_cuts_61 : decode cX12_cuts 61 = .ok (.iload_n 1, 1) := by decide +kernel
theorem dX12_cuts_62 : decode cX12_cuts 62 = .ok (.invokevirtual 311, 3) := by decide +kernel
theorem dX12_cuts_65 : decode cX12_cuts 65 = .ok (.aload_n 0, 1) := by decide +kernel
theorem dX12_cuts_66 : decode cX12_cuts 66 = .ok (.dup, 1) := by decide +kernel
theorem dX12_cuts_67 : decode cX12_cuts 67 = .ok (.getfield 257, 3) := by decide +kernel
theorem dX12_cuts_70 : decode cX12_cuts 70 = .ok (.iload 5, 2) := by decide +kernel
theorem dX12_cuts_72 : decode cX12_cuts 72 = .ok (.isub, 1) := by decide +kernel
theorem dX12_cuts_73 : decode cX12_cuts 73 = .ok (.putfield 257, 3) := by decide +kernel
theorem dX12_cuts_76 : decode cX12_cuts 76 = .ok (.aload_n 0, 1) := by decide +kernel
theorem dX12_cuts_77 : decode cX12_cuts 77 = .ok (.iload_n 3, 1) := by decide +kernel
theorem dX12_cuts_78 : decode cX12_cuts 78 = .ok (.invokevirtual 315, 3) := by decide +kernel
theorem dX12_cuts_81 : decode cX12_cuts 81 = .ok (.aload_n 0, 1) := by decide +kernel
theorem dX12_cuts_82 : decode cX12_cuts 82 = .ok (.invokevirtual 321, 3) := by decide +kernel
theorem dX12_cuts_85 : decode cX12_cuts 85 = .ok (.iload_n 2, 1) := by decide +kernel
theorem dX12_cuts_86 : decode cX12_cuts 86 = .ok (.if_icmp .ne 7, 3) := by decide +kernel
theorem dX12_cuts_89 : decode cX12_cuts 89 = .ok (.iconst 1, 1) := by decide +kernel
theorem dX12_cuts_90 : decode cX12_cuts 90 = .ok (.goto 4, 3) := by decide +kernel
theorem dX12_cuts_93 : decode cX12_cuts 93 = .ok (.iconst 0, 1) := by decide +kernel
theorem dX12_cuts_94 : decode cX12_cuts 94 = .ok (.iload 4, 2) := by decide +kernel
theorem dX12_cuts_96 : decode cX12_cuts 96 = .ok (.if_icmp .eq 6, 3) := by decide +kernel
theorem dX12_cuts_99 : decode cX12_cuts 99 = .ok (.iload 5, 2) := by decide +kernel
theorem dX12_cuts_101 : decode cX12_cuts 101 = .ok (.ireturn, 1) := by decide +kernel
theorem dX12_cuts_102 : decode cX12_cuts 102 = .ok (.iinc 5 1, 3) := by decide +kernel
theorem dX12_cuts_105 : decode cX12_cuts 105 = .ok (.goto (-55), 3) := by decide +kernel
theorem dX12_cuts_108 : decode cX12_cuts 108 = .ok (.iconst (-1), 1) := by decide +kernel
theorem dX12_cuts_109 : decode cX12_cuts 109 = .ok (.ireturn, 1) := by decide +kernel
theorem dX12_out_0 : decode cX12_out 0 = .ok (.aload_n 0, 1) := by decide +kernel
theorem dX12_out_1 : decode cX12_out 1 = .ok (.iconst 0, 1) := by decide +kernel
theorem dX12_out_2 : decode cX12_out 2 = .ok (.putfield 3, 3) := by decide +kernel
theorem dX12_out_5 : decode cX12_out 5 = .ok (.aload_n 0, 1) := by decide +kernel
theorem dX12_out_6 : decode cX12_out 6 = .ok (.aload_n 0, 1) := by decide +kernel
theorem dX12_out_7 : decode cX12_out 7 = .ok (.iload_n 1, 1) := by decide +kernel
theorem dX12_out_8 : decode cX12_out 8 = .ok (.invokevirtual 82, 3) := by decide +kernel
theorem dX12_out_11 : decode cX12_out 11 = .ok (.ifCond .ne 10, 3) := by decide +kernel
theorem dX12_out_14 : decode cX12_out 14 = .ok (.iload_n 2, 1) := by decide +kernel
theorem dX12_out_15 : decode cX12_out 15 = .ok (.invokestatic 327, 3) := by decide +kernel
theorem dX12_out_18 : decode cX12_out 18 = .ok (.ifCond .eq 7, 3) := by decide +kernel
theorem dX12_out_21 : decode cX12_out 21 = .ok (.iconst 1, 1) := by decide +kernel
theorem dX12_out_22 : decode cX12_out 22 = .ok (.goto 4, 3) := by decide +kernel
theorem dX12_out_25 : decode cX12_out 25 = .ok (.iconst 0, 1) := by decide +kernel
theorem dX12_out_26 : decode cX12_out 26 = .ok (.iconst 1, 1) := by decide +kernel
theorem dX12_out_27 : decode cX12_out 27 = .ok (.invokevirtual 254, 3) := by decide +kernel
theorem dX12_out_30 : decode cX12_out 30 = .ok (.ifCond .ne 15, 3) := by decide +kernel
theorem dX12_out_33 : decode cX12_out 33 = .ok (.aload_n 0, 1) := by decide +kernel
theorem dX12_out_34 : decode cX12_out 34 = .ok (.iload_n 3, 1) := by decide +kernel
theorem dX12_out_35 : decode cX12_out 35 = .ok (.invokestatic 356, 3) := by decide +kernel
theorem dX12_out_38 : decode cX12_out 38 = .ok (.iconst 2, 1) := by decide +kernel
theorem dX12_out_39 : decode cX12_out 39 = .ok (.invokevirtual 254, 3) := by decide +kernel
theorem dX12_out_42 : decode cX12_out 42 = .ok (.ifCond .eq 5, 3) := by decide +kernel
theorem dX12_out_45 : decode cX12_out 45 = .ok (.iconst 0, 1) := by decide +kernel
theorem dX12_out_46 : decode cX12_out 46 = .ok (.ireturn, 1) := by decide +kernel
theorem dX12_out_47 : decode cX12_out 47 = .ok (.iconst 0, 1) := by decide +kernel
theorem dX12_out_48 : decode cX12_out 48 = .ok (.istore 5, 2) := by decide +kernel
theorem dX12_out_50 : decode cX12_out 50 = .ok (.iconst 0, 1) := by decide +kernel
theorem dX12_out_51 : decode cX12_out 51 = .ok (.istore 6, 2) := by decide +kernel
theorem dX12_out_53 : decode cX12_out 53 = .ok (.iload 6, 2) := by decide +kernel
theorem dX12_out_55 : decode cX12_out 55 = .ok (.aload_n 0, 1) := by decide +kernel
theorem dX12_out_56 : decode cX12_out 56 = .ok (.iload_n 1, 1) := by decide +kernel
theorem dX12_out_57 : decode cX12_out 57 = .ok (.invokevirtual 86, 3) := by decide +kernel
theorem dX12_out_60 : decode cX12_out 60 = .ok (.if_icmp .ge 106, 3) := by decide +kernel
theorem dX12_out_63 : decode cX12_out 63 = .ok (.aload_n 0, 1) := by decide +kernel
theorem dX12_out_64 : decode cX12_out 64 = .ok (.iload_n 1, 1) := by decide +kernel
theorem dX12_out_65 : decode cX12_out 65 = .ok (.invokevirtual 86, 3) := by decide +kernel
theorem dX12_out_68 : decode cX12_out 68 = .ok (.iconst 1, 1) := by decide +kernel
theorem dX12_out_69 : decode cX12_out 69 = .ok (.if_icmp .le 97, 3) := by decide +kernel
theorem dX12_out_72 : decode cX12_out 72 = .ok (.aload_n 0, 1) := by decide +kernel
theorem dX12_out_73 : decode cX12_out 73 = .ok (.iload_n 1, 1) := by decide +kernel
theorem dX12_out_74 : decode cX12_out 74 = .ok (.invokevirtual 311, 3) := by decide +kernel
theorem dX12_out_77 : decode cX12_out 77 = .ok (.iload 6, 2) := by decide +kernel
theorem dX12_out_79 : decode cX12_out 79 = .ok (.istore 7, 2) := by decide +kernel
theorem dX12_out_81 : decode cX12_out 81 = .ok (.iload 7, 2) := by decide +kernel
theorem dX12_out_83 : decode cX12_out 83 = .ok (.iconst 1, 1) := by decide +kernel
theorem dX12_out_84 : decode cX12_out 84 = .ok (.iadd, 1) := by decide +kernel
theorem dX12_out_85 : decode cX12_out 85 = .ok (.aload_n 0, 1) := by decide +kernel
theorem dX12_out_86 : decode cX12_out 86 = .ok (.getfield 257, 3) := by decide +kernel
theorem dX12_out_89 : decode cX12_out 89 = .ok (.if_icmp .ge 25, 3) := by decide +kernel
theorem dX12_out_92 : decode cX12_out 92 = .ok (.aload_n 0, 1) := by decide +kernel
theorem dX12_out_93 : decode cX12_out 93 = .ok (.getfield 42, 3) := by decide +kernel
theorem dX12_out_96 : decode cX12_out 96 = .ok (.iload 7, 2) := by decide +kernel
theorem dX12_out_98 : decode cX12_out 98 = .ok (.aload_n 0, 1) := by decide +kernel
theorem dX12_out_99 : decode cX12_out 99 = .ok (.getfield 42, 3) := by decide +kernel
theorem dX12_out_102 : decode cX12_out 102 = .ok (.iload 7, 2) := by decide +kernel
theorem dX12_out_104 : decode cX12_out 104 = .ok (.iconst 1, 1) := by decide +kernel
theorem dX12_out_105 : decode cX12_out 105 = .ok (.iadd, 1) := by decide +kernel
theorem dX12_out_106 : decode cX12_out 106 = .ok (.iaload, 1) := by decide +kernel
theorem dX12_out_107 : decode cX12_out 107 = .ok (.iastore, 1) := by decide +kernel
theorem dX12_out_108 : decode cX12_out 108 = .ok (.iinc 7 1, 3) := by decide +kernel
theorem dX12_out_111 : decode cX12_out 111 = .ok (.goto (-30), 3) := by decide +kernel
theorem dX12_out_114 : decode cX12_out 114 = .ok (.aload_n 0, 1) := by decide +kernel
theorem dX12_out_115 : decode cX12_out 115 = .ok (.dup, 1) := by decide +kernel
theorem dX12_out_116 : decode cX12_out 116 = .ok (.getfield 257, 3) := by decide +kernel
theorem dX12_out_119 : decode cX12_out 119 = .ok (.iconst 1, 1) := by decide +kernel
theorem dX12_out_120 : decode cX12_out 120 = .ok (.isub, 1) := by decide +kernel
theorem dX12_out_121 : decode cX12_out 121 = .ok (.putfield 257, 3) := by decide +kernel
theorem dX12_out_124 : decode cX12_out 124 = .ok (.aload_n 0, 1) := by decide +kernel
theorem dX12_out_125 : decode cX12_out 125 = .ok (.iload_n 3, 1) := by decide +kernel
theorem dX12_out_126 : decode cX12_out 126 = .ok (.invokevirtual 315, 3) := by decide +kernel
theorem dX12_out_129 : decode cX12_out 129 = .ok (.iload 5, 2) := by decide +kernel
theorem dX12_out_131 : decode cX12_out 131 = .ok (.aload_n 0, 1) := by decide +kernel
theorem dX12_out_132 : decode cX12_out 132 = .ok (.invokevirtual 321, 3) := by decide +kernel
theorem dX12_out_135 : decode cX12_out 135 = .ok (.iload_n 2, 1) := by decide +kernel
theorem dX12_out_136 : decode cX12_out 136 = .ok (.if_icmp .ne 7, 3) := by decide +kernel
theorem dX12_out_139 : decode cX12_out 139 = .ok (.iconst 1, 1) := by decide +kernel
theorem dX12_out_140 : decode cX12_out 140 = .ok (.goto 4, 3) := by decide +kernel
theorem dX12_out_143 : decode cX12_out 143 = .ok (.iconst 0, 1) := by decide +kernel
theorem dX12_out_144 : decode cX12_out 144 = .ok (.iload 4, 2) := by decide +kernel
theorem dX12_out_146 : decode cX12_out 146 = .ok (.if_icmp .eq 10, 3) := by decide +kernel
theorem dX12_out_149 : decode cX12_out 149 = .ok (.iconst 1, 1) := by decide +kernel
theorem dX12_out_150 : decode cX12_out 150 = .ok (.iload 6, 2) := by decide +kernel
theorem dX12_out_152 : decode cX12_out 152 = .ok (.ishl, 1) := by decide +kernel
theorem dX12_out_153 : decode cX12_out 153 = .ok (.goto 4, 3) := by decide +kernel
theorem dX12_out_156 : decode cX12_out 156 = .ok (.iconst 0, 1) := by decide +kernel
theorem dX12_out_157 : decode cX12_out 157 = .ok (.ior, 1) := by decide +kernel
theorem dX12_out_158 : decode cX12_out 158 = .ok (.istore 5, 2) := by decide +kernel
theorem dX12_out_160 : decode cX12_out 160 = .ok (.iinc 6 1, 3) := by decide +kernel
theorem dX12_out_163 : decode cX12_out 163 = .ok (.goto (-110), 3) := by decide +kernel
theorem dX12_out_166 : decode cX12_out 166 = .ok (.iload 5, 2) := by decide +kernel
theorem dX12_out_168 : decode cX12_out 168 = .ok (.ireturn, 1) := by decide +kernel
theorem dX12_astrayOf_0 : decode cX12_astrayOf 0 = .ok (.iconst 0, 1) := by decide +kernel
theorem dX12_astrayOf_1 : decode cX12_astrayOf 1 = .ok (.istore_n 2, 1) := by decide +kernel
theorem dX12_astrayOf_2 : decode cX12_astrayOf 2 = .ok (.aload_n 0, 1) := by decide +kernel
theorem dX12_astrayOf_3 : decode cX12_astrayOf 3 = .ok (.iload_n 1, 1) := by decide +kernel
theorem dX12_astrayOf_4 : decode cX12_astrayOf 4 = .ok (.invokevirtual 86, 3) := by decide +kernel
theorem dX12_astrayOf_7 : decode cX12_astrayOf 7 = .ok (.istore_n 3, 1) := by decide +kernel
theorem dX12_astrayOf_8 : decode cX12_astrayOf 8 = .ok (.iconst 1, 1) := by decide +kernel
theorem dX12_astrayOf_9 : decode cX12_astrayOf 9 = .ok (.istore 4, 2) := by decide +kernel
theorem dX12_astrayOf_11 : decode cX12_astrayOf 11 = .ok (.iload 4, 2) := by decide +kernel
theorem dX12_astrayOf_13 : decode cX12_astrayOf 13 = .ok (.iload_n 3, 1) := by decide +kernel
theorem dX12_astrayOf_14 : decode cX12_astrayOf 14 = .ok (.if_icmp .ge 54, 3) := by decide +kernel
theorem dX12_astrayOf_17 : decode cX12_astrayOf 17 = .ok (.aload_n 0, 1) := by decide +kernel
theorem dX12_astrayOf_18 : decode cX12_astrayOf 18 = .ok (.iload 4, 2) := by decide +kernel
theorem dX12_astrayOf_20 : decode cX12_astrayOf 20 = .ok (.putfield 257, 3) := by decide +kernel
theorem dX12_astrayOf_23 : decode cX12_astrayOf 23 = .ok (.aload_n 0, 1) := by decide +kernel
theorem dX12_astrayOf_24 : decode cX12_astrayOf 24 = .ok (.aload_n 0, 1) := by decide +kernel
theorem dX12_astrayOf_25 : decode cX12_astrayOf 25 = .ok (.iload_n 1, 1) := by decide +kernel
theorem dX12_astrayOf_26 : decode cX12_astrayOf 26 = .ok (.bipush 29, 2) := by decide +kernel
theorem dX12_astrayOf_28 : decode cX12_astrayOf 28 = .ok (.iload 4, 2) := by decide +kernel
theorem dX12_astrayOf_30 : decode cX12_astrayOf 30 = .ok (.iadd, 1) := by decide +kernel
theorem dX12_astrayOf_31 : decode cX12_astrayOf 31 = .ok (.invokevirtual 71, 3) := by decide +kernel
theorem dX12_astrayOf_34 : decode cX12_astrayOf 34 = .ok (.putfield 262, 3) := by decide +kernel
theorem dX12_astrayOf_37 : decode cX12_astrayOf 37 = .ok (.iload_n 2, 1) := by decide +kernel
theorem dX12_astrayOf_38 : decode cX12_astrayOf 38 = .ok (.aload_n 0, 1) := by decide +kernel
theorem dX12_astrayOf_39 : decode cX12_astrayOf 39 = .ok (.invokevirtual 294, 3) := by decide +kernel
theorem dX12_astrayOf_42 : decode cX12_astrayOf 42 = .ok (.aload_n 0, 1) := by decide +kernel
theorem dX12_astrayOf_43 : decode cX12_astrayOf 43 = .ok (.iload_n 1, 1) := by decide +kernel
theorem dX12_astrayOf_44 : decode cX12_astrayOf 44 = .ok (.iload 4, 2) := by decide +kernel
theorem dX12_astrayOf_46 : decode cX12_astrayOf 46 = .ok (.invokevirtual 286, 3) := by decide +kernel
theorem dX12_astrayOf_49 : decode cX12_astrayOf 49 = .ok (.if_icmp .eq 10, 3) := by decide +kernel
theorem dX12_astrayOf_52 : decode cX12_astrayOf 52 = .ok (.iconst 1, 1) := by decide +kernel
theorem dX12_astrayOf_53 : decode cX12_astrayOf 53 = .ok (.iload 4, 2) := by decide +kernel
theorem dX12_astrayOf_55 : decode cX12_astrayOf 55 = .ok (.ishl, 1) := by decide +kernel
theorem dX12_astrayOf_56 : decode cX12_astrayOf 56 = .ok (.goto 4, 3) := by decide +kernel
theorem dX12_astrayOf_59 : decode cX12_astrayOf 59 = .ok (.iconst 0, 1) := by decide +kernel
theorem dX12_astrayOf_60 : decode cX12_astrayOf 60 = .ok (.ior, 1) := by decide +kernel
theorem dX12_astrayOf_61 : decode cX12_astrayOf 61 = .ok (.istore_n 2, 1) := by decide +kernel
theorem dX12_astrayOf_62 : decode cX12_astrayOf 62 = .ok (.iinc 4 1, 3) := by decide +kernel
theorem dX12_astrayOf_65 : decode cX12_astrayOf 65 = .ok (.goto (-54), 3) := by decide +kernel
theorem dX12_astrayOf_68 : decode cX12_astrayOf 68 = .ok (.iload_n 2, 1) := by decide +kernel
theorem dX12_astrayOf_69 : decode cX12_astrayOf 69 = .ok (.ireturn, 1) := by decide +kernel
theorem dX12_astray_0 : decode cX12_astray 0 = .ok (.aload_n 0, 1) := by decide +kernel
theorem dX12_astray_1 : decode cX12_astray 1 = .ok (.iconst 0, 1) := by decide +kernel
theorem dX12_astray_2 : decode cX12_astray 2 = .ok (.putfield 3, 3) := by decide +kernel
theorem dX12_astray_5 : decode cX12_astray 5 = .ok (.aload_n 0, 1) := by decide +kernel
theorem dX12_astray_6 : decode cX12_astray 6 = .ok (.aload_n 0, 1) := by decide +kernel
theorem dX12_astray_7 : decode cX12_astray 7 = .ok (.iload_n 1, 1) := by decide +kernel
theorem dX12_astray_8 : decode cX12_astray 8 = .ok (.invokevirtual 82, 3) := by decide +kernel
theorem dX12_astray_11 : decode cX12_astray 11 = .ok (.iconst 1, 1) := by decide +kernel
theorem dX12_astray_12 : decode cX12_astray 12 = .ok (.invokevirtual 254, 3) := by decide +kernel
theorem dX12_astray_15 : decode cX12_astray 15 = .ok (.ifCond .eq 5, 3) := by decide +kernel
theorem dX12_astray_18 : decode cX12_astray 18 = .ok (.iconst 0, 1) := by decide +kernel
theorem dX12_astray_19 : decode cX12_astray 19 = .ok (.ireturn, 1) := by decide +kernel
theorem dX12_astray_20 : decode cX12_astray 20 = .ok (.aload_n 0, 1) := by decide +kernel
theorem dX12_astray_21 : decode cX12_astray 21 = .ok (.iload_n 1, 1) := by decide +kernel
theorem dX12_astray_22 : decode cX12_astray 22 = .ok (.invokevirtual 311, 3) := by decide +kernel
theorem dX12_astray_25 : decode cX12_astray 25 = .ok (.aload_n 0, 1) := by decide +kernel
theorem dX12_astray_26 : decode cX12_astray 26 = .ok (.iload_n 1, 1) := by decide +kernel
theorem dX12_astray_27 : decode cX12_astray 27 = .ok (.invokevirtual 373, 3) := by decide +kernel
theorem dX12_astray_30 : decode cX12_astray 30 = .ok (.ireturn, 1) := by decide +kernel
theorem dX12_written_0 : decode cX12_written 0 = .ok (.aload_n 0, 1) := by decide +kernel
theorem dX12_written_1 : decode cX12_written 1 = .ok (.iconst 0, 1) := by decide +kernel
theorem dX12_written_2 : decode cX12_written 2 = .ok (.putfield 3, 3) := by decide +kernel
theorem dX12_written_5 : decode cX12_written 5 = .ok (.aload_n 0, 1) := by decide +kernel
theorem dX12_written_6 : decode cX12_written 6 = .ok (.aload_n 0, 1) := by decide +kernel
theorem dX12_written_7 : decode cX12_written 7 = .ok (.iload_n 1, 1) := by decide +kernel
theorem dX12_written_8 : decode cX12_written 8 = .ok (.invokevirtual 82, 3) := by decide +kernel
theorem dX12_written_11 : decode cX12_written 11 = .ok (.iconst 1, 1) := by decide +kernel
theorem dX12_written_12 : decode cX12_written 12 = .ok (.invokevirtual 254, 3) := by decide +kernel
theorem dX12_written_15 : decode cX12_written 15 = .ok (.ifCond .eq 5, 3) := by decide +kernel
theorem dX12_written_18 : decode cX12_written 18 = .ok (.iconst 0, 1) := by decide +kernel
theorem dX12_written_19 : decode cX12_written 19 = .ok (.ireturn, 1) := by decide +kernel
theorem dX12_written_20 : decode cX12_written 20 = .ok (.aload_n 0, 1) := by decide +kernel
theorem dX12_written_21 : decode cX12_written 21 = .ok (.iload_n 1, 1) := by decide +kernel
theorem dX12_written_22 : decode cX12_written 22 = .ok (.invokevirtual 311, 3) := by decide +kernel
theorem dX12_written_25 : decode cX12_written 25 = .ok (.aload_n 0, 1) := by decide +kernel
theorem dX12_written_26 : decode cX12_written 26 = .ok (.iload_n 1, 1) := by decide +kernel
theorem dX12_written_27 : decode cX12_written 27 = .ok (.invokevirtual 373, 3) := by decide +kernel
theorem dX12_written_30 : decode cX12_written 30 = .ok (.istore_n 2, 1) := by decide +kernel
theorem dX12_written_31 : decode cX12_written 31 = .ok (.iload_n 2, 1) := by decide +kernel
theorem dX12_written_32 : decode cX12_written 32 = .ok (.ifCond .ne 7, 3) := by decide +kernel
theorem dX12_written_35 : decode cX12_written 35 = .ok (.iconst 1, 1) := by decide +kernel
theorem dX12_written_36 : decode cX12_written 36 = .ok (.goto 10, 3) := by decide +kernel
theorem dX12_written_39 : decode cX12_written 39 = .ok (.bipush 32, 2) := by decide +kernel
theorem dX12_written_41 : decode cX12_written 41 = .ok (.iload_n 2, 1) := by decide +kernel
theorem dX12_written_42 : decode cX12_written 42 = .ok (.invokestatic 376, 3) := by decide +kernel
theorem dX12_written_45 : decode cX12_written 45 = .ok (.isub, 1) := by decide +kernel
theorem dX12_written_46 : decode cX12_written 46 = .ok (.ireturn, 1) := by decide +kernel
theorem dX12_hasSense_0 : decode cX12_hasSense 0 = .ok (.iconst 0, 1) := by decide +kernel
theorem dX12_hasSense_1 : decode cX12_hasSense 1 = .ok (.istore_n 3, 1) := by decide +kernel
theorem dX12_hasSense_2 : decode cX12_hasSense 2 = .ok (.iconst 0, 1) := by decide +kernel
theorem dX12_hasSense_3 : decode cX12_hasSense 3 = .ok (.istore 4, 2) := by decide +kernel
theorem dX12_hasSense_5 : decode cX12_hasSense 5 = .ok (.iload 4, 2) := by decide +kernel
theorem dX12_hasSense_7 : decode cX12_hasSense 7 = .ok (.aload_n 0, 1) := by decide +kernel
theorem dX12_hasSense_8 : decode cX12_hasSense 8 = .ok (.invokevirtual 274, 3) := by decide +kernel
theorem dX12_hasSense_11 : decode cX12_hasSense 11 = .ok (.if_icmp .ge 39, 3) := by decide +kernel
theorem dX12_hasSense_14 : decode cX12_hasSense 14 = .ok (.iload_n 3, 1) := by decide +kernel
theorem dX12_hasSense_15 : decode cX12_hasSense 15 = .ok (.ifCond .ne 23, 3) := by decide +kernel
theorem dX12_hasSense_18 : decode cX12_hasSense 18 = .ok (.aload_n 0, 1) := by decide +kernel
theorem dX12_hasSense_19 : decode cX12_hasSense 19 = .ok (.iload 4, 2) := by decide +kernel
theorem dX12_hasSense_21 : decode cX12_hasSense 21 = .ok (.invokevirtual 277, 3) := by decide +kernel
theorem dX12_hasSense_24 : decode cX12_hasSense 24 = .ok (.iload_n 1, 1) := by decide +kernel
theorem dX12_hasSense_25 : decode cX12_hasSense 25 = .ok (.if_icmp .ne 17, 3) := by decide +kernel
theorem dX12_hasSense_28 : decode cX12_hasSense 28 = .ok (.aload_n 0, 1) := by decide +kernel
theorem dX12_hasSense_29 : decode cX12_hasSense 29 = .ok (.iload 4, 2) := by decide +kernel
theorem dX12_hasSense_31 : decode cX12_hasSense 31 = .ok (.invokevirtual 283, 3) := by decide +kernel
theorem dX12_hasSense_34 : decode cX12_hasSense 34 = .ok (.iload_n 2, 1) := by decide +kernel
theorem dX12_hasSense_35 : decode cX12_hasSense 35 = .ok (.if_icmp .ne 7, 3) := by decide +kernel
theorem dX12_hasSense_38 : decode cX12_hasSense 38 = .ok (.iconst 1, 1) := by decide +kernel
theorem dX12_hasSense_39 : decode cX12_hasSense 39 = .ok (.goto 4, 3) := by decide +kernel
theorem dX12_hasSense_42 : decode cX12_hasSense 42 = .ok (.iconst 0, 1) := by decide +kernel
theorem dX12_hasSense_43 : decode cX12_hasSense 43 = .ok (.istore_n 3, 1) := by decide +kernel
theorem dX12_hasSense_44 : decode cX12_hasSense 44 = .ok (.iinc 4 1, 3) := by decide +kernel
theorem dX12_hasSense_47 : decode cX12_hasSense 47 = .ok (.goto (-42), 3) := by decide +kernel
theorem dX12_hasSense_50 : decode cX12_hasSense 50 = .ok (.iload_n 3, 1) := by decide +kernel
theorem dX12_hasSense_51 : decode cX12_hasSense 51 = .ok (.ireturn, 1) := by decide +kernel
theorem dX12_senseless_0 : decode cX12_senseless 0 = .ok (.aload_n 0, 1) := by decide +kernel
theorem dX12_senseless_1 : decode cX12_senseless 1 = .ok (.iconst 0, 1) := by decide +kernel
theorem dX12_senseless_2 : decode cX12_senseless 2 = .ok (.putfield 3, 3) := by decide +kernel
theorem dX12_senseless_5 : decode cX12_senseless 5 = .ok (.aload_n 0, 1) := by decide +kernel
theorem dX12_senseless_6 : decode cX12_senseless 6 = .ok (.aload_n 0, 1) := by decide +kernel
theorem dX12_senseless_7 : decode cX12_senseless 7 = .ok (.iload_n 1, 1) := by decide +kernel
theorem dX12_senseless_8 : decode cX12_senseless 8 = .ok (.invokevirtual 82, 3) := by decide +kernel
theorem dX12_senseless_11 : decode cX12_senseless 11 = .ok (.iconst 1, 1) := by decide +kernel
theorem dX12_senseless_12 : decode cX12_senseless 12 = .ok (.invokevirtual 254, 3) := by decide +kernel
theorem dX12_senseless_15 : decode cX12_senseless 15 = .ok (.ifCond .eq 5, 3) := by decide +kernel
theorem dX12_senseless_18 : decode cX12_senseless 18 = .ok (.iconst 0, 1) := by decide +kernel
theorem dX12_senseless_19 : decode cX12_senseless 19 = .ok (.ireturn, 1) := by decide +kernel
theorem dX12_senseless_20 : decode cX12_senseless 20 = .ok (.iconst 1, 1) := by decide +kernel
theorem dX12_senseless_21 : decode cX12_senseless 21 = .ok (.istore_n 2, 1) := by decide +kernel
theorem dX12_senseless_22 : decode cX12_senseless 22 = .ok (.iload_n 2, 1) := by decide +kernel
theorem dX12_senseless_23 : decode cX12_senseless 23 = .ok (.aload_n 0, 1) := by decide +kernel
theorem dX12_senseless_24 : decode cX12_senseless 24 = .ok (.iload_n 1, 1) := by decide +kernel
theorem dX12_senseless_25 : decode cX12_senseless 25 = .ok (.invokevirtual 86, 3) := by decide +kernel
theorem dX12_senseless_28 : decode cX12_senseless 28 = .ok (.if_icmp .ge 32, 3) := by decide +kernel
theorem dX12_senseless_31 : decode cX12_senseless 31 = .ok (.aload_n 0, 1) := by decide +kernel
theorem dX12_senseless_32 : decode cX12_senseless 32 = .ok (.aload_n 0, 1) := by decide +kernel
theorem dX12_senseless_33 : decode cX12_senseless 33 = .ok (.iload_n 1, 1) := by decide +kernel
theorem dX12_senseless_34 : decode cX12_senseless 34 = .ok (.iload_n 2, 1) := by decide +kernel
theorem dX12_senseless_35 : decode cX12_senseless 35 = .ok (.iconst 1, 1) := by decide +kernel
theorem dX12_senseless_36 : decode cX12_senseless 36 = .ok (.isub, 1) := by decide +kernel
theorem dX12_senseless_37 : decode cX12_senseless 37 = .ok (.invokevirtual 286, 3) := by decide +kernel
theorem dX12_senseless_40 : decode cX12_senseless 40 = .ok (.aload_n 0, 1) := by decide +kernel
theorem dX12_senseless_41 : decode cX12_senseless 41 = .ok (.iload_n 1, 1) := by decide +kernel
theorem dX12_senseless_42 : decode cX12_senseless 42 = .ok (.iload_n 2, 1) := by decide +kernel
theorem dX12_senseless_43 : decode cX12_senseless 43 = .ok (.invokevirtual 286, 3) := by decide +kernel
theorem dX12_senseless_46 : decode cX12_senseless 46 = .ok (.invokevirtual 381, 3) := by decide +kernel
theorem dX12_senseless_49 : decode cX12_senseless 49 = .ok (.ifCond .ne 5, 3) := by decide +kernel
theorem dX12_senseless_52 : decode cX12_senseless 52 = .ok (.iload_n 2, 1) := by decide +kernel
theorem dX12_senseless_53 : decode cX12_senseless 53 = .ok (.ireturn, 1) := by decide +kernel
theorem dX12_senseless_54 : decode cX12_senseless 54 = .ok (.iinc 2 1, 3) := by decide +kernel
theorem dX12_senseless_57 : decode cX12_senseless 57 = .ok (.goto (-35), 3) := by decide +kernel
theorem dX12_senseless_60 : decode cX12_senseless 60 = .ok (.iconst (-1), 1) := by decide +kernel
theorem dX12_senseless_61 : decode cX12_senseless 61 = .ok (.ireturn, 1) := by decide +kernel
theorem dX12_author_0 : decode cX12_author 0 = .ok (.aload_n 0, 1) := by decide +kernel
theorem dX12_author_1 : decode cX12_author 1 = .ok (.iconst 0, 1) := by decide +kernel
theorem dX12_author_2 : decode cX12_author 2 = .ok (.putfield 3, 3) := by decide +kernel
theorem dX12_author_5 : decode cX12_author 5 = .ok (.aload_n 0, 1) := by decide +kernel
theorem dX12_author_6 : decode cX12_author 6 = .ok (.aload_n 0, 1) := by decide +kernel
theorem dX12_author_7 : decode cX12_author 7 = .ok (.iload_n 1, 1) := by decide +kernel
theorem dX12_author_8 : decode cX12_author 8 = .ok (.invokevirtual 82, 3) := by decide +kernel
theorem dX12_author_11 : decode cX12_author 11 = .ok (.iconst 1, 1) := by decide +kernel
theorem dX12_author_12 : decode cX12_author 12 = .ok (.invokevirtual 254, 3) := by decide +kernel
theorem dX12_author_15 : decode cX12_author 15 = .ok (.ifCond .eq 5, 3) := by decide +kernel
theorem dX12_author_18 : decode cX12_author 18 = .ok (.iconst 0, 1) := by decide +kernel
theorem dX12_author_19 : decode cX12_author 19 = .ok (.ireturn, 1) := by decide +kernel
theorem dX12_author_20 : decode cX12_author 20 = .ok (.iconst 0, 1) := by decide +kernel
theorem dX12_author_21 : decode cX12_author 21 = .ok (.istore_n 3, 1) := by decide +kernel
theorem dX12_author_22 : decode cX12_author 22 = .ok (.sipush 1000, 3) := by decide +kernel
theorem dX12_author_25 : decode cX12_author 25 = .ok (.istore 4, 2) := by decide +kernel
theorem dX12_author_27 : decode cX12_author 27 = .ok (.iconst 0, 1) := by decide +kernel
theorem dX12_author_28 : decode cX12_author 28 = .ok (.istore 5, 2) := by decide +kernel
theorem dX12_author_30 : decode cX12_author 30 = .ok (.iload 5, 2) := by decide +kernel
theorem dX12_author_32 : decode cX12_author 32 = .ok (.bipush 10, 2) := by decide +kernel
theorem dX12_author_34 : decode cX12_author 34 = .ok (.if_icmp .ge 75, 3) := by decide +kernel
theorem dX12_author_37 : decode cX12_author 37 = .ok (.aload_n 0, 1) := by decide +kernel
theorem dX12_author_38 : decode cX12_author 38 = .ok (.iload_n 1, 1) := by decide +kernel
theorem dX12_author_39 : decode cX12_author 39 = .ok (.invokevirtual 311, 3) := by decide +kernel
theorem dX12_author_42 : decode cX12_author 42 = .ok (.aload_n 0, 1) := by decide +kernel
theorem dX12_author_43 : decode cX12_author 43 = .ok (.iload_n 2, 1) := by decide +kernel
theorem dX12_author_44 : decode cX12_author 44 = .ok (.ifCond .eq 8, 3) := by decide +kernel
theorem dX12_author_47 : decode cX12_author 47 = .ok (.iload 5, 2) := by decide +kernel
theorem dX12_author_49 : decode cX12_author 49 = .ok (.goto 7, 3) := by decide +kernel
theorem dX12_author_52 : decode cX12_author 52 = .ok (.aload_n 0, 1) := by decide +kernel
theorem dX12_author_53 : decode cX12_author 53 = .ok (.getfield 267, 3) := by decide +kernel
theorem dX12_author_56 : decode cX12_author 56 = .ok (.putfield 267, 3) := by decide +kernel
theorem dX12_author_59 : decode cX12_author 59 = .ok (.aload_n 0, 1) := by decide +kernel
theorem dX12_author_60 : decode cX12_author 60 = .ok (.iload_n 2, 1) := by decide +kernel
theorem dX12_author_61 : decode cX12_author 61 = .ok (.ifCond .eq 10, 3) := by decide +kernel
theorem dX12_author_64 : decode cX12_author 64 = .ok (.aload_n 0, 1) := by decide +kernel
theorem dX12_author_65 : decode cX12_author 65 = .ok (.getfield 260, 3) := by decide +kernel
theorem dX12_author_68 : decode cX12_author 68 = .ok (.goto 5, 3) := by decide +kernel
theorem dX12_author_71 : decode cX12_author 71 = .ok (.iload 5, 2) := by decide +kernel
theorem dX12_author_73 : decode cX12_author 73 = .ok (.putfield 260, 3) := by decide +kernel
theorem dX12_author_76 : decode cX12_author 76 = .ok (.aload_n 0, 1) := by decide +kernel
theorem dX12_author_77 : decode cX12_author 77 = .ok (.iload_n 1, 1) := by decide +kernel
theorem dX12_author_78 : decode cX12_author 78 = .ok (.invokevirtual 373, 3) := by decide +kernel
theorem dX12_author_81 : decode cX12_author 81 = .ok (.invokestatic 384, 3) := by decide +kernel
theorem dX12_author_84 : decode cX12_author 84 = .ok (.istore 6, 2) := by decide +kernel
theorem dX12_author_86 : decode cX12_author 86 = .ok (.iload 6, 2) := by decide +kernel
theorem dX12_author_88 : decode cX12_author 88 = .ok (.iload 4, 2) := by decide +kernel
theorem dX12_author_90 : decode cX12_author 90 = .ok (.if_icmp .lt 6, 3) := by decide +kernel
theorem dX12_author_93 : decode cX12_author 93 = .ok (.goto 10, 3) := by decide +kernel
theorem dX12_author_96 : decode cX12_author 96 = .ok (.iload 5, 2) := by decide +kernel
theorem dX12_author_98 : decode cX12_author 98 = .ok (.istore_n 3, 1) := by decide +kernel
theorem dX12_author_99 : decode cX12_author 99 = .ok (.iload 6, 2) := by decide +kernel
theorem dX12_author_101 : decode cX12_author 101 = .ok (.istore 4, 2) := by decide +kernel
theorem dX12_author_103 : decode cX12_author 103 = .ok (.iinc 5 1, 3) := by decide +kernel
theorem dX12_author_106 : decode cX12_author 106 = .ok (.goto (-76), 3) := by decide +kernel
theorem dX12_author_109 : decode cX12_author 109 = .ok (.iload_n 3, 1) := by decide +kernel
theorem dX12_author_110 : decode cX12_author 110 = .ok (.ireturn, 1) := by decide +kernel
theorem dX12_growsAll_0 : decode cX12_growsAll 0 = .ok (.aload_n 0, 1) := by decide +kernel
theorem dX12_growsAll_1 : decode cX12_growsAll 1 = .ok (.iload_n 1, 1) := by decide +kernel
theorem dX12_growsAll_2 : decode cX12_growsAll 2 = .ok (.invokevirtual 311, 3) := by decide +kernel
theorem dX12_growsAll_5 : decode cX12_growsAll 5 = .ok (.iconst 0, 1) := by decide +kernel
theorem dX12_growsAll_6 : decode cX12_growsAll 6 = .ok (.istore_n 2, 1) := by decide +kernel
theorem dX12_growsAll_7 : decode cX12_growsAll 7 = .ok (.iload_n 2, 1) := by decide +kernel
theorem dX12_growsAll_8 : decode cX12_growsAll 8 = .ok (.bipush 40, 2) := by decide +kernel
theorem dX12_growsAll_10 : decode cX12_growsAll 10 = .ok (.if_icmp .gt 23, 3) := by decide +kernel
theorem dX12_growsAll_13 : decode cX12_growsAll 13 = .ok (.aload_n 0, 1) := by decide +kernel
theorem dX12_growsAll_14 : decode cX12_growsAll 14 = .ok (.getfield 48, 3) := by decide +kernel
theorem dX12_growsAll_17 : decode cX12_growsAll 17 = .ok (.iload_n 2, 1) := by decide +kernel
theorem dX12_growsAll_18 : decode cX12_growsAll 18 = .ok (.aload_n 0, 1) := by decide +kernel
theorem dX12_growsAll_19 : decode cX12_growsAll 19 = .ok (.getfield 257, 3) := by decide +kernel
theorem dX12_growsAll_22 : decode cX12_growsAll 22 = .ok (.iastore, 1) := by decide +kernel
theorem dX12_growsAll_23 : decode cX12_growsAll 23 = .ok (.aload_n 0, 1) := by decide +kernel
theorem dX12_growsAll_24 : decode cX12_growsAll 24 = .ok (.invokevirtual 308, 3) := by decide +kernel
theorem dX12_growsAll_27 : decode cX12_growsAll 27 = .ok (.iinc 2 1, 3) := by decide +kernel
theorem dX12_growsAll_30 : decode cX12_growsAll 30 = .ok (.goto (-23), 3) := by decide +kernel
theorem dX12_growsAll_33 : decode cX12_growsAll 33 = .ok (.iconst 0, 1) := by decide +kernel
theorem dX12_growsAll_34 : decode cX12_growsAll 34 = .ok (.istore_n 2, 1) := by decide +kernel
theorem dX12_growsAll_35 : decode cX12_growsAll 35 = .ok (.iload_n 2, 1) := by decide +kernel
theorem dX12_growsAll_36 : decode cX12_growsAll 36 = .ok (.aload_n 0, 1) := by decide +kernel
theorem dX12_growsAll_37 : decode cX12_growsAll 37 = .ok (.getfield 257, 3) := by decide +kernel
