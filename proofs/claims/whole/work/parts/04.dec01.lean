theorem dX3_begin_25 : decode cX3_begin 25 = .ok (.return_, 1) := by decide +kernel
theorem dX3_add_0 : decode cX3_add 0 = .ok (.aload_n 0, 1) := by decide +kernel
theorem dX3_add_1 : decode cX3_add 1 = .ok (.getfield 24, 3) := by decide +kernel
theorem dX3_add_4 : decode cX3_add 4 = .ok (.bipush 24, 2) := by decide +kernel
theorem dX3_add_6 : decode cX3_add 6 = .ok (.if_icmp .ge 33, 3) := by decide +kernel
theorem dX3_add_9 : decode cX3_add 9 = .ok (.aload_n 0, 1) := by decide +kernel
theorem dX3_add_10 : decode cX3_add 10 = .ok (.getfield 9, 3) := by decide +kernel
theorem dX3_add_13 : decode cX3_add 13 = .ok (.aload_n 0, 1) := by decide +kernel
theorem dX3_add_14 : decode cX3_add 14 = .ok (.getfield 24, 3) := by decide +kernel
theorem dX3_add_17 : decode cX3_add 17 = .ok (.iload_n 1, 1) := by decide +kernel
theorem dX3_add_18 : decode cX3_add 18 = .ok (.iastore, 1) := by decide +kernel
theorem dX3_add_19 : decode cX3_add 19 = .ok (.aload_n 0, 1) := by decide +kernel
theorem dX3_add_20 : decode cX3_add 20 = .ok (.getfield 15, 3) := by decide +kernel
theorem dX3_add_23 : decode cX3_add 23 = .ok (.aload_n 0, 1) := by decide +kernel
theorem dX3_add_24 : decode cX3_add 24 = .ok (.getfield 24, 3) := by decide +kernel
theorem dX3_add_27 : decode cX3_add 27 = .ok (.iload_n 2, 1) := by decide +kernel
theorem dX3_add_28 : decode cX3_add 28 = .ok (.iastore, 1) := by decide +kernel
theorem dX3_add_29 : decode cX3_add 29 = .ok (.aload_n 0, 1) := by decide +kernel
theorem dX3_add_30 : decode cX3_add 30 = .ok (.dup, 1) := by decide +kernel
theorem dX3_add_31 : decode cX3_add 31 = .ok (.getfield 24, 3) := by decide +kernel
theorem dX3_add_34 : decode cX3_add 34 = .ok (.iconst 1, 1) := by decide +kernel
theorem dX3_add_35 : decode cX3_add 35 = .ok (.iadd, 1) := by decide +kernel
theorem dX3_add_36 : decode cX3_add 36 = .ok (.putfield 24, 3) := by decide +kernel
theorem dX3_add_39 : decode cX3_add 39 = .ok (.return_, 1) := by decide +kernel
theorem dX3_shorten_0 : decode cX3_shorten 0 = .ok (.iload_n 1, 1) := by decide +kernel
theorem dX3_shorten_1 : decode cX3_shorten 1 = .ok (.ifCond .lt 21, 3) := by decide +kernel
theorem dX3_shorten_4 : decode cX3_shorten 4 = .ok (.iload_n 1, 1) := by decide +kernel
theorem dX3_shorten_5 : decode cX3_shorten 5 = .ok (.aload_n 0, 1) := by decide +kernel
theorem dX3_shorten_6 : decode cX3_shorten 6 = .ok (.getfield 24, 3) := by decide +kernel
theorem dX3_shorten_9 : decode cX3_shorten 9 = .ok (.if_icmp .gt 13, 3) := by decide +kernel
theorem dX3_shorten_12 : decode cX3_shorten 12 = .ok (.aload_n 0, 1) := by decide +kernel
theorem dX3_shorten_13 : decode cX3_shorten 13 = .ok (.dup, 1) := by decide +kernel
theorem dX3_shorten_14 : decode cX3_shorten 14 = .ok (.getfield 24, 3) := by decide +kernel
theorem dX3_shorten_17 : decode cX3_shorten 17 = .ok (.iload_n 1, 1) := by decide +kernel
theorem dX3_shorten_18 : decode cX3_shorten 18 = .ok (.isub, 1) := by decide +kernel
theorem dX3_shorten_19 : decode cX3_shorten 19 = .ok (.putfield 24, 3) := by decide +kernel
theorem dX3_shorten_22 : decode cX3_shorten 22 = .ok (.return_, 1) := by decide +kernel
theorem dX3_drop_0 : decode cX3_drop 0 = .ok (.iload_n 1, 1) := by decide +kernel
theorem dX3_drop_1 : decode cX3_drop 1 = .ok (.ifCond .lt 11, 3) := by decide +kernel
theorem dX3_drop_4 : decode cX3_drop 4 = .ok (.iload_n 1, 1) := by decide +kernel
theorem dX3_drop_5 : decode cX3_drop 5 = .ok (.aload_n 0, 1) := by decide +kernel
theorem dX3_drop_6 : decode cX3_drop 6 = .ok (.getfield 24, 3) := by decide +kernel
theorem dX3_drop_9 : decode cX3_drop 9 = .ok (.if_icmp .lt 4, 3) := by decide +kernel
theorem dX3_drop_12 : decode cX3_drop 12 = .ok (.return_, 1) := by decide +kernel
theorem dX3_drop_13 : decode cX3_drop 13 = .ok (.iload_n 1, 1) := by decide +kernel
theorem dX3_drop_14 : decode cX3_drop 14 = .ok (.istore_n 2, 1) := by decide +kernel
theorem dX3_drop_15 : decode cX3_drop 15 = .ok (.iload_n 2, 1) := by decide +kernel
theorem dX3_drop_16 : decode cX3_drop 16 = .ok (.iconst 1, 1) := by decide +kernel
theorem dX3_drop_17 : decode cX3_drop 17 = .ok (.iadd, 1) := by decide +kernel
theorem dX3_drop_18 : decode cX3_drop 18 = .ok (.aload_n 0, 1) := by decide +kernel
theorem dX3_drop_19 : decode cX3_drop 19 = .ok (.getfield 24, 3) := by decide +kernel
theorem dX3_drop_22 : decode cX3_drop 22 = .ok (.if_icmp .ge 37, 3) := by decide +kernel
theorem dX3_drop_25 : decode cX3_drop 25 = .ok (.aload_n 0, 1) := by decide +kernel
theorem dX3_drop_26 : decode cX3_drop 26 = .ok (.getfield 9, 3) := by decide +kernel
theorem dX3_drop_29 : decode cX3_drop 29 = .ok (.iload_n 2, 1) := by decide +kernel
theorem dX3_drop_30 : decode cX3_drop 30 = .ok (.aload_n 0, 1) := by decide +kernel
theorem dX3_drop_31 : decode cX3_drop 31 = .ok (.getfield 9, 3) := by decide +kernel
theorem dX3_drop_34 : decode cX3_drop 34 = .ok (.iload_n 2, 1) := by decide +kernel
theorem dX3_drop_35 : decode cX3_drop 35 = .ok (.iconst 1, 1) := by decide +kernel
theorem dX3_drop_36 : decode cX3_drop 36 = .ok (.iadd, 1) := by decide +kernel
theorem dX3_drop_37 : decode cX3_drop 37 = .ok (.iaload, 1) := by decide +kernel
theorem dX3_drop_38 : decode cX3_drop 38 = .ok (.iastore, 1) := by decide +kernel
theorem dX3_drop_39 : decode cX3_drop 39 = .ok (.aload_n 0, 1) := by decide +kernel
theorem dX3_drop_40 : decode cX3_drop 40 = .ok (.getfield 15, 3) := by decide +kernel
theorem dX3_drop_43 : decode cX3_drop 43 = .ok (.iload_n 2, 1) := by decide +kernel
theorem dX3_drop_44 : decode cX3_drop 44 = .ok (.aload_n 0, 1) := by decide +kernel
theorem dX3_drop_45 : decode cX3_drop 45 = .ok (.getfield 15, 3) := by decide +kernel
theorem dX3_drop_48 : decode cX3_drop 48 = .ok (.iload_n 2, 1) := by decide +kernel
theorem dX3_drop_49 : decode cX3_drop 49 = .ok (.iconst 1, 1) := by decide +kernel
theorem dX3_drop_50 : decode cX3_drop 50 = .ok (.iadd, 1) := by decide +kernel
theorem dX3_drop_51 : decode cX3_drop 51 = .ok (.iaload, 1) := by decide +kernel
theorem dX3_drop_52 : decode cX3_drop 52 = .ok (.iastore, 1) := by decide +kernel
theorem dX3_drop_53 : decode cX3_drop 53 = .ok (.iinc 2 1, 3) := by decide +kernel
theorem dX3_drop_56 : decode cX3_drop 56 = .ok (.goto (-41), 3) := by decide +kernel
theorem dX3_drop_59 : decode cX3_drop 59 = .ok (.aload_n 0, 1) := by decide +kernel
theorem dX3_drop_60 : decode cX3_drop 60 = .ok (.dup, 1) := by decide +kernel
theorem dX3_drop_61 : decode cX3_drop 61 = .ok (.getfield 24, 3) := by decide +kernel
theorem dX3_drop_64 : decode cX3_drop 64 = .ok (.iconst 1, 1) := by decide +kernel
theorem dX3_drop_65 : decode cX3_drop 65 = .ok (.isub, 1) := by decide +kernel
theorem dX3_drop_66 : decode cX3_drop 66 = .ok (.putfield 24, 3) := by decide +kernel
theorem dX3_drop_69 : decode cX3_drop 69 = .ok (.return_, 1) := by decide +kernel
theorem dX3_kindAt_0 : decode cX3_kindAt 0 = .ok (.iload_n 1, 1) := by decide +kernel
theorem dX3_kindAt_1 : decode cX3_kindAt 1 = .ok (.ifCond .lt 20, 3) := by decide +kernel
theorem dX3_kindAt_4 : decode cX3_kindAt 4 = .ok (.iload_n 1, 1) := by decide +kernel
theorem dX3_kindAt_5 : decode cX3_kindAt 5 = .ok (.aload_n 0, 1) := by decide +kernel
theorem dX3_kindAt_6 : decode cX3_kindAt 6 = .ok (.getfield 24, 3) := by decide +kernel
theorem dX3_kindAt_9 : decode cX3_kindAt 9 = .ok (.if_icmp .ge 12, 3) := by decide +kernel
theorem dX3_kindAt_12 : decode cX3_kindAt 12 = .ok (.aload_n 0, 1) := by decide +kernel
theorem dX3_kindAt_13 : decode cX3_kindAt 13 = .ok (.getfield 9, 3) := by decide +kernel
theorem dX3_kindAt_16 : decode cX3_kindAt 16 = .ok (.iload_n 1, 1) := by decide +kernel
theorem dX3_kindAt_17 : decode cX3_kindAt 17 = .ok (.iaload, 1) := by decide +kernel
theorem dX3_kindAt_18 : decode cX3_kindAt 18 = .ok (.goto 4, 3) := by decide +kernel
theorem dX3_kindAt_21 : decode cX3_kindAt 21 = .ok (.iconst (-1), 1) := by decide +kernel
theorem dX3_kindAt_22 : decode cX3_kindAt 22 = .ok (.ireturn, 1) := by decide +kernel
theorem dX3_weekAt_0 : decode cX3_weekAt 0 = .ok (.iload_n 1, 1) := by decide +kernel
theorem dX3_weekAt_1 : decode cX3_weekAt 1 = .ok (.ifCond .lt 20, 3) := by decide +kernel
theorem dX3_weekAt_4 : decode cX3_weekAt 4 = .ok (.iload_n 1, 1) := by decide +kernel
theorem dX3_weekAt_5 : decode cX3_weekAt 5 = .ok (.aload_n 0, 1) := by decide +kernel
theorem dX3_weekAt_6 : decode cX3_weekAt 6 = .ok (.getfield 24, 3) := by decide +kernel
theorem dX3_weekAt_9 : decode cX3_weekAt 9 = .ok (.if_icmp .ge 12, 3) := by decide +kernel
theorem dX3_weekAt_12 : decode cX3_weekAt 12 = .ok (.aload_n 0, 1) := by decide +kernel
theorem dX3_weekAt_13 : decode cX3_weekAt 13 = .ok (.getfield 15, 3) := by decide +kernel
theorem dX3_weekAt_16 : decode cX3_weekAt 16 = .ok (.iload_n 1, 1) := by decide +kernel
theorem dX3_weekAt_17 : decode cX3_weekAt 17 = .ok (.iaload, 1) := by decide +kernel
theorem dX3_weekAt_18 : decode cX3_weekAt 18 = .ok (.goto 4, 3) := by decide +kernel
theorem dX3_weekAt_21 : decode cX3_weekAt 21 = .ok (.iconst (-1), 1) := by decide +kernel
theorem dX3_weekAt_22 : decode cX3_weekAt 22 = .ok (.ireturn, 1) := by decide +kernel
theorem dX3_lastKind_0 : decode cX3_lastKind 0 = .ok (.aload_n 0, 1) := by decide +kernel
theorem dX3_lastKind_1 : decode cX3_lastKind 1 = .ok (.aload_n 0, 1) := by decide +kernel
theorem dX3_lastKind_2 : decode cX3_lastKind 2 = .ok (.getfield 24, 3) := by decide +kernel
theorem dX3_lastKind_5 : decode cX3_lastKind 5 = .ok (.iconst 1, 1) := by decide +kernel
theorem dX3_lastKind_6 : decode cX3_lastKind 6 = .ok (.isub, 1) := by decide +kernel
theorem dX3_lastKind_7 : decode cX3_lastKind 7 = .ok (.invokevirtual 41, 3) := by decide +kernel
theorem dX3_lastKind_10 : decode cX3_lastKind 10 = .ok (.ireturn, 1) := by decide +kernel
theorem dX3_kindSet_0 : decode cX3_kindSet 0 = .ok (.iconst 0, 1) := by decide +kernel
theorem dX3_kindSet_1 : decode cX3_kindSet 1 = .ok (.istore_n 1, 1) := by decide +kernel
theorem dX3_kindSet_2 : decode cX3_kindSet 2 = .ok (.iconst 0, 1) := by decide +kernel
theorem dX3_kindSet_3 : decode cX3_kindSet 3 = .ok (.istore_n 2, 1) := by decide +kernel
theorem dX3_kindSet_4 : decode cX3_kindSet 4 = .ok (.iload_n 2, 1) := by decide +kernel
theorem dX3_kindSet_5 : decode cX3_kindSet 5 = .ok (.aload_n 0, 1) := by decide +kernel
theorem dX3_kindSet_6 : decode cX3_kindSet 6 = .ok (.getfield 24, 3) := by decide +kernel
theorem dX3_kindSet_9 : decode cX3_kindSet 9 = .ok (.if_icmp .ge 20, 3) := by decide +kernel
theorem dX3_kindSet_12 : decode cX3_kindSet 12 = .ok (.iload_n 1, 1) := by decide +kernel
theorem dX3_kindSet_13 : decode cX3_kindSet 13 = .ok (.iconst 1, 1) := by decide +kernel
theorem dX3_kindSet_14 : decode cX3_kindSet 14 = .ok (.aload_n 0, 1) := by decide +kernel
theorem dX3_kindSet_15 : decode cX3_kindSet 15 = .ok (.getfield 9, 3) := by decide +kernel
theorem dX3_kindSet_18 : decode cX3_kindSet 18 = .ok (.iload_n 2, 1) := by decide +kernel
theorem dX3_kindSet_19 : decode cX3_kindSet 19 = .ok (.iaload, 1) := by decide +kernel
theorem dX3_kindSet_20 : decode cX3_kindSet 20 = .ok (.ishl, 1) := by decide +kernel
theorem dX3_kindSet_21 : decode cX3_kindSet 21 = .ok (.ior, 1) := by decide +kernel
theorem dX3_kindSet_22 : decode cX3_kindSet 22 = .ok (.istore_n 1, 1) := by decide +kernel
theorem dX3_kindSet_23 : decode cX3_kindSet 23 = .ok (.iinc 2 1, 3) := by decide +kernel
theorem dX3_kindSet_26 : decode cX3_kindSet 26 = .ok (.goto (-22), 3) := by decide +kernel
theorem dX3_kindSet_29 : decode cX3_kindSet 29 = .ok (.iload_n 1, 1) := by decide +kernel
theorem dX3_kindSet_30 : decode cX3_kindSet 30 = .ok (.ireturn, 1) := by decide +kernel
theorem dX3_holds_0 : decode cX3_holds 0 = .ok (.aload_n 0, 1) := by decide +kernel
theorem dX3_holds_1 : decode cX3_holds 1 = .ok (.invokevirtual 45, 3) := by decide +kernel
theorem dX3_holds_4 : decode cX3_holds 4 = .ok (.iload_n 1, 1) := by decide +kernel
theorem dX3_holds_5 : decode cX3_holds 5 = .ok (.ishr, 1) := by decide +kernel
theorem dX3_holds_6 : decode cX3_holds 6 = .ok (.iconst 1, 1) := by decide +kernel
theorem dX3_holds_7 : decode cX3_holds 7 = .ok (.iand, 1) := by decide +kernel
theorem dX3_holds_8 : decode cX3_holds 8 = .ok (.iconst 1, 1) := by decide +kernel
theorem dX3_holds_9 : decode cX3_holds 9 = .ok (.if_icmp .ne 7, 3) := by decide +kernel
theorem dX3_holds_12 : decode cX3_holds 12 = .ok (.iconst 1, 1) := by decide +kernel
theorem dX3_holds_13 : decode cX3_holds 13 = .ok (.goto 4, 3) := by decide +kernel
theorem dX3_holds_16 : decode cX3_holds 16 = .ok (.iconst 0, 1) := by decide +kernel
theorem dX3_holds_17 : decode cX3_holds 17 = .ok (.ireturn, 1) := by decide +kernel
theorem dX3_binds_0 : decode cX3_binds 0 = .ok (.iconst 0, 1) := by decide +kernel
theorem dX3_binds_1 : decode cX3_binds 1 = .ok (.istore_n 3, 1) := by decide +kernel
theorem dX3_binds_2 : decode cX3_binds 2 = .ok (.iconst 0, 1) := by decide +kernel
theorem dX3_binds_3 : decode cX3_binds 3 = .ok (.istore 4, 2) := by decide +kernel
theorem dX3_binds_5 : decode cX3_binds 5 = .ok (.iload 4, 2) := by decide +kernel
theorem dX3_binds_7 : decode cX3_binds 7 = .ok (.aload_n 0, 1) := by decide +kernel
theorem dX3_binds_8 : decode cX3_binds 8 = .ok (.getfield 24, 3) := by decide +kernel
theorem dX3_binds_11 : decode cX3_binds 11 = .ok (.if_icmp .ge 47, 3) := by decide +kernel
theorem dX3_binds_14 : decode cX3_binds 14 = .ok (.iload_n 3, 1) := by decide +kernel
theorem dX3_binds_15 : decode cX3_binds 15 = .ok (.ifCond .eq 16, 3) := by decide +kernel
theorem dX3_binds_18 : decode cX3_binds 18 = .ok (.aload_n 0, 1) := by decide +kernel
theorem dX3_binds_19 : decode cX3_binds 19 = .ok (.getfield 9, 3) := by decide +kernel
theorem dX3_binds_22 : decode cX3_binds 22 = .ok (.iload 4, 2) := by decide +kernel
theorem dX3_binds_24 : decode cX3_binds 24 = .ok (.iaload, 1) := by decide +kernel
theorem dX3_binds_25 : decode cX3_binds 25 = .ok (.iload_n 2, 1) := by decide +kernel
theorem dX3_binds_26 : decode cX3_binds 26 = .ok (.if_icmp .ne 5, 3) := by decide +kernel
theorem dX3_binds_29 : decode cX3_binds 29 = .ok (.iconst 1, 1) := by decide +kernel
theorem dX3_binds_30 : decode cX3_binds 30 = .ok (.ireturn, 1) := by decide +kernel
theorem dX3_binds_31 : decode cX3_binds 31 = .ok (.iload_n 3, 1) := by decide +kernel
theorem dX3_binds_32 : decode cX3_binds 32 = .ok (.ifCond .ne 14, 3) := by decide +kernel
theorem dX3_binds_35 : decode cX3_binds 35 = .ok (.aload_n 0, 1) := by decide +kernel
theorem dX3_binds_36 : decode cX3_binds 36 = .ok (.getfield 9, 3) := by decide +kernel
theorem dX3_binds_39 : decode cX3_binds 39 = .ok (.iload 4, 2) := by decide +kernel
theorem dX3_binds_41 : decode cX3_binds 41 = .ok (.iaload, 1) := by decide +kernel
theorem dX3_binds_42 : decode cX3_binds 42 = .ok (.iload_n 1, 1) := by decide +kernel
theorem dX3_binds_43 : decode cX3_binds 43 = .ok (.if_icmp .ne 7, 3) := by decide +kernel
theorem dX3_binds_46 : decode cX3_binds 46 = .ok (.iconst 1, 1) := by decide +kernel
theorem dX3_binds_47 : decode cX3_binds 47 = .ok (.goto 4, 3) := by decide +kernel
theorem dX3_binds_50 : decode cX3_binds 50 = .ok (.iconst 0, 1) := by decide +kernel
theorem dX3_binds_51 : decode cX3_binds 51 = .ok (.istore_n 3, 1) := by decide +kernel
theorem dX3_binds_52 : decode cX3_binds 52 = .ok (.iinc 4 1, 3) := by decide +kernel
theorem dX3_binds_55 : decode cX3_binds 55 = .ok (.goto (-50), 3) := by decide +kernel
theorem dX3_binds_58 : decode cX3_binds 58 = .ok (.iconst 0, 1) := by decide +kernel
theorem dX3_binds_59 : decode cX3_binds 59 = .ok (.ireturn, 1) := by decide +kernel
theorem dX3_firstUnlike_0 : decode cX3_firstUnlike 0 = .ok (.aload_n 0, 1) := by decide +kernel
theorem dX3_firstUnlike_1 : decode cX3_firstUnlike 1 = .ok (.getfield 24, 3) := by decide +kernel
theorem dX3_firstUnlike_4 : decode cX3_firstUnlike 4 = .ok (.aload_n 1, 1) := by decide +kernel
theorem dX3_firstUnlike_5 : decode cX3_firstUnlike 5 = .ok (.getfield 24, 3) := by decide +kernel
theorem dX3_firstUnlike_8 : decode cX3_firstUnlike 8 = .ok (.invokestatic 49, 3) := by decide +kernel
theorem dX3_firstUnlike_11 : decode cX3_firstUnlike 11 = .ok (.istore_n 2, 1) := by decide +kernel
theorem dX3_firstUnlike_12 : decode cX3_firstUnlike 12 = .ok (.iconst 0, 1) := by decide +kernel
theorem dX3_firstUnlike_13 : decode cX3_firstUnlike 13 = .ok (.istore_n 3, 1) := by decide +kernel
theorem dX3_firstUnlike_14 : decode cX3_firstUnlike 14 = .ok (.iload_n 3, 1) := by decide +kernel
theorem dX3_firstUnlike_15 : decode cX3_firstUnlike 15 = .ok (.iload_n 2, 1) := by decide +kernel
theorem dX3_firstUnlike_16 : decode cX3_firstUnlike 16 = .ok (.if_icmp .ge 24, 3) := by decide +kernel
theorem dX3_firstUnlike_19 : decode cX3_firstUnlike 19 = .ok (.aload_n 0, 1) := by decide +kernel
theorem dX3_firstUnlike_20 : decode cX3_firstUnlike 20 = .ok (.iload_n 3, 1) := by decide +kernel
theorem dX3_firstUnlike_21 : decode cX3_firstUnlike 21 = .ok (.invokevirtual 41, 3) := by decide +kernel
theorem dX3_firstUnlike_24 : decode cX3_firstUnlike 24 = .ok (.aload_n 1, 1) := by decide +kernel
theorem dX3_firstUnlike_25 : decode cX3_firstUnlike 25 = .ok (.iload_n 3, 1) := by decide +kernel
theorem dX3_firstUnlike_26 : decode cX3_firstUnlike 26 = .ok (.invokevirtual 41, 3) := by decide +kernel
theorem dX3_firstUnlike_29 : decode cX3_firstUnlike 29 = .ok (.if_icmp .eq 5, 3) := by decide +kernel
theorem dX3_firstUnlike_32 : decode cX3_firstUnlike 32 = .ok (.iload_n 3, 1) := by decide +kernel
theorem dX3_firstUnlike_33 : decode cX3_firstUnlike 33 = .ok (.ireturn, 1) := by decide +kernel
theorem dX3_firstUnlike_34 : decode cX3_firstUnlike 34 = .ok (.iinc 3 1, 3) := by decide +kernel
theorem dX3_firstUnlike_37 : decode cX3_firstUnlike 37 = .ok (.goto (-23), 3) := by decide +kernel
theorem dX3_firstUnlike_40 : decode cX3_firstUnlike 40 = .ok (.iconst (-1), 1) := by decide +kernel
theorem dX3_firstUnlike_41 : decode cX3_firstUnlike 41 = .ok (.ireturn, 1) := by decide +kernel
theorem dX3_alikeFrom_0 : decode cX3_alikeFrom 0 = .ok (.iconst 0, 1) := by decide +kernel
theorem dX3_alikeFrom_1 : decode cX3_alikeFrom 1 = .ok (.istore 4, 2) := by decide +kernel
theorem dX3_alikeFrom_3 : decode cX3_alikeFrom 3 = .ok (.iconst 0, 1) := by decide +kernel
theorem dX3_alikeFrom_4 : decode cX3_alikeFrom 4 = .ok (.istore 5, 2) := by decide +kernel
theorem dX3_alikeFrom_6 : decode cX3_alikeFrom 6 = .ok (.iload_n 1, 1) := by decide +kernel
theorem dX3_alikeFrom_7 : decode cX3_alikeFrom 7 = .ok (.iload 5, 2) := by decide +kernel
theorem dX3_alikeFrom_9 : decode cX3_alikeFrom 9 = .ok (.iadd, 1) := by decide +kernel
theorem dX3_alikeFrom_10 : decode cX3_alikeFrom 10 = .ok (.aload_n 0, 1) := by decide +kernel
theorem dX3_alikeFrom_11 : decode cX3_alikeFrom 11 = .ok (.getfield 24, 3) := by decide +kernel
theorem dX3_alikeFrom_14 : decode cX3_alikeFrom 14 = .ok (.if_icmp .ge 45, 3) := by decide +kernel
theorem dX3_alikeFrom_17 : decode cX3_alikeFrom 17 = .ok (.iload_n 3, 1) := by decide +kernel
theorem dX3_alikeFrom_18 : decode cX3_alikeFrom 18 = .ok (.iload 5, 2) := by decide +kernel
theorem dX3_alikeFrom_20 : decode cX3_alikeFrom 20 = .ok (.iadd, 1) := by decide +kernel
theorem dX3_alikeFrom_21 : decode cX3_alikeFrom 21 = .ok (.aload_n 2, 1) := by decide +kernel
theorem dX3_alikeFrom_22 : decode cX3_alikeFrom 22 = .ok (.getfield 24, 3) := by decide +kernel
theorem dX3_alikeFrom_25 : decode cX3_alikeFrom 25 = .ok (.if_icmp .ge 34, 3) := by decide +kernel
theorem dX3_alikeFrom_28 : decode cX3_alikeFrom 28 = .ok (.aload_n 0, 1) := by decide +kernel
theorem dX3_alikeFrom_29 : decode cX3_alikeFrom 29 = .ok (.iload_n 1, 1) := by decide +kernel
theorem dX3_alikeFrom_30 : decode cX3_alikeFrom 30 = .ok (.iload 5, 2) := by decide +kernel
theorem dX3_alikeFrom_32 : decode cX3_alikeFrom 32 = .ok (.iadd, 1) := by decide +kernel
theorem dX3_alikeFrom_33 : decode cX3_alikeFrom 33 = .ok (.invokevirtual 41, 3) := by decide +kernel
theorem dX3_alikeFrom_36 : decode cX3_alikeFrom 36 = .ok (.aload_n 2, 1) := by decide +kernel
theorem dX3_alikeFrom_37 : decode cX3_alikeFrom 37 = .ok (.iload_n 3, 1) := by decide +kernel
theorem dX3_alikeFrom_38 : decode cX3_alikeFrom 38 = .ok (.iload 5, 2) := by decide +kernel
theorem dX3_alikeFrom_40 : decode cX3_alikeFrom 40 = .ok (.iadd, 1) := by decide +kernel
theorem dX3_alikeFrom_41 : decode cX3_alikeFrom 41 = .ok (.invokevirtual 41, 3) := by decide +kernel
theorem dX3_alikeFrom_44 : decode cX3_alikeFrom 44 = .ok (.if_icmp .eq 6, 3) := by decide +kernel
theorem dX3_alikeFrom_47 : decode cX3_alikeFrom 47 = .ok (.iload 4, 2) := by decide +kernel
theorem dX3_alikeFrom_49 : decode cX3_alikeFrom 49 = .ok (.ireturn, 1) := by decide +kernel
theorem dX3_alikeFrom_50 : decode cX3_alikeFrom 50 = .ok (.iinc 4 1, 3) := by decide +kernel
theorem dX3_alikeFrom_53 : decode cX3_alikeFrom 53 = .ok (.iinc 5 1, 3) := by decide +kernel
theorem dX3_alikeFrom_56 : decode cX3_alikeFrom 56 = .ok (.goto (-50), 3) := by decide +kernel
theorem dX3_alikeFrom_59 : decode cX3_alikeFrom 59 = .ok (.iload 4, 2) := by decide +kernel
theorem dX3_alikeFrom_61 : decode cX3_alikeFrom 61 = .ok (.ireturn, 1) := by decide +kernel
theorem dX3_linesOf_0 : decode cX3_linesOf 0 = .ok (.iconst 0, 1) := by decide +kernel
theorem dX3_linesOf_1 : decode cX3_linesOf 1 = .ok (.istore_n 2, 1) := by decide +kernel
theorem dX3_linesOf_2 : decode cX3_linesOf 2 = .ok (.iconst 0, 1) := by decide +kernel
theorem dX3_linesOf_3 : decode cX3_linesOf 3 = .ok (.istore_n 3, 1) := by decide +kernel
theorem dX3_linesOf_4 : decode cX3_linesOf 4 = .ok (.iload_n 3, 1) := by decide +kernel
theorem dX3_linesOf_5 : decode cX3_linesOf 5 = .ok (.aload_n 0, 1) := by decide +kernel
theorem dX3_linesOf_6 : decode cX3_linesOf 6 = .ok (.getfield 24, 3) := by decide +kernel
theorem dX3_linesOf_9 : decode cX3_linesOf 9 = .ok (.if_icmp .ge 22, 3) := by decide +kernel
theorem dX3_linesOf_12 : decode cX3_linesOf 12 = .ok (.aload_n 0, 1) := by decide +kernel
theorem dX3_linesOf_13 : decode cX3_linesOf 13 = .ok (.getfield 15, 3) := by decide +kernel
theorem dX3_linesOf_16 : decode cX3_linesOf 16 = .ok (.iload_n 3, 1) := by decide +kernel
theorem dX3_linesOf_17 : decode cX3_linesOf 17 = .ok (.iaload, 1) := by decide +kernel
theorem dX3_linesOf_18 : decode cX3_linesOf 18 = .ok (.iload_n 1, 1) := by decide +kernel
theorem dX3_linesOf_19 : decode cX3_linesOf 19 = .ok (.if_icmp .ne 6, 3) := by decide +kernel
theorem dX3_linesOf_22 : decode cX3_linesOf 22 = .ok (.iinc 2 1, 3) := by decide +kernel
theorem dX3_linesOf_25 : decode cX3_linesOf 25 = .ok (.iinc 3 1, 3) := by decide +kernel
theorem dX3_linesOf_28 : decode cX3_linesOf 28 = .ok (.goto (-24), 3) := by decide +kernel
theorem dX3_linesOf_31 : decode cX3_linesOf 31 = .ok (.iload_n 2, 1) := by decide +kernel
theorem dX3_linesOf_32 : decode cX3_linesOf 32 = .ok (.ireturn, 1) := by decide +kernel
theorem dX4_init_0 : decode cX4_init 0 = .ok (.aload_n 0, 1) := by decide +kernel
theorem dX4_init_1 : decode cX4_init 1 = .ok (.invokespecial 3, 3) := by decide +kernel
theorem dX4_init_4 : decode cX4_init 4 = .ok (.aload_n 0, 1) := by decide +kernel
theorem dX4_init_5 : decode cX4_init 5 = .ok (.bipush 12, 2) := by decide +kernel
theorem dX4_init_7 : decode cX4_init 7 = .ok (.anewarray 9, 3) := by decide +kernel
theorem dX4_init_10 : decode cX4_init 10 = .ok (.putfield 11, 3) := by decide +kernel
theorem dX4_init_13 : decode cX4_init 13 = .ok (.iconst 0, 1) := by decide +kernel
theorem dX4_init_14 : decode cX4_init 14 = .ok (.istore_n 1, 1) := by decide +kernel
theorem dX4_init_15 : decode cX4_init 15 = .ok (.iload_n 1, 1) := by decide +kernel
theorem dX4_init_16 : decode cX4_init 16 = .ok (.bipush 12, 2) := by decide +kernel
theorem dX4_init_18 : decode cX4_init 18 = .ok (.if_icmp .ge 22, 3) := by decide +kernel
theorem dX4_init_21 : decode cX4_init 21 = .ok (.aload_n 0, 1) := by decide +kernel
theorem dX4_init_22 : decode cX4_init 22 = .ok (.getfield 11, 3) := by decide +kernel
theorem dX4_init_25 : decode cX4_init 25 = .ok (.iload_n 1, 1) := by decide +kernel
theorem dX4_init_26 : decode cX4_init 26 = .ok (.new 9, 3) := by decide +kernel
theorem dX4_init_29 : decode cX4_init 29 = .ok (.dup, 1) := by decide +kernel
theorem dX4_init_30 : decode cX4_init 30 = .ok (.invokespecial 17, 3) := by decide +kernel
theorem dX4_init_33 : decode cX4_init 33 = .ok (.aastore, 1) := by decide +kernel
theorem dX4_init_34 : decode cX4_init 34 = .ok (.iinc 1 1, 3) := by decide +kernel
theorem dX4_init_37 : decode cX4_init 37 = .ok (.goto (-22), 3) := by decide +kernel
theorem dX4_init_40 : decode cX4_init 40 = .ok (.return_, 1) := by decide +kernel
theorem dX4_remember_0 : decode cX4_remember 0 = .ok (.aload_n 0, 1) := by decide +kernel
theorem dX4_remember_1 : decode cX4_remember 1 = .ok (.getfield 11, 3) := by decide +kernel
theorem dX4_remember_4 : decode cX4_remember 4 = .ok (.aload_n 0, 1) := by decide +kernel
theorem dX4_remember_5 : decode cX4_remember 5 = .ok (.getfield 18, 3) := by decide +kernel
theorem dX4_remember_8 : decode cX4_remember 8 = .ok (.aaload, 1) := by decide +kernel
theorem dX4_remember_9 : decode cX4_remember 9 = .ok (.aload_n 1, 1) := by decide +kernel
theorem dX4_remember_10 : decode cX4_remember 10 = .ok (.invokevirtual 22, 3) := by decide +kernel
theorem dX4_remember_13 : decode cX4_remember 13 = .ok (.aload_n 0, 1) := by decide +kernel
theorem dX4_remember_14 : decode cX4_remember 14 = .ok (.aload_n 0, 1) := by decide +kernel
theorem dX4_remember_15 : decode cX4_remember 15 = .ok (.getfield 18, 3) := by decide +kernel
theorem dX4_remember_18 : decode cX4_remember 18 = .ok (.iconst 1, 1) := by decide +kernel
theorem dX4_remember_19 : decode cX4_remember 19 = .ok (.iadd, 1) := by decide +kernel
theorem dX4_remember_20 : decode cX4_remember 20 = .ok (.bipush 12, 2) := by decide +kernel
theorem dX4_remember_22 : decode cX4_remember 22 = .ok (.irem, 1) := by decide +kernel
theorem dX4_remember_23 : decode cX4_remember 23 = .ok (.putfield 18, 3) := by decide +kernel
theorem dX4_remember_26 : decode cX4_remember 26 = .ok (.aload_n 0, 1) := by decide +kernel
theorem dX4_remember_27 : decode cX4_remember 27 = .ok (.aload_n 0, 1) := by decide +kernel
theorem dX4_remember_28 : decode cX4_remember 28 = .ok (.getfield 26, 3) := by decide +kernel
theorem dX4_remember_31 : decode cX4_remember 31 = .ok (.iconst 1, 1) := by decide +kernel
theorem dX4_remember_32 : decode cX4_remember 32 = .ok (.iadd, 1) := by decide +kernel
theorem dX4_remember_33 : decode cX4_remember 33 = .ok (.bipush 12, 2) := by decide +kernel
theorem dX4_remember_35 : decode cX4_remember 35 = .ok (.invokestatic 29, 3) := by decide +kernel
theorem dX4_remember_38 : decode cX4_remember 38 = .ok (.putfield 26, 3) := by decide +kernel
theorem dX4_remember_41 : decode cX4_remember 41 = .ok (.return_, 1) := by decide +kernel
theorem dX4_takeBack_0 : decode cX4_takeBack 0 = .ok (.aload_n 0, 1) := by decide +kernel
theorem dX4_takeBack_1 : decode cX4_takeBack 1 = .ok (.getfield 26, 3) := by decide +kernel
theorem dX4_takeBack_4 : decode cX4_takeBack 4 = .ok (.ifCond .ne 5, 3) := by decide +kernel
theorem dX4_takeBack_7 : decode cX4_takeBack 7 = .ok (.iconst 0, 1) := by decide +kernel
theorem dX4_takeBack_8 : decode cX4_takeBack 8 = .ok (.ireturn, 1) := by decide +kernel
theorem dX4_takeBack_9 : decode cX4_takeBack 9 = .ok (.aload_n 0, 1) := by decide +kernel
theorem dX4_takeBack_10 : decode cX4_takeBack 10 = .ok (.aload_n 0, 1) := by decide +kernel
theorem dX4_takeBack_11 : decode cX4_takeBack 11 = .ok (.getfield 18, 3) := by decide +kernel
theorem dX4_takeBack_14 : decode cX4_takeBack 14 = .ok (.bipush 12, 2) := by decide +kernel
theorem dX4_takeBack_16 : decode cX4_takeBack 16 = .ok (.iadd, 1) := by decide +kernel
theorem dX4_takeBack_17 : decode cX4_takeBack 17 = .ok (.iconst 1, 1) := by decide +kernel
theorem dX4_takeBack_18 : decode cX4_takeBack 18 = .ok (.isub, 1) := by decide +kernel
theorem dX4_takeBack_19 : decode cX4_takeBack 19 = .ok (.bipush 12, 2) := by decide +kernel
theorem dX4_takeBack_21 : decode cX4_takeBack 21 = .ok (.irem, 1) := by decide +kernel
theorem dX4_takeBack_22 : decode cX4_takeBack 22 = .ok (.putfield 18, 3) := by decide +kernel
theorem dX4_takeBack_25 : decode cX4_takeBack 25 = .ok (.aload_n 0, 1) := by decide +kernel
theorem dX4_takeBack_26 : decode cX4_takeBack 26 = .ok (.dup, 1) := by decide +kernel
theorem dX4_takeBack_27 : decode cX4_takeBack 27 = .ok (.getfield 26, 3) := by decide +kernel
theorem dX4_takeBack_30 : decode cX4_takeBack 30 = .ok (.iconst 1, 1) := by decide +kernel
theorem dX4_takeBack_31 : decode cX4_takeBack 31 = .ok (.isub, 1) := by decide +kernel
theorem dX4_takeBack_32 : decode cX4_takeBack 32 = .ok (.putfield 26, 3) := by decide +kernel
theorem dX4_takeBack_35 : decode cX4_takeBack 35 = .ok (.aload_n 1, 1) := by decide +kernel
theorem dX4_takeBack_36 : decode cX4_takeBack 36 = .ok (.aload_n 0, 1) := by decide +kernel
theorem dX4_takeBack_37 : decode cX4_takeBack 37 = .ok (.getfield 11, 3) := by decide +kernel
theorem dX4_takeBack_40 : decode cX4_takeBack 40 = .ok (.aload_n 0, 1) := by decide +kernel
theorem dX4_takeBack_41 : decode cX4_takeBack 41 = .ok (.getfield 18, 3) := by decide +kernel
theorem dX4_takeBack_44 : decode cX4_takeBack 44 = .ok (.aaload, 1) := by decide +kernel
theorem dX4_takeBack_45 : decode cX4_takeBack 45 = .ok (.invokevirtual 22, 3) := by decide +kernel
theorem dX4_takeBack_48 : decode cX4_takeBack 48 = .ok (.iconst 1, 1) := by decide +kernel
theorem dX4_takeBack_49 : decode cX4_takeBack 49 = .ok (.ireturn, 1) := by decide +kernel
theorem dX4_forget_0 : decode cX4_forget 0 = .ok (.aload_n 0, 1) := by decide +kernel
theorem dX4_forget_1 : decode cX4_forget 1 = .ok (.iconst 0, 1) := by decide +kernel
theorem dX4_forget_2 : decode cX4_forget 2 = .ok (.putfield 26, 3) := by decide +kernel
theorem dX4_forget_5 : decode cX4_forget 5 = .ok (.return_, 1) := by decide +kernel
theorem dX5_init_0 : decode cX5_init 0 = .ok (.aload_n 0, 1) := by decide +kernel
theorem dX5_init_1 : decode cX5_init 1 = .ok (.invokespecial 3, 3) := by decide +kernel
theorem dX5_init_4 : decode cX5_init 4 = .ok (.aload_n 0, 1) := by decide +kernel
theorem dX5_init_5 : decode cX5_init 5 = .ok (.new 9, 3) := by decide +kernel
theorem dX5_init_8 : decode cX5_init 8 = .ok (.dup, 1) := by decide +kernel
theorem dX5_init_9 : decode cX5_init 9 = .ok (.invokespecial 11, 3) := by decide +kernel
theorem dX5_init_12 : decode cX5_init 12 = .ok (.putfield 12, 3) := by decide +kernel
theorem dX5_init_15 : decode cX5_init 15 = .ok (.return_, 1) := by decide +kernel
theorem dX5_readLine_0 : decode cX5_readLine 0 = .ok (.aload_n 0, 1) := by decide +kernel
theorem dX5_readLine_1 : decode cX5_readLine 1 = .ok (.getfield 18, 3) := by decide +kernel
theorem dX5_readLine_4 : decode cX5_readLine 4 = .ok (.invokevirtual 22, 3) := by decide +kernel
theorem dX5_readLine_7 : decode cX5_readLine 7 = .ok (.tableswitch 126 1000 1018 #[109, 126, 126, 126, 126, 121, 126, 126, 126, 126, 126, 126, 126, 89, 126, 94, 99, 104, 115], 89) := by decide +kernel
theorem dX5_readLine_96 : decode cX5_readLine 96 = .ok (.aload_n 0, 1) := by decide +kernel
theorem dX5_readLine_97 : decode cX5_readLine 97 = .ok (.invokevirtual 28, 3) := by decide +kernel
theorem dX5_readLine_100 : decode cX5_readLine 100 = .ok (.ireturn, 1) := by decide +kernel
theorem dX5_readLine_101 : decode cX5_readLine 101 = .ok (.aload_n 0, 1) := by decide +kernel
theorem dX5_readLine_102 : decode cX5_readLine 102 = .ok (.invokevirtual 32, 3) := by decide +kernel
theorem dX5_readLine_105 : decode cX5_readLine 105 = .ok (.ireturn, 1) := by decide +kernel
theorem dX5_readLine_106 : decode cX5_readLine 106 = .ok (.aload_n 0, 1) := by decide +kernel
theorem dX5_readLine_107 : decode cX5_readLine 107 = .ok (.invokevirtual 35, 3) := by decide +kernel
theorem dX5_readLine_110 : decode cX5_readLine 110 = .ok (.ireturn, 1) := by decide +kernel
theorem dX5_readLine_111 : decode cX5_readLine 111 = .ok (.aload_n 0, 1) := by decide +kernel
theorem dX5_readLine_112 : decode cX5_readLine 112 = .ok (.invokevirtual 38, 3) := by decide +kernel
theorem dX5_readLine_115 : decode cX5_readLine 115 = .ok (.ireturn, 1) := by decide +kernel
theorem dX5_readLine_116 : decode cX5_readLine 116 = .ok (.aload_n 0, 1) := by decide +kernel
theorem dX5_readLine_117 : decode cX5_readLine 117 = .ok (.iconst 1, 1) := by decide +kernel
theorem dX5_readLine_118 : decode cX5_readLine 118 = .ok (.invokevirtual 41, 3) := by decide +kernel
theorem dX5_readLine_121 : decode cX5_readLine 121 = .ok (.ireturn, 1) := by decide +kernel
theorem dX5_readLine_122 : decode cX5_readLine 122 = .ok (.aload_n 0, 1) := by decide +kernel
theorem dX5_readLine_123 : decode cX5_readLine 123 = .ok (.iconst 0, 1) := by decide +kernel
theorem dX5_readLine_124 : decode cX5_readLine 124 = .ok (.invokevirtual 41, 3) := by decide +kernel
theorem dX5_readLine_127 : decode cX5_readLine 127 = .ok (.ireturn, 1) := by decide +kernel
theorem dX5_readLine_128 : decode cX5_readLine 128 = .ok (.aload_n 0, 1) := by decide +kernel
theorem dX5_readLine_129 : decode cX5_readLine 129 = .ok (.invokevirtual 45, 3) := by decide +kernel
theorem dX5_readLine_132 : decode cX5_readLine 132 = .ok (.ireturn, 1) := by decide +kernel
theorem dX5_readLine_133 : decode cX5_readLine 133 = .ok (.aload_n 0, 1) := by decide +kernel
theorem dX5_readLine_134 : decode cX5_readLine 134 = .ok (.getfield 18, 3) := by decide +kernel
theorem dX5_readLine_137 : decode cX5_readLine 137 = .ok (.invokevirtual 48, 3) := by decide +kernel
theorem dX5_readLine_140 : decode cX5_readLine 140 = .ok (.ireturn, 1) := by decide +kernel
theorem dX5_readLetter_0 : decode cX5_readLetter 0 = .ok (.aload_n 0, 1) := by decide +kernel
theorem dX5_readLetter_1 : decode cX5_readLetter 1 = .ok (.getfield 12, 3) := by decide +kernel
theorem dX5_readLetter_4 : decode cX5_readLetter 4 = .ok (.getfield 51, 3) := by decide +kernel
theorem dX5_readLetter_7 : decode cX5_readLetter 7 = .ok (.getfield 55, 3) := by decide +kernel
theorem dX5_readLetter_10 : decode cX5_readLetter 10 = .ok (.bipush 8, 2) := by decide +kernel
theorem dX5_readLetter_12 : decode cX5_readLetter 12 = .ok (.if_icmp .lt 11, 3) := by decide +kernel
theorem dX5_readLetter_15 : decode cX5_readLetter 15 = .ok (.aload_n 0, 1) := by decide +kernel
theorem dX5_readLetter_16 : decode cX5_readLetter 16 = .ok (.getfield 18, 3) := by decide +kernel
theorem dX5_readLetter_19 : decode cX5_readLetter 19 = .ok (.invokevirtual 48, 3) := by decide +kernel
theorem dX5_readLetter_22 : decode cX5_readLetter 22 = .ok (.ireturn, 1) := by decide +kernel
theorem dX5_readLetter_23 : decode cX5_readLetter 23 = .ok (.aload_n 0, 1) := by decide +kernel
theorem dX5_readLetter_24 : decode cX5_readLetter 24 = .ok (.getfield 18, 3) := by decide +kernel
theorem dX5_readLetter_27 : decode cX5_readLetter 27 = .ok (.invokevirtual 61, 3) := by decide +kernel
theorem dX5_readLetter_30 : decode cX5_readLetter 30 = .ok (.aload_n 0, 1) := by decide +kernel
theorem dX5_readLetter_31 : decode cX5_readLetter 31 = .ok (.getfield 18, 3) := by decide +kernel
theorem dX5_readLetter_34 : decode cX5_readLetter 34 = .ok (.sipush 1014, 3) := by decide +kernel
theorem dX5_readLetter_37 : decode cX5_readLetter 37 = .ok (.invokevirtual 64, 3) := by decide +kernel
theorem dX5_readLetter_40 : decode cX5_readLetter 40 = .ok (.ifCond .eq 16, 3) := by decide +kernel
theorem dX5_readLetter_43 : decode cX5_readLetter 43 = .ok (.aload_n 0, 1) := by decide +kernel
theorem dX5_readLetter_44 : decode cX5_readLetter 44 = .ok (.getfield 18, 3) := by decide +kernel
theorem dX5_readLetter_47 : decode cX5_readLetter 47 = .ok (.iconst 0, 1) := by decide +kernel
theorem dX5_readLetter_48 : decode cX5_readLetter 48 = .ok (.bipush 9, 2) := by decide +kernel
theorem dX5_readLetter_50 : decode cX5_readLetter 50 = .ok (.invokevirtual 68, 3) := by decide +kernel
theorem dX5_readLetter_53 : decode cX5_readLetter 53 = .ok (.goto 4, 3) := by decide +kernel
theorem dX5_readLetter_56 : decode cX5_readLetter 56 = .ok (.iconst (-1), 1) := by decide +kernel
theorem dX5_readLetter_57 : decode cX5_readLetter 57 = .ok (.istore_n 1, 1) := by decide +kernel
theorem dX5_readLetter_58 : decode cX5_readLetter 58 = .ok (.iload_n 1, 1) := by decide +kernel
theorem dX5_readLetter_59 : decode cX5_readLetter 59 = .ok (.iconst (-1), 1) := by decide +kernel
theorem dX5_readLetter_60 : decode cX5_readLetter 60 = .ok (.if_icmp .ne 5, 3) := by decide +kernel
theorem dX5_readLetter_63 : decode cX5_readLetter 63 = .ok (.iconst 0, 1) := by decide +kernel
theorem dX5_readLetter_64 : decode cX5_readLetter 64 = .ok (.ireturn, 1) := by decide +kernel
theorem dX5_readLetter_65 : decode cX5_readLetter 65 = .ok (.aload_n 0, 1) := by decide +kernel
theorem dX5_readLetter_66 : decode cX5_readLetter 66 = .ok (.getfield 18, 3) := by decide +kernel
theorem dX5_readLetter_69 : decode cX5_readLetter 69 = .ok (.sipush 1003, 3) := by decide +kernel
theorem dX5_readLetter_72 : decode cX5_readLetter 72 = .ok (.invokevirtual 64, 3) := by decide +kernel
theorem dX5_readLetter_75 : decode cX5_readLetter 75 = .ok (.ifCond .eq 16, 3) := by decide +kernel
theorem dX5_readLetter_78 : decode cX5_readLetter 78 = .ok (.aload_n 0, 1) := by decide +kernel
theorem dX5_readLetter_79 : decode cX5_readLetter 79 = .ok (.getfield 18, 3) := by decide +kernel
theorem dX5_readLetter_82 : decode cX5_readLetter 82 = .ok (.iconst 0, 1) := by decide +kernel
theorem dX5_readLetter_83 : decode cX5_readLetter 83 = .ok (.bipush 9, 2) := by decide +kernel
theorem dX5_readLetter_85 : decode cX5_readLetter 85 = .ok (.invokevirtual 68, 3) := by decide +kernel
theorem dX5_readLetter_88 : decode cX5_readLetter 88 = .ok (.goto 4, 3) := by decide +kernel
theorem dX5_readLetter_91 : decode cX5_readLetter 91 = .ok (.iconst (-1), 1) := by decide +kernel
theorem dX5_readLetter_92 : decode cX5_readLetter 92 = .ok (.istore_n 2, 1) := by decide +kernel
theorem dX5_readLetter_93 : decode cX5_readLetter 93 = .ok (.iload_n 2, 1) := by decide +kernel
theorem dX5_readLetter_94 : decode cX5_readLetter 94 = .ok (.iconst (-1), 1) := by decide +kernel
theorem dX5_readLetter_95 : decode cX5_readLetter 95 = .ok (.if_icmp .ne 5, 3) := by decide +kernel
theorem dX5_readLetter_98 : decode cX5_readLetter 98 = .ok (.iconst 0, 1) := by decide +kernel
theorem dX5_readLetter_99 : decode cX5_readLetter 99 = .ok (.ireturn, 1) := by decide +kernel
theorem dX5_readLetter_100 : decode cX5_readLetter 100 = .ok (.aload_n 0, 1) := by decide +kernel
theorem dX5_readLetter_101 : decode cX5_readLetter 101 = .ok (.getfield 18, 3) := by decide +kernel
theorem dX5_readLetter_104 : decode cX5_readLetter 104 = .ok (.invokevirtual 72, 3) := by decide +kernel
theorem dX5_readLetter_107 : decode cX5_readLetter 107 = .ok (.istore_n 3, 1) := by decide +kernel
theorem dX5_readLetter_108 : decode cX5_readLetter 108 = .ok (.iload_n 3, 1) := by decide +kernel
theorem dX5_readLetter_109 : decode cX5_readLetter 109 = .ok (.ifCond .ne 11, 3) := by decide +kernel
theorem dX5_readLetter_112 : decode cX5_readLetter 112 = .ok (.aload_n 0, 1) := by decide +kernel
theorem dX5_readLetter_113 : decode cX5_readLetter 113 = .ok (.getfield 18, 3) := by decide +kernel
theorem dX5_readLetter_116 : decode cX5_readLetter 116 = .ok (.invokevirtual 48, 3) := by decide +kernel
theorem dX5_readLetter_119 : decode cX5_readLetter 119 = .ok (.ireturn, 1) := by decide +kernel
theorem dX5_readLetter_120 : decode cX5_readLetter 120 = .ok (.aload_n 0, 1) := by decide +kernel
theorem dX5_readLetter_121 : decode cX5_readLetter 121 = .ok (.getfield 12, 3) := by decide +kernel
theorem dX5_readLetter_124 : decode cX5_readLetter 124 = .ok (.getfield 51, 3) := by decide +kernel
theorem dX5_readLetter_127 : decode cX5_readLetter 127 = .ok (.getfield 75, 3) := by decide +kernel
theorem dX5_readLetter_130 : decode cX5_readLetter 130 = .ok (.aload_n 0, 1) := by decide +kernel
theorem dX5_readLetter_131 : decode cX5_readLetter 131 = .ok (.getfield 12, 3) := by decide +kernel
theorem dX5_readLetter_134 : decode cX5_readLetter 134 = .ok (.getfield 51, 3) := by decide +kernel
theorem dX5_readLetter_137 : decode cX5_readLetter 137 = .ok (.getfield 55, 3) := by decide +kernel
theorem dX5_readLetter_140 : decode cX5_readLetter 140 = .ok (.aaload, 1) := by decide +kernel
theorem dX5_readLetter_141 : decode cX5_readLetter 141 = .ok (.astore 4, 2) := by decide +kernel
theorem dX5_readLetter_143 : decode cX5_readLetter 143 = .ok (.aload 4, 2) := by decide +kernel
theorem dX5_readLetter_145 : decode cX5_readLetter 145 = .ok (.iload_n 1, 1) := by decide +kernel
theorem dX5_readLetter_146 : decode cX5_readLetter 146 = .ok (.iload_n 2, 1) := by decide +kernel
theorem dX5_readLetter_147 : decode cX5_readLetter 147 = .ok (.invokevirtual 79, 3) := by decide +kernel
theorem dX5_readLetter_150 : decode cX5_readLetter 150 = .ok (.iconst 0, 1) := by decide +kernel
theorem dX5_readLetter_151 : decode cX5_readLetter 151 = .ok (.istore 5, 2) := by decide +kernel
theorem dX5_readLetter_153 : decode cX5_readLetter 153 = .ok (.iload 5, 2) := by decide +kernel
theorem dX5_readLetter_155 : decode cX5_readLetter 155 = .ok (.iload_n 3, 1) := by decide +kernel
theorem dX5_readLetter_156 : decode cX5_readLetter 156 = .ok (.if_icmp .ge 33, 3) := by decide +kernel
theorem dX5_readLetter_159 : decode cX5_readLetter 159 = .ok (.aload 4, 2) := by decide +kernel
theorem dX5_readLetter_161 : decode cX5_readLetter 161 = .ok (.aload_n 0, 1) := by decide +kernel
theorem dX5_readLetter_162 : decode cX5_readLetter 162 = .ok (.getfield 18, 3) := by decide +kernel
theorem dX5_readLetter_165 : decode cX5_readLetter 165 = .ok (.iload 5, 2) := by decide +kernel
theorem dX5_readLetter_167 : decode cX5_readLetter 167 = .ok (.invokevirtual 85, 3) := by decide +kernel
theorem dX5_readLetter_170 : decode cX5_readLetter 170 = .ok (.aload_n 0, 1) := by decide +kernel
theorem dX5_readLetter_171 : decode cX5_readLetter 171 = .ok (.getfield 12, 3) := by decide +kernel
theorem dX5_readLetter_174 : decode cX5_readLetter 174 = .ok (.getfield 51, 3) := by decide +kernel
theorem dX5_readLetter_177 : decode cX5_readLetter 177 = .ok (.getfield 89, 3) := by decide +kernel
theorem dX5_readLetter_180 : decode cX5_readLetter 180 = .ok (.invokevirtual 92, 3) := by decide +kernel
theorem dX5_readLetter_183 : decode cX5_readLetter 183 = .ok (.iinc 5 1, 3) := by decide +kernel
theorem dX5_readLetter_186 : decode cX5_readLetter 186 = .ok (.goto (-33), 3) := by decide +kernel
theorem dX5_readLetter_189 : decode cX5_readLetter 189 = .ok (.aload_n 0, 1) := by decide +kernel
theorem dX5_readLetter_190 : decode cX5_readLetter 190 = .ok (.getfield 12, 3) := by decide +kernel
theorem dX5_readLetter_193 : decode cX5_readLetter 193 = .ok (.getfield 51, 3) := by decide +kernel
theorem dX5_readLetter_196 : decode cX5_readLetter 196 = .ok (.dup, 1) := by decide +kernel
theorem dX5_readLetter_197 : decode cX5_readLetter 197 = .ok (.getfield 55, 3) := by decide +kernel
theorem dX5_readLetter_200 : decode cX5_readLetter 200 = .ok (.iconst 1, 1) := by decide +kernel
theorem dX5_readLetter_201 : decode cX5_readLetter 201 = .ok (.iadd, 1) := by decide +kernel
theorem dX5_readLetter_202 : decode cX5_readLetter 202 = .ok (.putfield 55, 3) := by decide +kernel
theorem dX5_readLetter_205 : decode cX5_readLetter 205 = .ok (.aload_n 0, 1) := by decide +kernel
theorem dX5_readLetter_206 : decode cX5_readLetter 206 = .ok (.getfield 18, 3) := by decide +kernel
theorem dX5_readLetter_209 : decode cX5_readLetter 209 = .ok (.invokevirtual 61, 3) := by decide +kernel
theorem dX5_readLetter_212 : decode cX5_readLetter 212 = .ok (.iconst 1, 1) := by decide +kernel
theorem dX5_readLetter_213 : decode cX5_readLetter 213 = .ok (.ireturn, 1) := by decide +kernel
theorem dX5_readWords_0 : decode cX5_readWords 0 = .ok (.aload_n 0, 1) := by decide +kernel
theorem dX5_readWords_1 : decode cX5_readWords 1 = .ok (.getfield 18, 3) := by decide +kernel
theorem dX5_readWords_4 : decode cX5_readWords 4 = .ok (.invokevirtual 61, 3) := by decide +kernel
theorem dX5_readWords_7 : decode cX5_readWords 7 = .ok (.aload_n 0, 1) := by decide +kernel
theorem dX5_readWords_8 : decode cX5_readWords 8 = .ok (.getfield 18, 3) := by decide +kernel
theorem dX5_readWords_11 : decode cX5_readWords 11 = .ok (.invokevirtual 95, 3) := by decide +kernel
theorem dX5_readWords_14 : decode cX5_readWords 14 = .ok (.istore_n 1, 1) := by decide +kernel
theorem dX5_readWords_15 : decode cX5_readWords 15 = .ok (.iload_n 1, 1) := by decide +kernel
theorem dX5_readWords_16 : decode cX5_readWords 16 = .ok (.iconst (-1), 1) := by decide +kernel
theorem dX5_readWords_17 : decode cX5_readWords 17 = .ok (.if_icmp .ne 7, 3) := by decide +kernel
theorem dX5_readWords_20 : decode cX5_readWords 20 = .ok (.iconst (-1), 1) := by decide +kernel
theorem dX5_readWords_21 : decode cX5_readWords 21 = .ok (.goto 13, 3) := by decide +kernel
theorem dX5_readWords_24 : decode cX5_readWords 24 = .ok (.aload_n 0, 1) := by decide +kernel
theorem dX5_readWords_25 : decode cX5_readWords 25 = .ok (.getfield 18, 3) := by decide +kernel
theorem dX5_readWords_28 : decode cX5_readWords 28 = .ok (.iconst 1, 1) := by decide +kernel
theorem dX5_readWords_29 : decode cX5_readWords 29 = .ok (.bipush 9, 2) := by decide +kernel
theorem dX5_readWords_31 : decode cX5_readWords 31 = .ok (.invokevirtual 68, 3) := by decide +kernel
theorem dX5_readWords_34 : decode cX5_readWords 34 = .ok (.istore_n 2, 1) := by decide +kernel
theorem dX5_readWords_35 : decode cX5_readWords 35 = .ok (.iload_n 2, 1) := by decide +kernel
theorem dX5_readWords_36 : decode cX5_readWords 36 = .ok (.iconst (-1), 1) := by decide +kernel
theorem dX5_readWords_37 : decode cX5_readWords 37 = .ok (.if_icmp .ne 5, 3) := by decide +kernel
theorem dX5_readWords_40 : decode cX5_readWords 40 = .ok (.iconst 0, 1) := by decide +kernel
theorem dX5_readWords_41 : decode cX5_readWords 41 = .ok (.ireturn, 1) := by decide +kernel
theorem dX5_readWords_42 : decode cX5_readWords 42 = .ok (.aload_n 0, 1) := by decide +kernel
theorem dX5_readWords_43 : decode cX5_readWords 43 = .ok (.getfield 12, 3) := by decide +kernel
theorem dX5_readWords_46 : decode cX5_readWords 46 = .ok (.iload_n 1, 1) := by decide +kernel
theorem dX5_readWords_47 : decode cX5_readWords 47 = .ok (.iload_n 2, 1) := by decide +kernel
theorem dX5_readWords_48 : decode cX5_readWords 48 = .ok (.invokevirtual 98, 3) := by decide +kernel
theorem dX5_readWords_51 : decode cX5_readWords 51 = .ok (.iconst 1, 1) := by decide +kernel
theorem dX5_readWords_52 : decode cX5_readWords 52 = .ok (.ireturn, 1) := by decide +kernel
theorem dX5_readPromise_0 : decode cX5_readPromise 0 = .ok (.aload_n 0, 1) := by decide +kernel
theorem dX5_readPromise_1 : decode cX5_readPromise 1 = .ok (.getfield 12, 3) := by decide +kernel
theorem dX5_readPromise_4 : decode cX5_readPromise 4 = .ok (.getfield 101, 3) := by decide +kernel
theorem dX5_readPromise_7 : decode cX5_readPromise 7 = .ok (.bipush 8, 2) := by decide +kernel
theorem dX5_readPromise_9 : decode cX5_readPromise 9 = .ok (.if_icmp .lt 11, 3) := by decide +kernel
theorem dX5_readPromise_12 : decode cX5_readPromise 12 = .ok (.aload_n 0, 1) := by decide +kernel
theorem dX5_readPromise_13 : decode cX5_readPromise 13 = .ok (.getfield 18, 3) := by decide +kernel
theorem dX5_readPromise_16 : decode cX5_readPromise 16 = .ok (.invokevirtual 48, 3) := by decide +kernel
theorem dX5_readPromise_19 : decode cX5_readPromise 19 = .ok (.ireturn, 1) := by decide +kernel
theorem dX5_readPromise_20 : decode cX5_readPromise 20 = .ok (.aload_n 0, 1) := by decide +kernel
theorem dX5_readPromise_21 : decode cX5_readPromise 21 = .ok (.getfield 18, 3) := by decide +kernel
theorem dX5_readPromise_24 : decode cX5_readPromise 24 = .ok (.invokevirtual 61, 3) := by decide +kernel
theorem dX5_readPromise_27 : decode cX5_readPromise 27 = .ok (.aload_n 0, 1) := by decide +kernel
theorem dX5_readPromise_28 : decode cX5_readPromise 28 = .ok (.getfield 18, 3) := by decide +kernel
theorem dX5_readPromise_31 : decode cX5_readPromise 31 = .ok (.invokevirtual 95, 3) := by decide +kernel
theorem dX5_readPromise_34 : decode cX5_readPromise 34 = .ok (.istore_n 1, 1) := by decide +kernel
theorem dX5_readPromise_35 : decode cX5_readPromise 35 = .ok (.iload_n 1, 1) := by decide +kernel
theorem dX5_readPromise_36 : decode cX5_readPromise 36 = .ok (.iconst (-1), 1) := by decide +kernel
theorem dX5_readPromise_37 : decode cX5_readPromise 37 = .ok (.if_icmp .ne 7, 3) := by decide +kernel
theorem dX5_readPromise_40 : decode cX5_readPromise 40 = .ok (.iconst (-1), 1) := by decide +kernel
theorem dX5_readPromise_41 : decode cX5_readPromise 41 = .ok (.goto 10, 3) := by decide +kernel
theorem dX5_readPromise_44 : decode cX5_readPromise 44 = .ok (.aload_n 0, 1) := by decide +kernel
theorem dX5_readPromise_45 : decode cX5_readPromise 45 = .ok (.getfield 18, 3) := by decide +kernel
theorem dX5_readPromise_48 : decode cX5_readPromise 48 = .ok (.invokevirtual 95, 3) := by decide +kernel
theorem dX5_readPromise_51 : decode cX5_readPromise 51 = .ok (.istore_n 2, 1) := by decide +kernel
theorem dX5_readPromise_52 : decode cX5_readPromise 52 = .ok (.iload_n 2, 1) := by decide +kernel
theorem dX5_readPromise_53 : decode cX5_readPromise 53 = .ok (.iconst (-1), 1) := by decide +kernel
theorem dX5_readPromise_54 : decode cX5_readPromise 54 = .ok (.if_icmp .ne 5, 3) := by decide +kernel
theorem dX5_readPromise_57 : decode cX5_readPromise 57 = .ok (.iconst 0, 1) := by decide +kernel
theorem dX5_readPromise_58 : decode cX5_readPromise 58 = .ok (.ireturn, 1) := by decide +kernel
theorem dX5_readPromise_59 : decode cX5_readPromise 59 = .ok (.aload_n 0, 1) := by decide +kernel
theorem dX5_readPromise_60 : decode cX5_readPromise 60 = .ok (.getfield 12, 3) := by decide +kernel
theorem dX5_readPromise_63 : decode cX5_readPromise 63 = .ok (.iload_n 1, 1) := by decide +kernel
theorem dX5_readPromise_64 : decode cX5_readPromise 64 = .ok (.iload_n 2, 1) := by decide +kernel
theorem dX5_readPromise_65 : decode cX5_readPromise 65 = .ok (.invokevirtual 104, 3) := by decide +kernel
theorem dX5_readPromise_68 : decode cX5_readPromise 68 = .ok (.iconst 1, 1) := by decide +kernel
theorem dX5_readPromise_69 : decode cX5_readPromise 69 = .ok (.ireturn, 1) := by decide +kernel
theorem dX5_readSlip_0 : decode cX5_readSlip 0 = .ok (.aload_n 0, 1) := by decide +kernel
theorem dX5_readSlip_1 : decode cX5_readSlip 1 = .ok (.getfield 18, 3) := by decide +kernel
theorem dX5_readSlip_4 : decode cX5_readSlip 4 = .ok (.invokevirtual 61, 3) := by decide +kernel
theorem dX5_readSlip_7 : decode cX5_readSlip 7 = .ok (.aload_n 0, 1) := by decide +kernel
theorem dX5_readSlip_8 : decode cX5_readSlip 8 = .ok (.getfield 18, 3) := by decide +kernel
theorem dX5_readSlip_11 : decode cX5_readSlip 11 = .ok (.iconst 0, 1) := by decide +kernel
theorem dX5_readSlip_12 : decode cX5_readSlip 12 = .ok (.bipush 100, 2) := by decide +kernel
theorem dX5_readSlip_14 : decode cX5_readSlip 14 = .ok (.invokevirtual 68, 3) := by decide +kernel
theorem dX5_readSlip_17 : decode cX5_readSlip 17 = .ok (.istore_n 1, 1) := by decide +kernel
theorem dX5_readSlip_18 : decode cX5_readSlip 18 = .ok (.iload_n 1, 1) := by decide +kernel
theorem dX5_readSlip_19 : decode cX5_readSlip 19 = .ok (.iconst (-1), 1) := by decide +kernel
theorem dX5_readSlip_20 : decode cX5_readSlip 20 = .ok (.if_icmp .ne 5, 3) := by decide +kernel
theorem dX5_readSlip_23 : decode cX5_readSlip 23 = .ok (.iconst 0, 1) := by decide +kernel
theorem dX5_readSlip_24 : decode cX5_readSlip 24 = .ok (.ireturn, 1) := by decide +kernel
theorem dX5_readSlip_25 : decode cX5_readSlip 25 = .ok (.aload_n 0, 1) := by decide +kernel
theorem dX5_readSlip_26 : decode cX5_readSlip 26 = .ok (.getfield 12, 3) := by decide +kernel
theorem dX5_readSlip_29 : decode cX5_readSlip 29 = .ok (.iload_n 1, 1) := by decide +kernel
theorem dX5_readSlip_30 : decode cX5_readSlip 30 = .ok (.putfield 107, 3) := by decide +kernel
theorem dX5_readSlip_33 : decode cX5_readSlip 33 = .ok (.iconst 1, 1) := by decide +kernel
theorem dX5_readSlip_34 : decode cX5_readSlip 34 = .ok (.ireturn, 1) := by decide +kernel
theorem dX5_readState_0 : decode cX5_readState 0 = .ok (.aload_n 0, 1) := by decide +kernel
theorem dX5_readState_1 : decode cX5_readState 1 = .ok (.getfield 18, 3) := by decide +kernel
theorem dX5_readState_4 : decode cX5_readState 4 = .ok (.invokevirtual 61, 3) := by decide +kernel
theorem dX5_readState_7 : decode cX5_readState 7 = .ok (.aload_n 0, 1) := by decide +kernel
theorem dX5_readState_8 : decode cX5_readState 8 = .ok (.getfield 18, 3) := by decide +kernel
theorem dX5_readState_11 : decode cX5_readState 11 = .ok (.iconst 0, 1) := by decide +kernel
theorem dX5_readState_12 : decode cX5_readState 12 = .ok (.aload_n 0, 1) := by decide +kernel
theorem dX5_readState_13 : decode cX5_readState 13 = .ok (.getfield 12, 3) := by decide +kernel
theorem dX5_readState_16 : decode cX5_readState 16 = .ok (.getfield 51, 3) := by decide +kernel
theorem dX5_readState_19 : decode cX5_readState 19 = .ok (.getfield 55, 3) := by decide +kernel
theorem dX5_readState_22 : decode cX5_readState 22 = .ok (.iconst 1, 1) := by decide +kernel
theorem dX5_readState_23 : decode cX5_readState 23 = .ok (.isub, 1) := by decide +kernel
theorem dX5_readState_24 : decode cX5_readState 24 = .ok (.invokevirtual 68, 3) := by decide +kernel
theorem dX5_readState_27 : decode cX5_readState 27 = .ok (.istore_n 2, 1) := by decide +kernel
theorem dX5_readState_28 : decode cX5_readState 28 = .ok (.iload_n 2, 1) := by decide +kernel
theorem dX5_readState_29 : decode cX5_readState 29 = .ok (.ifCond .lt 17, 3) := by decide +kernel
theorem dX5_readState_32 : decode cX5_readState 32 = .ok (.iload_n 2, 1) := by decide +kernel
theorem dX5_readState_33 : decode cX5_readState 33 = .ok (.aload_n 0, 1) := by decide +kernel
theorem dX5_readState_34 : decode cX5_readState 34 = .ok (.getfield 12, 3) := by decide +kernel
theorem dX5_readState_37 : decode cX5_readState 37 = .ok (.getfield 51, 3) := by decide +kernel
theorem dX5_readState_40 : decode cX5_readState 40 = .ok (.getfield 55, 3) := by decide +kernel
theorem dX5_readState_43 : decode cX5_readState 43 = .ok (.if_icmp .lt 5, 3) := by decide +kernel
theorem dX5_readState_46 : decode cX5_readState 46 = .ok (.iconst 0, 1) := by decide +kernel
theorem dX5_readState_47 : decode cX5_readState 47 = .ok (.ireturn, 1) := by decide +kernel
theorem dX5_readState_48 : decode cX5_readState 48 = .ok (.iload_n 1, 1) := by decide +kernel
theorem dX5_readState_49 : decode cX5_readState 49 = .ok (.ifCond .eq 22, 3) := by decide +kernel
theorem dX5_readState_52 : decode cX5_readState 52 = .ok (.aload_n 0, 1) := by decide +kernel
theorem dX5_readState_53 : decode cX5_readState 53 = .ok (.getfield 12, 3) := by decide +kernel
theorem dX5_readState_56 : decode cX5_readState 56 = .ok (.getfield 51, 3) := by decide +kernel
theorem dX5_readState_59 : decode cX5_readState 59 = .ok (.getfield 75, 3) := by decide +kernel
theorem dX5_readState_62 : decode cX5_readState 62 = .ok (.iload_n 2, 1) := by decide +kernel
theorem dX5_readState_63 : decode cX5_readState 63 = .ok (.aaload, 1) := by decide +kernel
theorem dX5_readState_64 : decode cX5_readState 64 = .ok (.iconst 1, 1) := by decide +kernel
theorem dX5_readState_65 : decode cX5_readState 65 = .ok (.putfield 110, 3) := by decide +kernel
theorem dX5_readState_68 : decode cX5_readState 68 = .ok (.goto 19, 3) := by decide +kernel
theorem dX5_readState_71 : decode cX5_readState 71 = .ok (.aload_n 0, 1) := by decide +kernel
theorem dX5_readState_72 : decode cX5_readState 72 = .ok (.getfield 12, 3) := by decide +kernel
theorem dX5_readState_75 : decode cX5_readState 75 = .ok (.getfield 51, 3) := by decide +kernel
theorem dX5_readState_78 : decode cX5_readState 78 = .ok (.getfield 75, 3) := by decide +kernel
theorem dX5_readState_81 : decode cX5_readState 81 = .ok (.iload_n 2, 1) := by decide +kernel
theorem dX5_readState_82 : decode cX5_readState 82 = .ok (.aaload, 1) := by decide +kernel
theorem dX5_readState_83 : decode cX5_readState 83 = .ok (.iconst 1, 1) := by decide +kernel
theorem dX5_readState_84 : decode cX5_readState 84 = .ok (.putfield 114, 3) := by decide +kernel
theorem dX5_readState_87 : decode cX5_readState 87 = .ok (.iconst 1, 1) := by decide +kernel
theorem dX5_readState_88 : decode cX5_readState 88 = .ok (.ireturn, 1) := by decide +kernel
theorem dX5_readWeek_0 : decode cX5_readWeek 0 = .ok (.aload_n 0, 1) := by decide +kernel
theorem dX5_readWeek_1 : decode cX5_readWeek 1 = .ok (.getfield 18, 3) := by decide +kernel
theorem dX5_readWeek_4 : decode cX5_readWeek 4 = .ok (.invokevirtual 61, 3) := by decide +kernel
theorem dX5_readWeek_7 : decode cX5_readWeek 7 = .ok (.aload_n 0, 1) := by decide +kernel
theorem dX5_readWeek_8 : decode cX5_readWeek 8 = .ok (.getfield 18, 3) := by decide +kernel
theorem dX5_readWeek_11 : decode cX5_readWeek 11 = .ok (.aload_n 0, 1) := by decide +kernel
theorem dX5_readWeek_12 : decode cX5_readWeek 12 = .ok (.getfield 12, 3) := by decide +kernel
theorem dX5_readWeek_15 : decode cX5_readWeek 15 = .ok (.getfield 51, 3) := by decide +kernel
theorem dX5_readWeek_18 : decode cX5_readWeek 18 = .ok (.getfield 89, 3) := by decide +kernel
theorem dX5_readWeek_21 : decode cX5_readWeek 21 = .ok (.sipush 999, 3) := by decide +kernel
theorem dX5_readWeek_24 : decode cX5_readWeek 24 = .ok (.invokevirtual 68, 3) := by decide +kernel
theorem dX5_readWeek_27 : decode cX5_readWeek 27 = .ok (.istore_n 1, 1) := by decide +kernel
theorem dX5_readWeek_28 : decode cX5_readWeek 28 = .ok (.iload_n 1, 1) := by decide +kernel
theorem dX5_readWeek_29 : decode cX5_readWeek 29 = .ok (.iconst (-1), 1) := by decide +kernel
theorem dX5_readWeek_30 : decode cX5_readWeek 30 = .ok (.if_icmp .ne 5, 3) := by decide +kernel
theorem dX5_readWeek_33 : decode cX5_readWeek 33 = .ok (.iconst 0, 1) := by decide +kernel
theorem dX5_readWeek_34 : decode cX5_readWeek 34 = .ok (.ireturn, 1) := by decide +kernel
theorem dX5_readWeek_35 : decode cX5_readWeek 35 = .ok (.aload_n 0, 1) := by decide +kernel
theorem dX5_readWeek_36 : decode cX5_readWeek 36 = .ok (.getfield 12, 3) := by decide +kernel
theorem dX5_readWeek_39 : decode cX5_readWeek 39 = .ok (.getfield 51, 3) := by decide +kernel
theorem dX5_readWeek_42 : decode cX5_readWeek 42 = .ok (.iload_n 1, 1) := by decide +kernel
theorem dX5_readWeek_43 : decode cX5_readWeek 43 = .ok (.putfield 89, 3) := by decide +kernel
theorem dX5_readWeek_46 : decode cX5_readWeek 46 = .ok (.iconst 1, 1) := by decide +kernel
theorem dX5_readWeek_47 : decode cX5_readWeek 47 = .ok (.ireturn, 1) := by decide +kernel
theorem dX6_init_0 : decode cX6_init 0 = .ok (.aload_n 0, 1) := by decide +kernel
theorem dX6_init_1 : decode cX6_init 1 = .ok (.invokespecial 3, 3) := by decide +kernel
theorem dX6_init_4 : decode cX6_init 4 = .ok (.aload_n 0, 1) := by decide +kernel
theorem dX6_init_5 : decode cX6_init 5 = .ok (.sipush 256, 3) := by decide +kernel
theorem dX6_init_8 : decode cX6_init 8 = .ok (.newarray .int, 2) := by decide +kernel
theorem dX6_init_10 : decode cX6_init 10 = .ok (.putfield 9, 3) := by decide +kernel
theorem dX6_init_13 : decode cX6_init 13 = .ok (.aload_n 0, 1) := by decide +kernel
theorem dX6_init_14 : decode cX6_init 14 = .ok (.sipush 256, 3) := by decide +kernel
theorem dX6_init_17 : decode cX6_init 17 = .ok (.newarray .int, 2) := by decide +kernel
theorem dX6_init_19 : decode cX6_init 19 = .ok (.putfield 15, 3) := by decide +kernel
theorem dX6_init_22 : decode cX6_init 22 = .ok (.return_, 1) := by decide +kernel
theorem dX6_clear_0 : decode cX6_clear 0 = .ok (.aload_n 0, 1) := by decide +kernel
theorem dX6_clear_1 : decode cX6_clear 1 = .ok (.iconst 0, 1) := by decide +kernel
theorem dX6_clear_2 : decode cX6_clear 2 = .ok (.putfield 18, 3) := by decide +kernel
theorem dX6_clear_5 : decode cX6_clear 5 = .ok (.return_, 1) := by decide +kernel
theorem dX6_add_0 : decode cX6_add 0 = .ok (.aload_n 0, 1) := by decide +kernel
theorem dX6_add_1 : decode cX6_add 1 = .ok (.getfield 18, 3) := by decide +kernel
theorem dX6_add_4 : decode cX6_add 4 = .ok (.bipush 8, 2) := by decide +kernel
theorem dX6_add_6 : decode cX6_add 6 = .ok (.if_icmp .lt 4, 3) := by decide +kernel
theorem dX6_add_9 : decode cX6_add 9 = .ok (.return_, 1) := by decide +kernel
theorem dX6_add_10 : decode cX6_add 10 = .ok (.iconst 1, 1) := by decide +kernel
theorem dX6_add_11 : decode cX6_add 11 = .ok (.aload_n 0, 1) := by decide +kernel
theorem dX6_add_12 : decode cX6_add 12 = .ok (.getfield 18, 3) := by decide +kernel
theorem dX6_add_15 : decode cX6_add 15 = .ok (.ishl, 1) := by decide +kernel
theorem dX6_add_16 : decode cX6_add 16 = .ok (.istore_n 2, 1) := by decide +kernel
theorem dX6_add_17 : decode cX6_add 17 = .ok (.iconst 0, 1) := by decide +kernel
theorem dX6_add_18 : decode cX6_add 18 = .ok (.istore_n 3, 1) := by decide +kernel
theorem dX6_add_19 : decode cX6_add 19 = .ok (.iload_n 3, 1) := by decide +kernel
theorem dX6_add_20 : decode cX6_add 20 = .ok (.iload_n 2, 1) := by decide +kernel
theorem dX6_add_21 : decode cX6_add 21 = .ok (.if_icmp .ge 25, 3) := by decide +kernel
theorem dX6_add_24 : decode cX6_add 24 = .ok (.aload_n 0, 1) := by decide +kernel
theorem dX6_add_25 : decode cX6_add 25 = .ok (.getfield 9, 3) := by decide +kernel
theorem dX6_add_28 : decode cX6_add 28 = .ok (.iload_n 2, 1) := by decide +kernel
theorem dX6_add_29 : decode cX6_add 29 = .ok (.iload_n 3, 1) := by decide +kernel
theorem dX6_add_30 : decode cX6_add 30 = .ok (.iadd, 1) := by decide +kernel
theorem dX6_add_31 : decode cX6_add 31 = .ok (.aload_n 0, 1) := by decide +kernel
theorem dX6_add_32 : decode cX6_add 32 = .ok (.getfield 9, 3) := by decide +kernel
theorem dX6_add_35 : decode cX6_add 35 = .ok (.iload_n 3, 1) := by decide +kernel
theorem dX6_add_36 : decode cX6_add 36 = .ok (.iaload, 1) := by decide +kernel
theorem dX6_add_37 : decode cX6_add 37 = .ok (.iload_n 1, 1) := by decide +kernel
theorem dX6_add_38 : decode cX6_add 38 = .ok (.iadd, 1) := by decide +kernel
theorem dX6_add_39 : decode cX6_add 39 = .ok (.iastore, 1) := by decide +kernel
theorem dX6_add_40 : decode cX6_add 40 = .ok (.iinc 3 1, 3) := by decide +kernel
theorem dX6_add_43 : decode cX6_add 43 = .ok (.goto (-24), 3) := by decide +kernel
theorem dX6_add_46 : decode cX6_add 46 = .ok (.aload_n 0, 1) := by decide +kernel
theorem dX6_add_47 : decode cX6_add 47 = .ok (.dup, 1) := by decide +kernel
theorem dX6_add_48 : decode cX6_add 48 = .ok (.getfield 18, 3) := by decide +kernel
theorem dX6_add_51 : decode cX6_add 51 = .ok (.iconst 1, 1) := by decide +kernel
theorem dX6_add_52 : decode cX6_add 52 = .ok (.iadd, 1) := by decide +kernel
theorem dX6_add_53 : decode cX6_add 53 = .ok (.putfield 18, 3) := by decide +kernel
theorem dX6_add_56 : decode cX6_add 56 = .ok (.return_, 1) := by decide +kernel
theorem dX6_mostOnOne_0 : decode cX6_mostOnOne 0 = .ok (.iconst 0, 1) := by decide +kernel
theorem dX6_mostOnOne_1 : decode cX6_mostOnOne 1 = .ok (.istore_n 2, 1) := by decide +kernel
theorem dX6_mostOnOne_2 : decode cX6_mostOnOne 2 = .ok (.iconst 0, 1) := by decide +kernel
theorem dX6_mostOnOne_3 : decode cX6_mostOnOne 3 = .ok (.istore_n 3, 1) := by decide +kernel
theorem dX6_mostOnOne_4 : decode cX6_mostOnOne 4 = .ok (.iload_n 3, 1) := by decide +kernel
theorem dX6_mostOnOne_5 : decode cX6_mostOnOne 5 = .ok (.iconst 1, 1) := by decide +kernel
theorem dX6_mostOnOne_6 : decode cX6_mostOnOne 6 = .ok (.aload_n 0, 1) := by decide +kernel
theorem dX6_mostOnOne_7 : decode cX6_mostOnOne 7 = .ok (.getfield 18, 3) := by decide +kernel
theorem dX6_mostOnOne_10 : decode cX6_mostOnOne 10 = .ok (.ishl, 1) := by decide +kernel
theorem dX6_mostOnOne_11 : decode cX6_mostOnOne 11 = .ok (.if_icmp .ge 28, 3) := by decide +kernel
theorem dX6_mostOnOne_14 : decode cX6_mostOnOne 14 = .ok (.aload_n 0, 1) := by decide +kernel
theorem dX6_mostOnOne_15 : decode cX6_mostOnOne 15 = .ok (.getfield 9, 3) := by decide +kernel
theorem dX6_mostOnOne_18 : decode cX6_mostOnOne 18 = .ok (.iload_n 3, 1) := by decide +kernel
theorem dX6_mostOnOne_19 : decode cX6_mostOnOne 19 = .ok (.iaload, 1) := by decide +kernel
theorem dX6_mostOnOne_20 : decode cX6_mostOnOne 20 = .ok (.iload_n 1, 1) := by decide +kernel
theorem dX6_mostOnOne_21 : decode cX6_mostOnOne 21 = .ok (.if_icmp .gt 12, 3) := by decide +kernel
theorem dX6_mostOnOne_24 : decode cX6_mostOnOne 24 = .ok (.iload_n 2, 1) := by decide +kernel
theorem dX6_mostOnOne_25 : decode cX6_mostOnOne 25 = .ok (.iload_n 3, 1) := by decide +kernel
theorem dX6_mostOnOne_26 : decode cX6_mostOnOne 26 = .ok (.invokestatic 22, 3) := by decide +kernel
theorem dX6_mostOnOne_29 : decode cX6_mostOnOne 29 = .ok (.invokestatic 28, 3) := by decide +kernel
theorem dX6_mostOnOne_32 : decode cX6_mostOnOne 32 = .ok (.istore_n 2, 1) := by decide +kernel
theorem dX6_mostOnOne_33 : decode cX6_mostOnOne 33 = .ok (.iinc 3 1, 3) := by decide +kernel
theorem dX6_mostOnOne_36 : decode cX6_mostOnOne 36 = .ok (.goto (-32), 3) := by decide +kernel
theorem dX6_mostOnOne_39 : decode cX6_mostOnOne 39 = .ok (.iload_n 2, 1) := by decide +kernel
theorem dX6_mostOnOne_40 : decode cX6_mostOnOne 40 = .ok (.ireturn, 1) := by decide +kernel
theorem dX6_fewestShelves_0 : decode cX6_fewestShelves 0 = .ok (.iconst 1, 1) := by decide +kernel
theorem dX6_fewestShelves_1 : decode cX6_fewestShelves 1 = .ok (.aload_n 0, 1) := by decide +kernel
theorem dX6_fewestShelves_2 : decode cX6_fewestShelves 2 = .ok (.getfield 18, 3) := by decide +kernel
theorem dX6_fewestShelves_5 : decode cX6_fewestShelves 5 = .ok (.ishl, 1) := by decide +kernel
theorem dX6_fewestShelves_6 : decode cX6_fewestShelves 6 = .ok (.istore_n 2, 1) := by decide +kernel
theorem dX6_fewestShelves_7 : decode cX6_fewestShelves 7 = .ok (.iconst 1, 1) := by decide +kernel
theorem dX6_fewestShelves_8 : decode cX6_fewestShelves 8 = .ok (.istore_n 3, 1) := by decide +kernel
theorem dX6_fewestShelves_9 : decode cX6_fewestShelves 9 = .ok (.iload_n 3, 1) := by decide +kernel
theorem dX6_fewestShelves_10 : decode cX6_fewestShelves 10 = .ok (.iload_n 2, 1) := by decide +kernel
theorem dX6_fewestShelves_11 : decode cX6_fewestShelves 11 = .ok (.if_icmp .ge 108, 3) := by decide +kernel
theorem dX6_fewestShelves_14 : decode cX6_fewestShelves 14 = .ok (.aload_n 0, 1) := by decide +kernel
theorem dX6_fewestShelves_15 : decode cX6_fewestShelves 15 = .ok (.getfield 15, 3) := by decide +kernel
theorem dX6_fewestShelves_18 : decode cX6_fewestShelves 18 = .ok (.iload_n 3, 1) := by decide +kernel
theorem dX6_fewestShelves_19 : decode cX6_fewestShelves 19 = .ok (.iconst (-1), 1) := by decide +kernel
theorem dX6_fewestShelves_20 : decode cX6_fewestShelves 20 = .ok (.iastore, 1) := by decide +kernel
theorem dX6_fewestShelves_21 : decode cX6_fewestShelves 21 = .ok (.iload_n 3, 1) := by decide +kernel
theorem dX6_fewestShelves_22 : decode cX6_fewestShelves 22 = .ok (.istore 4, 2) := by decide +kernel
theorem dX6_fewestShelves_24 : decode cX6_fewestShelves 24 = .ok (.iload 4, 2) := by decide +kernel
theorem dX6_fewestShelves_26 : decode cX6_fewestShelves 26 = .ok (.ifCond .le 87, 3) := by decide +kernel
theorem dX6_fewestShelves_29 : decode cX6_fewestShelves 29 = .ok (.aload_n 0, 1) := by decide +kernel
theorem dX6_fewestShelves_30 : decode cX6_fewestShelves 30 = .ok (.getfield 15, 3) := by decide +kernel
theorem dX6_fewestShelves_33 : decode cX6_fewestShelves 33 = .ok (.iload_n 3, 1) := by decide +kernel
theorem dX6_fewestShelves_34 : decode cX6_fewestShelves 34 = .ok (.iload 4, 2) := by decide +kernel
theorem dX6_fewestShelves_36 : decode cX6_fewestShelves 36 = .ok (.isub, 1) := by decide +kernel
theorem dX6_fewestShelves_37 : decode cX6_fewestShelves 37 = .ok (.iaload, 1) := by decide +kernel
theorem dX6_fewestShelves_38 : decode cX6_fewestShelves 38 = .ok (.istore 5, 2) := by decide +kernel
theorem dX6_fewestShelves_40 : decode cX6_fewestShelves 40 = .ok (.aload_n 0, 1) := by decide +kernel
theorem dX6_fewestShelves_41 : decode cX6_fewestShelves 41 = .ok (.getfield 9, 3) := by decide +kernel
theorem dX6_fewestShelves_44 : decode cX6_fewestShelves 44 = .ok (.iload 4, 2) := by decide +kernel
theorem dX6_fewestShelves_46 : decode cX6_fewestShelves 46 = .ok (.iaload, 1) := by decide +kernel
theorem dX6_fewestShelves_47 : decode cX6_fewestShelves 47 = .ok (.iload_n 1, 1) := by decide +kernel
theorem dX6_fewestShelves_48 : decode cX6_fewestShelves 48 = .ok (.if_icmp .gt 13, 3) := by decide +kernel
theorem dX6_fewestShelves_51 : decode cX6_fewestShelves 51 = .ok (.iload 5, 2) := by decide +kernel
theorem dX6_fewestShelves_53 : decode cX6_fewestShelves 53 = .ok (.iconst (-1), 1) := by decide +kernel
theorem dX6_fewestShelves_54 : decode cX6_fewestShelves 54 = .ok (.if_icmp .eq 7, 3) := by decide +kernel
theorem dX6_fewestShelves_57 : decode cX6_fewestShelves 57 = .ok (.iconst 1, 1) := by decide +kernel
theorem dX6_fewestShelves_58 : decode cX6_fewestShelves 58 = .ok (.goto 4, 3) := by decide +kernel
theorem dX6_fewestShelves_61 : decode cX6_fewestShelves 61 = .ok (.iconst 0, 1) := by decide +kernel
theorem dX6_fewestShelves_62 : decode cX6_fewestShelves 62 = .ok (.istore 6, 2) := by decide +kernel
theorem dX6_fewestShelves_64 : decode cX6_fewestShelves 64 = .ok (.iload 6, 2) := by decide +kernel
theorem dX6_fewestShelves_66 : decode cX6_fewestShelves 66 = .ok (.ifCond .eq 36, 3) := by decide +kernel
theorem dX6_fewestShelves_69 : decode cX6_fewestShelves 69 = .ok (.aload_n 0, 1) := by decide +kernel
theorem dX6_fewestShelves_70 : decode cX6_fewestShelves 70 = .ok (.getfield 15, 3) := by decide +kernel
theorem dX6_fewestShelves_73 : decode cX6_fewestShelves 73 = .ok (.iload_n 3, 1) := by decide +kernel
theorem dX6_fewestShelves_74 : decode cX6_fewestShelves 74 = .ok (.iaload, 1) := by decide +kernel
theorem dX6_fewestShelves_75 : decode cX6_fewestShelves 75 = .ok (.iconst (-1), 1) := by decide +kernel
theorem dX6_fewestShelves_76 : decode cX6_fewestShelves 76 = .ok (.if_icmp .eq 16, 3) := by decide +kernel
theorem dX6_fewestShelves_79 : decode cX6_fewestShelves 79 = .ok (.iload 5, 2) := by decide +kernel
theorem dX6_fewestShelves_81 : decode cX6_fewestShelves 81 = .ok (.iconst 1, 1) := by decide +kernel
theorem dX6_fewestShelves_82 : decode cX6_fewestShelves 82 = .ok (.iadd, 1) := by decide +kernel
theorem dX6_fewestShelves_83 : decode cX6_fewestShelves 83 = .ok (.aload_n 0, 1) := by decide +kernel
theorem dX6_fewestShelves_84 : decode cX6_fewestShelves 84 = .ok (.getfield 15, 3) := by decide +kernel
theorem dX6_fewestShelves_87 : decode cX6_fewestShelves 87 = .ok (.iload_n 3, 1) := by decide +kernel
theorem dX6_fewestShelves_88 : decode cX6_fewestShelves 88 = .ok (.iaload, 1) := by decide +kernel
theorem dX6_fewestShelves_89 : decode cX6_fewestShelves 89 = .ok (.if_icmp .ge 13, 3) := by decide +kernel
theorem dX6_fewestShelves_92 : decode cX6_fewestShelves 92 = .ok (.aload_n 0, 1) := by decide +kernel
theorem dX6_fewestShelves_93 : decode cX6_fewestShelves 93 = .ok (.getfield 15, 3) := by decide +kernel
theorem dX6_fewestShelves_96 : decode cX6_fewestShelves 96 = .ok (.iload_n 3, 1) := by decide +kernel
theorem dX6_fewestShelves_97 : decode cX6_fewestShelves 97 = .ok (.iload 5, 2) := by decide +kernel
theorem dX6_fewestShelves_99 : decode cX6_fewestShelves 99 = .ok (.iconst 1, 1) := by decide +kernel
theorem dX6_fewestShelves_100 : decode cX6_fewestShelves 100 = .ok (.iadd, 1) := by decide +kernel
theorem dX6_fewestShelves_101 : decode cX6_fewestShelves 101 = .ok (.iastore, 1) := by decide +kernel
theorem dX6_fewestShelves_102 : decode cX6_fewestShelves 102 = .ok (.iload 4, 2) := by decide +kernel
theorem dX6_fewestShelves_104 : decode cX6_fewestShelves 104 = .ok (.iconst 1, 1) := by decide +kernel
theorem dX6_fewestShelves_105 : decode cX6_fewestShelves 105 = .ok (.isub, 1) := by decide +kernel
theorem dX6_fewestShelves_106 : decode cX6_fewestShelves 106 = .ok (.iload_n 3, 1) := by decide +kernel
theorem dX6_fewestShelves_107 : decode cX6_fewestShelves 107 = .ok (.iand, 1) := by decide +kernel
theorem dX6_fewestShelves_108 : decode cX6_fewestShelves 108 = .ok (.istore 4, 2) := by decide +kernel
theorem dX6_fewestShelves_110 : decode cX6_fewestShelves 110 = .ok (.goto (-86), 3) := by decide +kernel
theorem dX6_fewestShelves_113 : decode cX6_fewestShelves 113 = .ok (.iinc 3 1, 3) := by decide +kernel
theorem dX6_fewestShelves_116 : decode cX6_fewestShelves 116 = .ok (.goto (-107), 3) := by decide +kernel
theorem dX6_fewestShelves_119 : decode cX6_fewestShelves 119 = .ok (.aload_n 0, 1) := by decide +kernel
theorem dX6_fewestShelves_120 : decode cX6_fewestShelves 120 = .ok (.getfield 15, 3) := by decide +kernel
theorem dX6_fewestShelves_123 : decode cX6_fewestShelves 123 = .ok (.iload_n 2, 1) := by decide +kernel
theorem dX6_fewestShelves_124 : decode cX6_fewestShelves 124 = .ok (.iconst 1, 1) := by decide +kernel
theorem dX6_fewestShelves_125 : decode cX6_fewestShelves 125 = .ok (.isub, 1) := by decide +kernel
theorem dX6_fewestShelves_126 : decode cX6_fewestShelves 126 = .ok (.iaload, 1) := by decide +kernel
theorem dX6_fewestShelves_127 : decode cX6_fewestShelves 127 = .ok (.ireturn, 1) := by decide +kernel
theorem dX7_init_0 : decode cX7_init 0 = .ok (.aload_n 0, 1) := by decide +kernel
theorem dX7_init_1 : decode cX7_init 1 = .ok (.invokespecial 3, 3) := by decide +kernel
theorem dX7_init_4 : decode cX7_init 4 = .ok (.aload_n 0, 1) := by decide +kernel
theorem dX7_init_5 : decode cX7_init 5 = .ok (.new 9, 3) := by decide +kernel
theorem dX7_init_8 : decode cX7_init 8 = .ok (.dup, 1) := by decide +kernel
theorem dX7_init_9 : decode cX7_init 9 = .ok (.invokespecial 11, 3) := by decide +kernel
theorem dX7_init_12 : decode cX7_init 12 = .ok (.putfield 12, 3) := by decide +kernel
theorem dX7_init_15 : decode cX7_init 15 = .ok (.aload_n 0, 1) := by decide +kernel
theorem dX7_init_16 : decode cX7_init 16 = .ok (.iconst (-1), 1) := by decide +kernel
theorem dX7_init_17 : decode cX7_init 17 = .ok (.putfield 18, 3) := by decide +kernel
theorem dX7_init_20 : decode cX7_init 20 = .ok (.return_, 1) := by decide +kernel
theorem dX7_look_0 : decode cX7_look 0 = .ok (.aload_n 0, 1) := by decide +kernel
theorem dX7_look_1 : decode cX7_look 1 = .ok (.getfield 12, 3) := by decide +kernel
theorem dX7_look_4 : decode cX7_look 4 = .ok (.aload_n 1, 1) := by decide +kernel
theorem dX7_look_5 : decode cX7_look 5 = .ok (.invokevirtual 22, 3) := by decide +kernel
theorem dX7_look_8 : decode cX7_look 8 = .ok (.aload_n 0, 1) := by decide +kernel
theorem dX7_look_9 : decode cX7_look 9 = .ok (.iload_n 2, 1) := by decide +kernel
theorem dX7_look_10 : decode cX7_look 10 = .ok (.putfield 26, 3) := by decide +kernel
theorem dX7_look_13 : decode cX7_look 13 = .ok (.aload_n 0, 1) := by decide +kernel
theorem dX7_look_14 : decode cX7_look 14 = .ok (.iconst (-1), 1) := by decide +kernel
theorem dX7_look_15 : decode cX7_look 15 = .ok (.putfield 18, 3) := by decide +kernel
theorem dX7_look_18 : decode cX7_look 18 = .ok (.return_, 1) := by decide +kernel
theorem dX7_lookAtRow_0 : decode cX7_lookAtRow 0 = .ok (.aload_n 0, 1) := by decide +kernel
theorem dX7_lookAtRow_1 : decode cX7_lookAtRow 1 = .ok (.getfield 12, 3) := by decide +kernel
theorem dX7_lookAtRow_4 : decode cX7_lookAtRow 4 = .ok (.iload_n 2, 1) := by decide +kernel
theorem dX7_lookAtRow_5 : decode cX7_lookAtRow 5 = .ok (.iload_n 3, 1) := by decide +kernel
theorem dX7_lookAtRow_6 : decode cX7_lookAtRow 6 = .ok (.invokevirtual 29, 3) := by decide +kernel
theorem dX7_lookAtRow_9 : decode cX7_lookAtRow 9 = .ok (.iload_n 1, 1) := by decide +kernel
theorem dX7_lookAtRow_10 : decode cX7_lookAtRow 10 = .ok (.bipush 12, 2) := by decide +kernel
theorem dX7_lookAtRow_12 : decode cX7_lookAtRow 12 = .ok (.if_icmp .lt 18, 3) := by decide +kernel
theorem dX7_lookAtRow_15 : decode cX7_lookAtRow 15 = .ok (.aload_n 0, 1) := by decide +kernel
theorem dX7_lookAtRow_16 : decode cX7_lookAtRow 16 = .ok (.getfield 12, 3) := by decide +kernel
theorem dX7_lookAtRow_19 : decode cX7_lookAtRow 19 = .ok (.iload_n 1, 1) := by decide +kernel
theorem dX7_lookAtRow_20 : decode cX7_lookAtRow 20 = .ok (.bipush 12, 2) := by decide +kernel
theorem dX7_lookAtRow_22 : decode cX7_lookAtRow 22 = .ok (.idiv, 1) := by decide +kernel
theorem dX7_lookAtRow_23 : decode cX7_lookAtRow 23 = .ok (.iconst 1, 1) := by decide +kernel
theorem dX7_lookAtRow_24 : decode cX7_lookAtRow 24 = .ok (.isub, 1) := by decide +kernel
theorem dX7_lookAtRow_25 : decode cX7_lookAtRow 25 = .ok (.iload 4, 2) := by decide +kernel
theorem dX7_lookAtRow_27 : decode cX7_lookAtRow 27 = .ok (.invokevirtual 33, 3) := by decide +kernel
theorem dX7_lookAtRow_30 : decode cX7_lookAtRow 30 = .ok (.aload_n 0, 1) := by decide +kernel
theorem dX7_lookAtRow_31 : decode cX7_lookAtRow 31 = .ok (.getfield 12, 3) := by decide +kernel
theorem dX7_lookAtRow_34 : decode cX7_lookAtRow 34 = .ok (.iload_n 1, 1) := by decide +kernel
theorem dX7_lookAtRow_35 : decode cX7_lookAtRow 35 = .ok (.bipush 12, 2) := by decide +kernel
theorem dX7_lookAtRow_37 : decode cX7_lookAtRow 37 = .ok (.irem, 1) := by decide +kernel
theorem dX7_lookAtRow_38 : decode cX7_lookAtRow 38 = .ok (.iload 4, 2) := by decide +kernel
theorem dX7_lookAtRow_40 : decode cX7_lookAtRow 40 = .ok (.invokevirtual 33, 3) := by decide +kernel
theorem dX7_lookAtRow_43 : decode cX7_lookAtRow 43 = .ok (.aload_n 0, 1) := by decide +kernel
theorem dX7_lookAtRow_44 : decode cX7_lookAtRow 44 = .ok (.iload 4, 2) := by decide +kernel
theorem dX7_lookAtRow_46 : decode cX7_lookAtRow 46 = .ok (.putfield 26, 3) := by decide +kernel
theorem dX7_lookAtRow_49 : decode cX7_lookAtRow 49 = .ok (.aload_n 0, 1) := by decide +kernel
theorem dX7_lookAtRow_50 : decode cX7_lookAtRow 50 = .ok (.iconst (-1), 1) := by decide +kernel
theorem dX7_lookAtRow_51 : decode cX7_lookAtRow 51 = .ok (.putfield 18, 3) := by decide +kernel
theorem dX7_lookAtRow_54 : decode cX7_lookAtRow 54 = .ok (.return_, 1) := by decide +kernel
theorem dX7_go_0 : decode cX7_go 0 = .ok (.iconst 0, 1) := by decide +kernel
theorem dX7_go_1 : decode cX7_go 1 = .ok (.istore_n 3, 1) := by decide +kernel
theorem dX7_go_2 : decode cX7_go 2 = .ok (.iload_n 3, 1) := by decide +kernel
theorem dX7_go_3 : decode cX7_go 3 = .ok (.iload_n 2, 1) := by decide +kernel
theorem dX7_go_4 : decode cX7_go 4 = .ok (.if_icmp .ge 14, 3) := by decide +kernel
theorem dX7_go_7 : decode cX7_go 7 = .ok (.aload_n 0, 1) := by decide +kernel
theorem dX7_go_8 : decode cX7_go 8 = .ok (.aload_n 1, 1) := by decide +kernel
theorem dX7_go_9 : decode cX7_go 9 = .ok (.invokevirtual 36, 3) := by decide +kernel
theorem dX7_go_12 : decode cX7_go 12 = .ok (.iinc 3 1, 3) := by decide +kernel
theorem dX7_go_15 : decode cX7_go 15 = .ok (.goto (-13), 3) := by decide +kernel
theorem dX7_go_18 : decode cX7_go 18 = .ok (.return_, 1) := by decide +kernel
theorem dX7_goWeek_0 : decode cX7_goWeek 0 = .ok (.aload_n 0, 1) := by decide +kernel
theorem dX7_goWeek_1 : decode cX7_goWeek 1 = .ok (.getfield 12, 3) := by decide +kernel
theorem dX7_goWeek_4 : decode cX7_goWeek 4 = .ok (.getfield 40, 3) := by decide +kernel
theorem dX7_goWeek_7 : decode cX7_goWeek 7 = .ok (.ifCond .eq 7, 3) := by decide +kernel
theorem dX7_goWeek_10 : decode cX7_goWeek 10 = .ok (.iconst 2, 1) := by decide +kernel
theorem dX7_goWeek_11 : decode cX7_goWeek 11 = .ok (.goto 4, 3) := by decide +kernel
theorem dX7_goWeek_14 : decode cX7_goWeek 14 = .ok (.iconst 1, 1) := by decide +kernel
theorem dX7_goWeek_15 : decode cX7_goWeek 15 = .ok (.istore_n 2, 1) := by decide +kernel
theorem dX7_goWeek_16 : decode cX7_goWeek 16 = .ok (.iconst 0, 1) := by decide +kernel
theorem dX7_goWeek_17 : decode cX7_goWeek 17 = .ok (.istore_n 3, 1) := by decide +kernel
theorem dX7_goWeek_18 : decode cX7_goWeek 18 = .ok (.iload_n 3, 1) := by decide +kernel
theorem dX7_goWeek_19 : decode cX7_goWeek 19 = .ok (.iload_n 2, 1) := by decide +kernel
theorem dX7_goWeek_20 : decode cX7_goWeek 20 = .ok (.if_icmp .ge 62, 3) := by decide +kernel
theorem dX7_goWeek_23 : decode cX7_goWeek 23 = .ok (.aload_n 1, 1) := by decide +kernel
theorem dX7_goWeek_24 : decode cX7_goWeek 24 = .ok (.aload_n 0, 1) := by decide +kernel
theorem dX7_goWeek_25 : decode cX7_goWeek 25 = .ok (.getfield 12, 3) := by decide +kernel
theorem dX7_goWeek_28 : decode cX7_goWeek 28 = .ok (.aload_n 0, 1) := by decide +kernel
theorem dX7_goWeek_29 : decode cX7_goWeek 29 = .ok (.getfield 26, 3) := by decide +kernel
theorem dX7_goWeek_32 : decode cX7_goWeek 32 = .ok (.invokevirtual 44, 3) := by decide +kernel
theorem dX7_goWeek_35 : decode cX7_goWeek 35 = .ok (.istore 4, 2) := by decide +kernel
theorem dX7_goWeek_37 : decode cX7_goWeek 37 = .ok (.iload 4, 2) := by decide +kernel
theorem dX7_goWeek_39 : decode cX7_goWeek 39 = .ok (.iconst (-1), 1) := by decide +kernel
theorem dX7_goWeek_40 : decode cX7_goWeek 40 = .ok (.if_icmp .eq 36, 3) := by decide +kernel
theorem dX7_goWeek_43 : decode cX7_goWeek 43 = .ok (.aload_n 0, 1) := by decide +kernel
theorem dX7_goWeek_44 : decode cX7_goWeek 44 = .ok (.getfield 12, 3) := by decide +kernel
theorem dX7_goWeek_47 : decode cX7_goWeek 47 = .ok (.aload_n 0, 1) := by decide +kernel
theorem dX7_goWeek_48 : decode cX7_goWeek 48 = .ok (.getfield 18, 3) := by decide +kernel
theorem dX7_goWeek_51 : decode cX7_goWeek 51 = .ok (.iconst (-1), 1) := by decide +kernel
theorem dX7_goWeek_52 : decode cX7_goWeek 52 = .ok (.if_icmp .ne 8, 3) := by decide +kernel
theorem dX7_goWeek_55 : decode cX7_goWeek 55 = .ok (.iload 4, 2) := by decide +kernel
theorem dX7_goWeek_57 : decode cX7_goWeek 57 = .ok (.goto 7, 3) := by decide +kernel
theorem dX7_goWeek_60 : decode cX7_goWeek 60 = .ok (.aload_n 0, 1) := by decide +kernel
theorem dX7_goWeek_61 : decode cX7_goWeek 61 = .ok (.getfield 18, 3) := by decide +kernel
theorem dX7_goWeek_64 : decode cX7_goWeek 64 = .ok (.aload_n 0, 1) := by decide +kernel
theorem dX7_goWeek_65 : decode cX7_goWeek 65 = .ok (.getfield 26, 3) := by decide +kernel
theorem dX7_goWeek_68 : decode cX7_goWeek 68 = .ok (.invokevirtual 33, 3) := by decide +kernel
theorem dX7_goWeek_71 : decode cX7_goWeek 71 = .ok (.aload_n 0, 1) := by decide +kernel
theorem dX7_goWeek_72 : decode cX7_goWeek 72 = .ok (.iconst (-1), 1) := by decide +kernel
theorem dX7_goWeek_73 : decode cX7_goWeek 73 = .ok (.putfield 18, 3) := by decide +kernel
theorem dX7_goWeek_76 : decode cX7_goWeek 76 = .ok (.iinc 3 1, 3) := by decide +kernel
theorem dX7_goWeek_79 : decode cX7_goWeek 79 = .ok (.goto (-61), 3) := by decide +kernel
theorem dX7_goWeek_82 : decode cX7_goWeek 82 = .ok (.aload_n 0, 1) := by decide +kernel
theorem dX7_goWeek_83 : decode cX7_goWeek 83 = .ok (.aload_n 0, 1) := by decide +kernel
theorem dX7_goWeek_84 : decode cX7_goWeek 84 = .ok (.getfield 26, 3) := by decide +kernel
theorem dX7_goWeek_87 : decode cX7_goWeek 87 = .ok (.iconst 1, 1) := by decide +kernel
theorem dX7_goWeek_88 : decode cX7_goWeek 88 = .ok (.iadd, 1) := by decide +kernel
theorem dX7_goWeek_89 : decode cX7_goWeek 89 = .ok (.sipush 9999, 3) := by decide +kernel
theorem dX7_goWeek_92 : decode cX7_goWeek 92 = .ok (.invokestatic 50, 3) := by decide +kernel
theorem dX7_goWeek_95 : decode cX7_goWeek 95 = .ok (.putfield 26, 3) := by decide +kernel
theorem dX7_goWeek_98 : decode cX7_goWeek 98 = .ok (.return_, 1) := by decide +kernel
theorem dX8_init_0 : decode cX8_init 0 = .ok (.aload_n 0, 1) := by decide +kernel
theorem dX8_init_1 : decode cX8_init 1 = .ok (.invokespecial 3, 3) := by decide +kernel
theorem dX8_init_4 : decode cX8_init 4 = .ok (.aload_n 0, 1) := by decide +kernel
theorem dX8_init_5 : decode cX8_init 5 = .ok (.new 9, 3) := by decide +kernel
theorem dX8_init_8 : decode cX8_init 8 = .ok (.dup, 1) := by decide +kernel
theorem dX8_init_9 : decode cX8_init 9 = .ok (.invokespecial 11, 3) := by decide +kernel
theorem dX8_init_12 : decode cX8_init 12 = .ok (.putfield 12, 3) := by decide +kernel
theorem dX8_init_15 : decode cX8_init 15 = .ok (.return_, 1) := by decide +kernel
theorem dX8_readText_0 : decode cX8_readText 0 = .ok (.aload_n 0, 1) := by decide +kernel
theorem dX8_readText_1 : decode cX8_readText 1 = .ok (.getfield 12, 3) := by decide +kernel
theorem dX8_readText_4 : decode cX8_readText 4 = .ok (.aload_n 1, 1) := by decide +kernel
theorem dX8_readText_5 : decode cX8_readText 5 = .ok (.iload_n 2, 1) := by decide +kernel
theorem dX8_readText_6 : decode cX8_readText 6 = .ok (.invokevirtual 18, 3) := by decide +kernel
theorem dX8_readText_9 : decode cX8_readText 9 = .ok (.aload_n 0, 1) := by decide +kernel
theorem dX8_readText_10 : decode cX8_readText 10 = .ok (.getfield 12, 3) := by decide +kernel
theorem dX8_readText_13 : decode cX8_readText 13 = .ok (.invokevirtual 22, 3) := by decide +kernel
theorem dX8_readText_16 : decode cX8_readText 16 = .ok (.sipush 1021, 3) := by decide +kernel
theorem dX8_readText_19 : decode cX8_readText 19 = .ok (.if_icmp .ne 5, 3) := by decide +kernel
theorem dX8_readText_22 : decode cX8_readText 22 = .ok (.iconst 1, 1) := by decide +kernel
theorem dX8_readText_23 : decode cX8_readText 23 = .ok (.ireturn, 1) := by decide +kernel
theorem dX8_readText_24 : decode cX8_readText 24 = .ok (.iconst 0, 1) := by decide +kernel
theorem dX8_readText_25 : decode cX8_readText 25 = .ok (.istore 4, 2) := by decide +kernel
theorem dX8_readText_27 : decode cX8_readText 27 = .ok (.iload 4, 2) := by decide +kernel
theorem dX8_readText_29 : decode cX8_readText 29 = .ok (.iload_n 3, 1) := by decide +kernel
theorem dX8_readText_30 : decode cX8_readText 30 = .ok (.if_icmp .ge 48, 3) := by decide +kernel
theorem dX8_readText_33 : decode cX8_readText 33 = .ok (.aload_n 0, 1) := by decide +kernel
theorem dX8_readText_34 : decode cX8_readText 34 = .ok (.invokevirtual 26, 3) := by decide +kernel
theorem dX8_readText_37 : decode cX8_readText 37 = .ok (.ifCond .ne 5, 3) := by decide +kernel
theorem dX8_readText_40 : decode cX8_readText 40 = .ok (.iconst 0, 1) := by decide +kernel
theorem dX8_readText_41 : decode cX8_readText 41 = .ok (.ireturn, 1) := by decide +kernel
theorem dX8_readText_42 : decode cX8_readText 42 = .ok (.aload_n 0, 1) := by decide +kernel
theorem dX8_readText_43 : decode cX8_readText 43 = .ok (.getfield 12, 3) := by decide +kernel
theorem dX8_readText_46 : decode cX8_readText 46 = .ok (.invokevirtual 22, 3) := by decide +kernel
theorem dX8_readText_49 : decode cX8_readText 49 = .ok (.sipush 1021, 3) := by decide +kernel
theorem dX8_readText_52 : decode cX8_readText 52 = .ok (.if_icmp .ne 5, 3) := by decide +kernel
theorem dX8_readText_55 : decode cX8_readText 55 = .ok (.iconst 1, 1) := by decide +kernel
theorem dX8_readText_56 : decode cX8_readText 56 = .ok (.ireturn, 1) := by decide +kernel
theorem dX8_readText_57 : decode cX8_readText 57 = .ok (.aload_n 0, 1) := by decide +kernel
theorem dX8_readText_58 : decode cX8_readText 58 = .ok (.getfield 12, 3) := by decide +kernel
theorem dX8_readText_61 : decode cX8_readText 61 = .ok (.sipush 1159, 3) := by decide +kernel
theorem dX8_readText_64 : decode cX8_readText 64 = .ok (.invokevirtual 30, 3) := by decide +kernel
theorem dX8_readText_67 : decode cX8_readText 67 = .ok (.ifCond .ne 5, 3) := by decide +kernel
theorem dX8_readText_70 : decode cX8_readText 70 = .ok (.iconst 0, 1) := by decide +kernel
theorem dX8_readText_71 : decode cX8_readText 71 = .ok (.ireturn, 1) := by decide +kernel
theorem dX8_readText_72 : decode cX8_readText 72 = .ok (.iinc 4 1, 3) := by decide +kernel
theorem dX8_readText_75 : decode cX8_readText 75 = .ok (.goto (-48), 3) := by decide +kernel
theorem dX8_readText_78 : decode cX8_readText 78 = .ok (.aload_n 0, 1) := by decide +kernel
theorem dX8_readText_79 : decode cX8_readText 79 = .ok (.getfield 12, 3) := by decide +kernel
theorem dX8_readText_82 : decode cX8_readText 82 = .ok (.invokevirtual 34, 3) := by decide +kernel
theorem dX8_readText_85 : decode cX8_readText 85 = .ok (.ireturn, 1) := by decide +kernel
theorem dX9_init_0 : decode cX9_init 0 = .ok (.aload_n 0, 1) := by decide +kernel
theorem dX9_init_1 : decode cX9_init 1 = .ok (.invokespecial 3, 3) := by decide +kernel
theorem dX9_init_4 : decode cX9_init 4 = .ok (.aload_n 0, 1) := by decide +kernel
theorem dX9_init_5 : decode cX9_init 5 = .ok (.sipush 400, 3) := by decide +kernel
theorem dX9_init_8 : decode cX9_init 8 = .ok (.newarray .int, 2) := by decide +kernel
theorem dX9_init_10 : decode cX9_init 10 = .ok (.putfield 9, 3) := by decide +kernel
theorem dX9_init_13 : decode cX9_init 13 = .ok (.aload_n 0, 1) := by decide +kernel
theorem dX9_init_14 : decode cX9_init 14 = .ok (.sipush 401, 3) := by decide +kernel
theorem dX9_init_17 : decode cX9_init 17 = .ok (.newarray .int, 2) := by decide +kernel
theorem dX9_init_19 : decode cX9_init 19 = .ok (.putfield 15, 3) := by decide +kernel
theorem dX9_init_22 : decode cX9_init 22 = .ok (.aload_n 0, 1) := by decide +kernel
theorem dX9_init_23 : decode cX9_init 23 = .ok (.sipush 401, 3) := by decide +kernel
theorem dX9_init_26 : decode cX9_init 26 = .ok (.newarray .int, 2) := by decide +kernel
theorem dX9_init_28 : decode cX9_init 28 = .ok (.putfield 18, 3) := by decide +kernel
theorem dX9_init_31 : decode cX9_init 31 = .ok (.aload_n 0, 1) := by decide +kernel
theorem dX9_init_32 : decode cX9_init 32 = .ok (.sipush 401, 3) := by decide +kernel
theorem dX9_init_35 : decode cX9_init 35 = .ok (.newarray .int, 2) := by decide +kernel
theorem dX9_init_37 : decode cX9_init 37 = .ok (.putfield 21, 3) := by decide +kernel
theorem dX9_init_40 : decode cX9_init 40 = .ok (.aload_n 0, 1) := by decide +kernel
theorem dX9_init_41 : decode cX9_init 41 = .ok (.iconst (-1), 1) := by decide +kernel
theorem dX9_init_42 : decode cX9_init 42 = .ok (.putfield 24, 3) := by decide +kernel
theorem dX9_init_45 : decode cX9_init 45 = .ok (.return_, 1) := by decide +kernel
theorem dX9_scan_0 : decode cX9_scan 0 = .ok (.aload_n 0, 1) := by decide +kernel
theorem dX9_scan_1 : decode cX9_scan 1 = .ok (.iload_n 2, 1) := by decide +kernel
theorem dX9_scan_2 : decode cX9_scan 2 = .ok (.sipush 400, 3) := by decide +kernel
theorem dX9_scan_5 : decode cX9_scan 5 = .ok (.invokestatic 28, 3) := by decide +kernel
theorem dX9_scan_8 : decode cX9_scan 8 = .ok (.putfield 34, 3) := by decide +kernel
theorem dX9_scan_11 : decode cX9_scan 11 = .ok (.aload_n 1, 1) := by decide +kernel
theorem dX9_scan_12 : decode cX9_scan 12 = .ok (.iconst 0, 1) := by decide +kernel
theorem dX9_scan_13 : decode cX9_scan 13 = .ok (.aload_n 0, 1) := by decide +kernel
theorem dX9_scan_14 : decode cX9_scan 14 = .ok (.getfield 9, 3) := by decide +kernel
theorem dX9_scan_17 : decode cX9_scan 17 = .ok (.iconst 0, 1) := by decide +kernel
theorem dX9_scan_18 : decode cX9_scan 18 = .ok (.aload_n 0, 1) := by decide +kernel
theorem dX9_scan_19 : decode cX9_scan 19 = .ok (.getfield 34, 3) := by decide +kernel
theorem dX9_scan_22 : decode cX9_scan 22 = .ok (.invokestatic 37, 3) := by decide +kernel
theorem dX9_scan_25 : decode cX9_scan 25 = .ok (.aload_n 0, 1) := by decide +kernel
theorem dX9_scan_26 : decode cX9_scan 26 = .ok (.iconst 0, 1) := by decide +kernel
theorem dX9_scan_27 : decode cX9_scan 27 = .ok (.putfield 43, 3) := by decide +kernel
theorem dX9_scan_30 : decode cX9_scan 30 = .ok (.aload_n 0, 1) := by decide +kernel
theorem dX9_scan_31 : decode cX9_scan 31 = .ok (.iconst 0, 1) := by decide +kernel
theorem dX9_scan_32 : decode cX9_scan 32 = .ok (.putfield 46, 3) := by decide +kernel
theorem dX9_scan_35 : decode cX9_scan 35 = .ok (.aload_n 0, 1) := by decide +kernel
theorem dX9_scan_36 : decode cX9_scan 36 = .ok (.iconst (-1), 1) := by decide +kernel
theorem dX9_scan_37 : decode cX9_scan 37 = .ok (.putfield 24, 3) := by decide +kernel
theorem dX9_scan_40 : decode cX9_scan 40 = .ok (.iconst 0, 1) := by decide +kernel
theorem dX9_scan_41 : decode cX9_scan 41 = .ok (.istore_n 3, 1) := by decide +kernel
theorem dX9_scan_42 : decode cX9_scan 42 = .ok (.iconst 0, 1) := by decide +kernel
theorem dX9_scan_43 : decode cX9_scan 43 = .ok (.istore 4, 2) := by decide +kernel
theorem dX9_scan_45 : decode cX9_scan 45 = .ok (.iload 4, 2) := by decide +kernel
theorem dX9_scan_47 : decode cX9_scan 47 = .ok (.sipush 400, 3) := by decide +kernel
theorem dX9_scan_50 : decode cX9_scan 50 = .ok (.if_icmp .gt 47, 3) := by decide +kernel
theorem dX9_scan_53 : decode cX9_scan 53 = .ok (.iload_n 3, 1) := by decide +kernel
theorem dX9_scan_54 : decode cX9_scan 54 = .ok (.aload_n 0, 1) := by decide +kernel
theorem dX9_scan_55 : decode cX9_scan 55 = .ok (.getfield 34, 3) := by decide +kernel
theorem dX9_scan_58 : decode cX9_scan 58 = .ok (.if_icmp .ge 39, 3) := by decide +kernel
theorem dX9_scan_61 : decode cX9_scan 61 = .ok (.aload_n 0, 1) := by decide +kernel
theorem dX9_scan_62 : decode cX9_scan 62 = .ok (.iload_n 3, 1) := by decide +kernel
theorem dX9_scan_63 : decode cX9_scan 63 = .ok (.invokevirtual 49, 3) := by decide +kernel
theorem dX9_scan_66 : decode cX9_scan 66 = .ok (.istore 5, 2) := by decide +kernel
theorem dX9_scan_68 : decode cX9_scan 68 = .ok (.aload_n 0, 1) := by decide +kernel
theorem dX9_scan_69 : decode cX9_scan 69 = .ok (.getfield 9, 3) := by decide +kernel
theorem dX9_scan_72 : decode cX9_scan 72 = .ok (.iload_n 3, 1) := by decide +kernel
theorem dX9_scan_73 : decode cX9_scan 73 = .ok (.iaload, 1) := by decide +kernel
theorem dX9_scan_74 : decode cX9_scan 74 = .ok (.bipush 32, 2) := by decide +kernel
theorem dX9_scan_76 : decode cX9_scan 76 = .ok (.if_icmp .eq 12, 3) := by decide +kernel
theorem dX9_scan_79 : decode cX9_scan 79 = .ok (.aload_n 0, 1) := by decide +kernel
theorem dX9_scan_80 : decode cX9_scan 80 = .ok (.iload_n 3, 1) := by decide +kernel
theorem dX9_scan_81 : decode cX9_scan 81 = .ok (.iload 5, 2) := by decide +kernel
theorem dX9_scan_83 : decode cX9_scan 83 = .ok (.iload_n 3, 1) := by decide +kernel
theorem dX9_scan_84 : decode cX9_scan 84 = .ok (.isub, 1) := by decide +kernel
theorem dX9_scan_85 : decode cX9_scan 85 = .ok (.invokevirtual 53, 3) := by decide +kernel
theorem dX9_scan_88 : decode cX9_scan 88 = .ok (.iload 5, 2) := by decide +kernel
theorem dX9_scan_90 : decode cX9_scan 90 = .ok (.istore_n 3, 1) := by decide +kernel
theorem dX9_scan_91 : decode cX9_scan 91 = .ok (.iinc 4 1, 3) := by decide +kernel
theorem dX9_scan_94 : decode cX9_scan 94 = .ok (.goto (-49), 3) := by decide +kernel
theorem dX9_scan_97 : decode cX9_scan 97 = .ok (.aload_n 0, 1) := by decide +kernel
theorem dX9_scan_98 : decode cX9_scan 98 = .ok (.getfield 15, 3) := by decide +kernel
theorem dX9_scan_101 : decode cX9_scan 101 = .ok (.aload_n 0, 1) := by decide +kernel
theorem dX9_scan_102 : decode cX9_scan 102 = .ok (.getfield 43, 3) := by decide +kernel
theorem dX9_scan_105 : decode cX9_scan 105 = .ok (.sipush 1021, 3) := by decide +kernel
theorem dX9_scan_108 : decode cX9_scan 108 = .ok (.iastore, 1) := by decide +kernel
theorem dX9_scan_109 : decode cX9_scan 109 = .ok (.aload_n 0, 1) := by decide +kernel
theorem dX9_scan_110 : decode cX9_scan 110 = .ok (.getfield 18, 3) := by decide +kernel
theorem dX9_scan_113 : decode cX9_scan 113 = .ok (.aload_n 0, 1) := by decide +kernel
theorem dX9_scan_114 : decode cX9_scan 114 = .ok (.getfield 43, 3) := by decide +kernel
theorem dX9_scan_117 : decode cX9_scan 117 = .ok (.aload_n 0, 1) := by decide +kernel
theorem dX9_scan_118 : decode cX9_scan 118 = .ok (.getfield 34, 3) := by decide +kernel
theorem dX9_scan_121 : decode cX9_scan 121 = .ok (.iastore, 1) := by decide +kernel
theorem dX9_scan_122 : decode cX9_scan 122 = .ok (.aload_n 0, 1) := by decide +kernel
theorem dX9_scan_123 : decode cX9_scan 123 = .ok (.getfield 21, 3) := by decide +kernel
theorem dX9_scan_126 : decode cX9_scan 126 = .ok (.aload_n 0, 1) := by decide +kernel
theorem dX9_scan_127 : decode cX9_scan 127 = .ok (.getfield 43, 3) := by decide +kernel
theorem dX9_scan_130 : decode cX9_scan 130 = .ok (.iconst 0, 1) := by decide +kernel
theorem dX9_scan_131 : decode cX9_scan 131 = .ok (.iastore, 1) := by decide +kernel
theorem dX9_scan_132 : decode cX9_scan 132 = .ok (.return_, 1) := by decide +kernel
theorem dX9_addToken_0 : decode cX9_addToken 0 = .ok (.aload_n 0, 1) := by decide +kernel
theorem dX9_addToken_1 : decode cX9_addToken 1 = .ok (.getfield 43, 3) := by decide +kernel
