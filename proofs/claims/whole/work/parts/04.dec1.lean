theorem dX3_refer_6 : decode cX3_refer 6 = .ok (.aastore, 1) := by decide +kernel
theorem dX3_refer_7 : decode cX3_refer 7 = .ok (.aload_n 2, 1) := by decide +kernel
theorem dX3_refer_8 : decode cX3_refer 8 = .ok (.dup, 1) := by decide +kernel
theorem dX3_refer_9 : decode cX3_refer 9 = .ok (.getfield 152, 3) := by decide +kernel
theorem dX3_refer_12 : decode cX3_refer 12 = .ok (.iconst 1, 1) := by decide +kernel
theorem dX3_refer_13 : decode cX3_refer 13 = .ok (.iadd, 1) := by decide +kernel
theorem dX3_refer_14 : decode cX3_refer 14 = .ok (.putfield 152, 3) := by decide +kernel
theorem dX3_refer_17 : decode cX3_refer 17 = .ok (.return_, 1) := by decide +kernel
theorem dX3_dropReference_0 : decode cX3_dropReference 0 = .ok (.aload_n 0, 1) := by decide +kernel
theorem dX3_dropReference_1 : decode cX3_dropReference 1 = .ok (.getfield 11, 3) := by decide +kernel
theorem dX3_dropReference_4 : decode cX3_dropReference 4 = .ok (.iload_n 1, 1) := by decide +kernel
theorem dX3_dropReference_5 : decode cX3_dropReference 5 = .ok (.aaload, 1) := by decide +kernel
theorem dX3_dropReference_6 : decode cX3_dropReference 6 = .ok (.astore_n 2, 1) := by decide +kernel
theorem dX3_dropReference_7 : decode cX3_dropReference 7 = .ok (.aload_n 2, 1) := by decide +kernel
theorem dX3_dropReference_8 : decode cX3_dropReference 8 = .ok (.ifnonnull 5, 3) := by decide +kernel
theorem dX3_dropReference_11 : decode cX3_dropReference 11 = .ok (.iconst 0, 1) := by decide +kernel
theorem dX3_dropReference_12 : decode cX3_dropReference 12 = .ok (.ireturn, 1) := by decide +kernel
theorem dX3_dropReference_13 : decode cX3_dropReference 13 = .ok (.aload_n 0, 1) := by decide +kernel
theorem dX3_dropReference_14 : decode cX3_dropReference 14 = .ok (.getfield 11, 3) := by decide +kernel
theorem dX3_dropReference_17 : decode cX3_dropReference 17 = .ok (.iload_n 1, 1) := by decide +kernel
theorem dX3_dropReference_18 : decode cX3_dropReference 18 = .ok (.aconst_null, 1) := by decide +kernel
theorem dX3_dropReference_19 : decode cX3_dropReference 19 = .ok (.aastore, 1) := by decide +kernel
theorem dX3_dropReference_20 : decode cX3_dropReference 20 = .ok (.aload_n 2, 1) := by decide +kernel
theorem dX3_dropReference_21 : decode cX3_dropReference 21 = .ok (.dup, 1) := by decide +kernel
theorem dX3_dropReference_22 : decode cX3_dropReference 22 = .ok (.getfield 152, 3) := by decide +kernel
theorem dX3_dropReference_25 : decode cX3_dropReference 25 = .ok (.iconst 1, 1) := by decide +kernel
theorem dX3_dropReference_26 : decode cX3_dropReference 26 = .ok (.isub, 1) := by decide +kernel
theorem dX3_dropReference_27 : decode cX3_dropReference 27 = .ok (.putfield 152, 3) := by decide +kernel
theorem dX3_dropReference_30 : decode cX3_dropReference 30 = .ok (.aload_n 2, 1) := by decide +kernel
theorem dX3_dropReference_31 : decode cX3_dropReference 31 = .ok (.getfield 129, 3) := by decide +kernel
theorem dX3_dropReference_34 : decode cX3_dropReference 34 = .ok (.ifCond .ne 10, 3) := by decide +kernel
theorem dX3_dropReference_37 : decode cX3_dropReference 37 = .ok (.aload_n 2, 1) := by decide +kernel
theorem dX3_dropReference_38 : decode cX3_dropReference 38 = .ok (.getfield 152, 3) := by decide +kernel
theorem dX3_dropReference_41 : decode cX3_dropReference 41 = .ok (.ifCond .le 5, 3) := by decide +kernel
theorem dX3_dropReference_44 : decode cX3_dropReference 44 = .ok (.iconst 0, 1) := by decide +kernel
theorem dX3_dropReference_45 : decode cX3_dropReference 45 = .ok (.ireturn, 1) := by decide +kernel
theorem dX3_dropReference_46 : decode cX3_dropReference 46 = .ok (.aload_n 2, 1) := by decide +kernel
theorem dX3_dropReference_47 : decode cX3_dropReference 47 = .ok (.getfield 136, 3) := by decide +kernel
theorem dX3_dropReference_50 : decode cX3_dropReference 50 = .ok (.iconst (-1), 1) := by decide +kernel
theorem dX3_dropReference_51 : decode cX3_dropReference 51 = .ok (.if_icmp .eq 14, 3) := by decide +kernel
theorem dX3_dropReference_54 : decode cX3_dropReference 54 = .ok (.aload_n 0, 1) := by decide +kernel
theorem dX3_dropReference_55 : decode cX3_dropReference 55 = .ok (.getfield 25, 3) := by decide +kernel
theorem dX3_dropReference_58 : decode cX3_dropReference 58 = .ok (.aload_n 2, 1) := by decide +kernel
theorem dX3_dropReference_59 : decode cX3_dropReference 59 = .ok (.getfield 136, 3) := by decide +kernel
theorem dX3_dropReference_62 : decode cX3_dropReference 62 = .ok (.invokevirtual 252, 3) := by decide +kernel
theorem dX3_dropReference_65 : decode cX3_dropReference 65 = .ok (.aload_n 0, 1) := by decide +kernel
theorem dX3_dropReference_66 : decode cX3_dropReference 66 = .ok (.getfield 32, 3) := by decide +kernel
theorem dX3_dropReference_69 : decode cX3_dropReference 69 = .ok (.aload_n 2, 1) := by decide +kernel
theorem dX3_dropReference_70 : decode cX3_dropReference 70 = .ok (.invokevirtual 159, 3) := by decide +kernel
theorem dX3_dropReference_73 : decode cX3_dropReference 73 = .ok (.iconst 1, 1) := by decide +kernel
theorem dX3_dropReference_74 : decode cX3_dropReference 74 = .ok (.ireturn, 1) := by decide +kernel
theorem dX3_bringIn_0 : decode cX3_bringIn 0 = .ok (.aload_n 1, 1) := by decide +kernel
theorem dX3_bringIn_1 : decode cX3_bringIn 1 = .ok (.getfield 136, 3) := by decide +kernel
theorem dX3_bringIn_4 : decode cX3_bringIn 4 = .ok (.iconst (-1), 1) := by decide +kernel
theorem dX3_bringIn_5 : decode cX3_bringIn 5 = .ok (.if_icmp .eq 4, 3) := by decide +kernel
theorem dX3_bringIn_8 : decode cX3_bringIn 8 = .ok (.return_, 1) := by decide +kernel
theorem dX3_bringIn_9 : decode cX3_bringIn 9 = .ok (.aload_n 1, 1) := by decide +kernel
theorem dX3_bringIn_10 : decode cX3_bringIn 10 = .ok (.getfield 172, 3) := by decide +kernel
theorem dX3_bringIn_13 : decode cX3_bringIn 13 = .ok (.iconst (-1), 1) := by decide +kernel
theorem dX3_bringIn_14 : decode cX3_bringIn 14 = .ok (.if_icmp .ne 10, 3) := by decide +kernel
theorem dX3_bringIn_17 : decode cX3_bringIn 17 = .ok (.aload_n 0, 1) := by decide +kernel
theorem dX3_bringIn_18 : decode cX3_bringIn 18 = .ok (.aload_n 1, 1) := by decide +kernel
theorem dX3_bringIn_19 : decode cX3_bringIn 19 = .ok (.iconst 0, 1) := by decide +kernel
theorem dX3_bringIn_20 : decode cX3_bringIn 20 = .ok (.invokevirtual 255, 3) := by decide +kernel
theorem dX3_bringIn_23 : decode cX3_bringIn 23 = .ok (.return_, 1) := by decide +kernel
theorem dX3_bringIn_24 : decode cX3_bringIn 24 = .ok (.aload_n 0, 1) := by decide +kernel
theorem dX3_bringIn_25 : decode cX3_bringIn 25 = .ok (.aload_n 1, 1) := by decide +kernel
theorem dX3_bringIn_26 : decode cX3_bringIn 26 = .ok (.iconst 1, 1) := by decide +kernel
theorem dX3_bringIn_27 : decode cX3_bringIn 27 = .ok (.invokevirtual 255, 3) := by decide +kernel
theorem dX3_bringIn_30 : decode cX3_bringIn 30 = .ok (.aload_n 0, 1) := by decide +kernel
theorem dX3_bringIn_31 : decode cX3_bringIn 31 = .ok (.aload_n 1, 1) := by decide +kernel
theorem dX3_bringIn_32 : decode cX3_bringIn 32 = .ok (.getfield 172, 3) := by decide +kernel
theorem dX3_bringIn_35 : decode cX3_bringIn 35 = .ok (.invokevirtual 259, 3) := by decide +kernel
theorem dX3_bringIn_38 : decode cX3_bringIn 38 = .ok (.return_, 1) := by decide +kernel
theorem dX3_prefetchBehind_0 : decode cX3_prefetchBehind 0 = .ok (.iload_n 1, 1) := by decide +kernel
theorem dX3_prefetchBehind_1 : decode cX3_prefetchBehind 1 = .ok (.iconst 1, 1) := by decide +kernel
theorem dX3_prefetchBehind_2 : decode cX3_prefetchBehind 2 = .ok (.iadd, 1) := by decide +kernel
theorem dX3_prefetchBehind_3 : decode cX3_prefetchBehind 3 = .ok (.istore_n 2, 1) := by decide +kernel
theorem dX3_prefetchBehind_4 : decode cX3_prefetchBehind 4 = .ok (.iload_n 2, 1) := by decide +kernel
theorem dX3_prefetchBehind_5 : decode cX3_prefetchBehind 5 = .ok (.iload_n 1, 1) := by decide +kernel
theorem dX3_prefetchBehind_6 : decode cX3_prefetchBehind 6 = .ok (.iconst 3, 1) := by decide +kernel
theorem dX3_prefetchBehind_7 : decode cX3_prefetchBehind 7 = .ok (.iadd, 1) := by decide +kernel
theorem dX3_prefetchBehind_8 : decode cX3_prefetchBehind 8 = .ok (.if_icmp .gt 76, 3) := by decide +kernel
theorem dX3_prefetchBehind_11 : decode cX3_prefetchBehind 11 = .ok (.iload_n 2, 1) := by decide +kernel
theorem dX3_prefetchBehind_12 : decode cX3_prefetchBehind 12 = .ok (.bipush 24, 2) := by decide +kernel
theorem dX3_prefetchBehind_14 : decode cX3_prefetchBehind 14 = .ok (.if_icmp .ge 70, 3) := by decide +kernel
theorem dX3_prefetchBehind_17 : decode cX3_prefetchBehind 17 = .ok (.aload_n 0, 1) := by decide +kernel
theorem dX3_prefetchBehind_18 : decode cX3_prefetchBehind 18 = .ok (.getfield 32, 3) := by decide +kernel
theorem dX3_prefetchBehind_21 : decode cX3_prefetchBehind 21 = .ok (.getfield 262, 3) := by decide +kernel
theorem dX3_prefetchBehind_24 : decode cX3_prefetchBehind 24 = .ok (.iload_n 2, 1) := by decide +kernel
theorem dX3_prefetchBehind_25 : decode cX3_prefetchBehind 25 = .ok (.aaload, 1) := by decide +kernel
theorem dX3_prefetchBehind_26 : decode cX3_prefetchBehind 26 = .ok (.astore_n 3, 1) := by decide +kernel
theorem dX3_prefetchBehind_27 : decode cX3_prefetchBehind 27 = .ok (.aload_n 0, 1) := by decide +kernel
theorem dX3_prefetchBehind_28 : decode cX3_prefetchBehind 28 = .ok (.getfield 25, 3) := by decide +kernel
theorem dX3_prefetchBehind_31 : decode cX3_prefetchBehind 31 = .ok (.invokevirtual 244, 3) := by decide +kernel
theorem dX3_prefetchBehind_34 : decode cX3_prefetchBehind 34 = .ok (.istore 4, 2) := by decide +kernel
theorem dX3_prefetchBehind_36 : decode cX3_prefetchBehind 36 = .ok (.aload_n 3, 1) := by decide +kernel
theorem dX3_prefetchBehind_37 : decode cX3_prefetchBehind 37 = .ok (.ifnull 41, 3) := by decide +kernel
theorem dX3_prefetchBehind_40 : decode cX3_prefetchBehind 40 = .ok (.aload_n 3, 1) := by decide +kernel
theorem dX3_prefetchBehind_41 : decode cX3_prefetchBehind 41 = .ok (.getfield 136, 3) := by decide +kernel
theorem dX3_prefetchBehind_44 : decode cX3_prefetchBehind 44 = .ok (.iconst (-1), 1) := by decide +kernel
theorem dX3_prefetchBehind_45 : decode cX3_prefetchBehind 45 = .ok (.if_icmp .ne 33, 3) := by decide +kernel
theorem dX3_prefetchBehind_48 : decode cX3_prefetchBehind 48 = .ok (.iload 4, 2) := by decide +kernel
theorem dX3_prefetchBehind_50 : decode cX3_prefetchBehind 50 = .ok (.iconst (-1), 1) := by decide +kernel
theorem dX3_prefetchBehind_51 : decode cX3_prefetchBehind 51 = .ok (.if_icmp .eq 27, 3) := by decide +kernel
theorem dX3_prefetchBehind_54 : decode cX3_prefetchBehind 54 = .ok (.aload_n 0, 1) := by decide +kernel
theorem dX3_prefetchBehind_55 : decode cX3_prefetchBehind 55 = .ok (.getfield 25, 3) := by decide +kernel
theorem dX3_prefetchBehind_58 : decode cX3_prefetchBehind 58 = .ok (.aload_n 3, 1) := by decide +kernel
theorem dX3_prefetchBehind_59 : decode cX3_prefetchBehind 59 = .ok (.iload 4, 2) := by decide +kernel
theorem dX3_prefetchBehind_61 : decode cX3_prefetchBehind 61 = .ok (.aload_n 0, 1) := by decide +kernel
theorem dX3_prefetchBehind_62 : decode cX3_prefetchBehind 62 = .ok (.getfield 53, 3) := by decide +kernel
theorem dX3_prefetchBehind_65 : decode cX3_prefetchBehind 65 = .ok (.invokevirtual 263, 3) := by decide +kernel
theorem dX3_prefetchBehind_68 : decode cX3_prefetchBehind 68 = .ok (.aload_n 0, 1) := by decide +kernel
theorem dX3_prefetchBehind_69 : decode cX3_prefetchBehind 69 = .ok (.getfield 39, 3) := by decide +kernel
theorem dX3_prefetchBehind_72 : decode cX3_prefetchBehind 72 = .ok (.iconst 3, 1) := by decide +kernel
theorem dX3_prefetchBehind_73 : decode cX3_prefetchBehind 73 = .ok (.dup2, 1) := by decide +kernel
theorem dX3_prefetchBehind_74 : decode cX3_prefetchBehind 74 = .ok (.iaload, 1) := by decide +kernel
theorem dX3_prefetchBehind_75 : decode cX3_prefetchBehind 75 = .ok (.iconst 1, 1) := by decide +kernel
theorem dX3_prefetchBehind_76 : decode cX3_prefetchBehind 76 = .ok (.iadd, 1) := by decide +kernel
theorem dX3_prefetchBehind_77 : decode cX3_prefetchBehind 77 = .ok (.iastore, 1) := by decide +kernel
theorem dX3_prefetchBehind_78 : decode cX3_prefetchBehind 78 = .ok (.iinc 2 1, 3) := by decide +kernel
theorem dX3_prefetchBehind_81 : decode cX3_prefetchBehind 81 = .ok (.goto (-77), 3) := by decide +kernel
theorem dX3_prefetchBehind_84 : decode cX3_prefetchBehind 84 = .ok (.return_, 1) := by decide +kernel
theorem dX3_copyForPage_0 : decode cX3_copyForPage 0 = .ok (.new 9, 3) := by decide +kernel
theorem dX3_copyForPage_3 : decode cX3_copyForPage 3 = .ok (.dup, 1) := by decide +kernel
theorem dX3_copyForPage_4 : decode cX3_copyForPage 4 = .ok (.iconst (-1), 1) := by decide +kernel
theorem dX3_copyForPage_5 : decode cX3_copyForPage 5 = .ok (.invokespecial 112, 3) := by decide +kernel
theorem dX3_copyForPage_8 : decode cX3_copyForPage 8 = .ok (.astore_n 3, 1) := by decide +kernel
theorem dX3_copyForPage_9 : decode cX3_copyForPage 9 = .ok (.aload_n 2, 1) := by decide +kernel
theorem dX3_copyForPage_10 : decode cX3_copyForPage 10 = .ok (.getfield 149, 3) := by decide +kernel
theorem dX3_copyForPage_13 : decode cX3_copyForPage 13 = .ok (.iconst 0, 1) := by decide +kernel
theorem dX3_copyForPage_14 : decode cX3_copyForPage 14 = .ok (.aload_n 3, 1) := by decide +kernel
theorem dX3_copyForPage_15 : decode cX3_copyForPage 15 = .ok (.getfield 149, 3) := by decide +kernel
theorem dX3_copyForPage_18 : decode cX3_copyForPage 18 = .ok (.iconst 0, 1) := by decide +kernel
theorem dX3_copyForPage_19 : decode cX3_copyForPage 19 = .ok (.iconst 4, 1) := by decide +kernel
theorem dX3_copyForPage_20 : decode cX3_copyForPage 20 = .ok (.invokestatic 267, 3) := by decide +kernel
theorem dX3_copyForPage_23 : decode cX3_copyForPage 23 = .ok (.aload_n 0, 1) := by decide +kernel
theorem dX3_copyForPage_24 : decode cX3_copyForPage 24 = .ok (.aload_n 3, 1) := by decide +kernel
theorem dX3_copyForPage_25 : decode cX3_copyForPage 25 = .ok (.iconst 2, 1) := by decide +kernel
theorem dX3_copyForPage_26 : decode cX3_copyForPage 26 = .ok (.invokevirtual 255, 3) := by decide +kernel
theorem dX3_copyForPage_29 : decode cX3_copyForPage 29 = .ok (.aload_n 0, 1) := by decide +kernel
theorem dX3_copyForPage_30 : decode cX3_copyForPage 30 = .ok (.iload_n 1, 1) := by decide +kernel
theorem dX3_copyForPage_31 : decode cX3_copyForPage 31 = .ok (.invokevirtual 101, 3) := by decide +kernel
theorem dX3_copyForPage_34 : decode cX3_copyForPage 34 = .ok (.pop, 1) := by decide +kernel
theorem dX3_copyForPage_35 : decode cX3_copyForPage 35 = .ok (.aload_n 0, 1) := by decide +kernel
theorem dX3_copyForPage_36 : decode cX3_copyForPage 36 = .ok (.iload_n 1, 1) := by decide +kernel
theorem dX3_copyForPage_37 : decode cX3_copyForPage 37 = .ok (.aload_n 3, 1) := by decide +kernel
theorem dX3_copyForPage_38 : decode cX3_copyForPage 38 = .ok (.invokevirtual 97, 3) := by decide +kernel
theorem dX3_copyForPage_41 : decode cX3_copyForPage 41 = .ok (.aload_n 3, 1) := by decide +kernel
theorem dX3_copyForPage_42 : decode cX3_copyForPage 42 = .ok (.areturn, 1) := by decide +kernel
theorem dX3_giveFrame_0 : decode cX3_giveFrame 0 = .ok (.aload_n 0, 1) := by decide +kernel
theorem dX3_giveFrame_1 : decode cX3_giveFrame 1 = .ok (.getfield 25, 3) := by decide +kernel
theorem dX3_giveFrame_4 : decode cX3_giveFrame 4 = .ok (.invokevirtual 244, 3) := by decide +kernel
theorem dX3_giveFrame_7 : decode cX3_giveFrame 7 = .ok (.istore_n 3, 1) := by decide +kernel
theorem dX3_giveFrame_8 : decode cX3_giveFrame 8 = .ok (.iload_n 3, 1) := by decide +kernel
theorem dX3_giveFrame_9 : decode cX3_giveFrame 9 = .ok (.iconst (-1), 1) := by decide +kernel
theorem dX3_giveFrame_10 : decode cX3_giveFrame 10 = .ok (.if_icmp .ne 8, 3) := by decide +kernel
theorem dX3_giveFrame_13 : decode cX3_giveFrame 13 = .ok (.aload_n 0, 1) := by decide +kernel
theorem dX3_giveFrame_14 : decode cX3_giveFrame 14 = .ok (.invokevirtual 273, 3) := by decide +kernel
theorem dX3_giveFrame_17 : decode cX3_giveFrame 17 = .ok (.istore_n 3, 1) := by decide +kernel
theorem dX3_giveFrame_18 : decode cX3_giveFrame 18 = .ok (.aload_n 0, 1) := by decide +kernel
theorem dX3_giveFrame_19 : decode cX3_giveFrame 19 = .ok (.getfield 25, 3) := by decide +kernel
theorem dX3_giveFrame_22 : decode cX3_giveFrame 22 = .ok (.aload_n 1, 1) := by decide +kernel
theorem dX3_giveFrame_23 : decode cX3_giveFrame 23 = .ok (.iload_n 3, 1) := by decide +kernel
theorem dX3_giveFrame_24 : decode cX3_giveFrame 24 = .ok (.aload_n 0, 1) := by decide +kernel
theorem dX3_giveFrame_25 : decode cX3_giveFrame 25 = .ok (.getfield 53, 3) := by decide +kernel
theorem dX3_giveFrame_28 : decode cX3_giveFrame 28 = .ok (.invokevirtual 263, 3) := by decide +kernel
theorem dX3_giveFrame_31 : decode cX3_giveFrame 31 = .ok (.aload_n 0, 1) := by decide +kernel
theorem dX3_giveFrame_32 : decode cX3_giveFrame 32 = .ok (.getfield 39, 3) := by decide +kernel
theorem dX3_giveFrame_35 : decode cX3_giveFrame 35 = .ok (.iload_n 2, 1) := by decide +kernel
theorem dX3_giveFrame_36 : decode cX3_giveFrame 36 = .ok (.dup2, 1) := by decide +kernel
theorem dX3_giveFrame_37 : decode cX3_giveFrame 37 = .ok (.iaload, 1) := by decide +kernel
theorem dX3_giveFrame_38 : decode cX3_giveFrame 38 = .ok (.iconst 1, 1) := by decide +kernel
theorem dX3_giveFrame_39 : decode cX3_giveFrame 39 = .ok (.iadd, 1) := by decide +kernel
theorem dX3_giveFrame_40 : decode cX3_giveFrame 40 = .ok (.iastore, 1) := by decide +kernel
theorem dX3_giveFrame_41 : decode cX3_giveFrame 41 = .ok (.return_, 1) := by decide +kernel
theorem dX3_freeByClock_0 : decode cX3_freeByClock 0 = .ok (.iconst (-1), 1) := by decide +kernel
theorem dX3_freeByClock_1 : decode cX3_freeByClock 1 = .ok (.istore_n 1, 1) := by decide +kernel
theorem dX3_freeByClock_2 : decode cX3_freeByClock 2 = .ok (.iconst 2, 1) := by decide +kernel
theorem dX3_freeByClock_3 : decode cX3_freeByClock 3 = .ok (.aload_n 0, 1) := by decide +kernel
theorem dX3_freeByClock_4 : decode cX3_freeByClock 4 = .ok (.getfield 25, 3) := by decide +kernel
theorem dX3_freeByClock_7 : decode cX3_freeByClock 7 = .ok (.getfield 67, 3) := by decide +kernel
theorem dX3_freeByClock_10 : decode cX3_freeByClock 10 = .ok (.imul, 1) := by decide +kernel
theorem dX3_freeByClock_11 : decode cX3_freeByClock 11 = .ok (.istore_n 2, 1) := by decide +kernel
theorem dX3_freeByClock_12 : decode cX3_freeByClock 12 = .ok (.iconst 0, 1) := by decide +kernel
theorem dX3_freeByClock_13 : decode cX3_freeByClock 13 = .ok (.istore_n 3, 1) := by decide +kernel
theorem dX3_freeByClock_14 : decode cX3_freeByClock 14 = .ok (.iload_n 3, 1) := by decide +kernel
theorem dX3_freeByClock_15 : decode cX3_freeByClock 15 = .ok (.iload_n 2, 1) := by decide +kernel
theorem dX3_freeByClock_16 : decode cX3_freeByClock 16 = .ok (.if_icmp .ge 53, 3) := by decide +kernel
theorem dX3_freeByClock_19 : decode cX3_freeByClock 19 = .ok (.iload_n 1, 1) := by decide +kernel
theorem dX3_freeByClock_20 : decode cX3_freeByClock 20 = .ok (.iconst (-1), 1) := by decide +kernel
theorem dX3_freeByClock_21 : decode cX3_freeByClock 21 = .ok (.if_icmp .ne 48, 3) := by decide +kernel
theorem dX3_freeByClock_24 : decode cX3_freeByClock 24 = .ok (.aload_n 0, 1) := by decide +kernel
theorem dX3_freeByClock_25 : decode cX3_freeByClock 25 = .ok (.aload_n 0, 1) := by decide +kernel
theorem dX3_freeByClock_26 : decode cX3_freeByClock 26 = .ok (.getfield 25, 3) := by decide +kernel
theorem dX3_freeByClock_29 : decode cX3_freeByClock 29 = .ok (.getfield 75, 3) := by decide +kernel
theorem dX3_freeByClock_32 : decode cX3_freeByClock 32 = .ok (.invokevirtual 276, 3) := by decide +kernel
theorem dX3_freeByClock_35 : decode cX3_freeByClock 35 = .ok (.ifCond .eq 14, 3) := by decide +kernel
theorem dX3_freeByClock_38 : decode cX3_freeByClock 38 = .ok (.aload_n 0, 1) := by decide +kernel
theorem dX3_freeByClock_39 : decode cX3_freeByClock 39 = .ok (.getfield 25, 3) := by decide +kernel
theorem dX3_freeByClock_42 : decode cX3_freeByClock 42 = .ok (.getfield 75, 3) := by decide +kernel
theorem dX3_freeByClock_45 : decode cX3_freeByClock 45 = .ok (.istore_n 1, 1) := by decide +kernel
theorem dX3_freeByClock_46 : decode cX3_freeByClock 46 = .ok (.goto 17, 3) := by decide +kernel
theorem dX3_freeByClock_49 : decode cX3_freeByClock 49 = .ok (.aload_n 0, 1) := by decide +kernel
theorem dX3_freeByClock_50 : decode cX3_freeByClock 50 = .ok (.getfield 25, 3) := by decide +kernel
theorem dX3_freeByClock_53 : decode cX3_freeByClock 53 = .ok (.aload_n 0, 1) := by decide +kernel
theorem dX3_freeByClock_54 : decode cX3_freeByClock 54 = .ok (.getfield 25, 3) := by decide +kernel
theorem dX3_freeByClock_57 : decode cX3_freeByClock 57 = .ok (.getfield 75, 3) := by decide +kernel
theorem dX3_freeByClock_60 : decode cX3_freeByClock 60 = .ok (.invokevirtual 279, 3) := by decide +kernel
theorem dX3_freeByClock_63 : decode cX3_freeByClock 63 = .ok (.iinc 3 1, 3) := by decide +kernel
theorem dX3_freeByClock_66 : decode cX3_freeByClock 66 = .ok (.goto (-52), 3) := by decide +kernel
theorem dX3_freeByClock_69 : decode cX3_freeByClock 69 = .ok (.iload_n 1, 1) := by decide +kernel
theorem dX3_freeByClock_70 : decode cX3_freeByClock 70 = .ok (.iconst (-1), 1) := by decide +kernel
theorem dX3_freeByClock_71 : decode cX3_freeByClock 71 = .ok (.if_icmp .ne 11, 3) := by decide +kernel
theorem dX3_freeByClock_74 : decode cX3_freeByClock 74 = .ok (.aload_n 0, 1) := by decide +kernel
theorem dX3_freeByClock_75 : decode cX3_freeByClock 75 = .ok (.getfield 25, 3) := by decide +kernel
theorem dX3_freeByClock_78 : decode cX3_freeByClock 78 = .ok (.invokevirtual 247, 3) := by decide +kernel
theorem dX3_freeByClock_81 : decode cX3_freeByClock 81 = .ok (.istore_n 1, 1) := by decide +kernel
theorem dX3_freeByClock_82 : decode cX3_freeByClock 82 = .ok (.iload_n 1, 1) := by decide +kernel
theorem dX3_freeByClock_83 : decode cX3_freeByClock 83 = .ok (.iconst (-1), 1) := by decide +kernel
theorem dX3_freeByClock_84 : decode cX3_freeByClock 84 = .ok (.if_icmp .ne 25, 3) := by decide +kernel
theorem dX3_freeByClock_87 : decode cX3_freeByClock 87 = .ok (.aload_n 0, 1) := by decide +kernel
theorem dX3_freeByClock_88 : decode cX3_freeByClock 88 = .ok (.getfield 25, 3) := by decide +kernel
theorem dX3_freeByClock_91 : decode cX3_freeByClock 91 = .ok (.invokevirtual 282, 3) := by decide +kernel
theorem dX3_freeByClock_94 : decode cX3_freeByClock 94 = .ok (.istore_n 1, 1) := by decide +kernel
theorem dX3_freeByClock_95 : decode cX3_freeByClock 95 = .ok (.aload_n 0, 1) := by decide +kernel
theorem dX3_freeByClock_96 : decode cX3_freeByClock 96 = .ok (.aload_n 0, 1) := by decide +kernel
theorem dX3_freeByClock_97 : decode cX3_freeByClock 97 = .ok (.getfield 25, 3) := by decide +kernel
theorem dX3_freeByClock_100 : decode cX3_freeByClock 100 = .ok (.getfield 165, 3) := by decide +kernel
theorem dX3_freeByClock_103 : decode cX3_freeByClock 103 = .ok (.iload_n 1, 1) := by decide +kernel
theorem dX3_freeByClock_104 : decode cX3_freeByClock 104 = .ok (.aaload, 1) := by decide +kernel
theorem dX3_freeByClock_105 : decode cX3_freeByClock 105 = .ok (.invokevirtual 168, 3) := by decide +kernel
theorem dX3_freeByClock_108 : decode cX3_freeByClock 108 = .ok (.pop, 1) := by decide +kernel
theorem dX3_freeByClock_109 : decode cX3_freeByClock 109 = .ok (.aload_n 0, 1) := by decide +kernel
theorem dX3_freeByClock_110 : decode cX3_freeByClock 110 = .ok (.getfield 25, 3) := by decide +kernel
theorem dX3_freeByClock_113 : decode cX3_freeByClock 113 = .ok (.iload_n 1, 1) := by decide +kernel
theorem dX3_freeByClock_114 : decode cX3_freeByClock 114 = .ok (.invokevirtual 252, 3) := by decide +kernel
theorem dX3_freeByClock_117 : decode cX3_freeByClock 117 = .ok (.aload_n 0, 1) := by decide +kernel
theorem dX3_freeByClock_118 : decode cX3_freeByClock 118 = .ok (.getfield 39, 3) := by decide +kernel
theorem dX3_freeByClock_121 : decode cX3_freeByClock 121 = .ok (.iconst 4, 1) := by decide +kernel
theorem dX3_freeByClock_122 : decode cX3_freeByClock 122 = .ok (.dup2, 1) := by decide +kernel
theorem dX3_freeByClock_123 : decode cX3_freeByClock 123 = .ok (.iaload, 1) := by decide +kernel
theorem dX3_freeByClock_124 : decode cX3_freeByClock 124 = .ok (.iconst 1, 1) := by decide +kernel
theorem dX3_freeByClock_125 : decode cX3_freeByClock 125 = .ok (.iadd, 1) := by decide +kernel
theorem dX3_freeByClock_126 : decode cX3_freeByClock 126 = .ok (.iastore, 1) := by decide +kernel
theorem dX3_freeByClock_127 : decode cX3_freeByClock 127 = .ok (.aload_n 0, 1) := by decide +kernel
theorem dX3_freeByClock_128 : decode cX3_freeByClock 128 = .ok (.getfield 25, 3) := by decide +kernel
theorem dX3_freeByClock_131 : decode cX3_freeByClock 131 = .ok (.iload_n 1, 1) := by decide +kernel
theorem dX3_freeByClock_132 : decode cX3_freeByClock 132 = .ok (.invokevirtual 279, 3) := by decide +kernel
theorem dX3_freeByClock_135 : decode cX3_freeByClock 135 = .ok (.iload_n 1, 1) := by decide +kernel
theorem dX3_freeByClock_136 : decode cX3_freeByClock 136 = .ok (.ireturn, 1) := by decide +kernel
theorem dX3_givesWayWhenLookedAt_0 : decode cX3_givesWayWhenLookedAt 0 = .ok (.aload_n 0, 1) := by decide +kernel
theorem dX3_givesWayWhenLookedAt_1 : decode cX3_givesWayWhenLookedAt 1 = .ok (.getfield 25, 3) := by decide +kernel
theorem dX3_givesWayWhenLookedAt_4 : decode cX3_givesWayWhenLookedAt 4 = .ok (.getfield 181, 3) := by decide +kernel
theorem dX3_givesWayWhenLookedAt_7 : decode cX3_givesWayWhenLookedAt 7 = .ok (.iload_n 1, 1) := by decide +kernel
theorem dX3_givesWayWhenLookedAt_8 : decode cX3_givesWayWhenLookedAt 8 = .ok (.baload, 1) := by decide +kernel
theorem dX3_givesWayWhenLookedAt_9 : decode cX3_givesWayWhenLookedAt 9 = .ok (.ifCond .eq 28, 3) := by decide +kernel
theorem dX3_givesWayWhenLookedAt_12 : decode cX3_givesWayWhenLookedAt 12 = .ok (.aload_n 0, 1) := by decide +kernel
theorem dX3_givesWayWhenLookedAt_13 : decode cX3_givesWayWhenLookedAt 13 = .ok (.getfield 25, 3) := by decide +kernel
theorem dX3_givesWayWhenLookedAt_16 : decode cX3_givesWayWhenLookedAt 16 = .ok (.getfield 181, 3) := by decide +kernel
theorem dX3_givesWayWhenLookedAt_19 : decode cX3_givesWayWhenLookedAt 19 = .ok (.iload_n 1, 1) := by decide +kernel
theorem dX3_givesWayWhenLookedAt_20 : decode cX3_givesWayWhenLookedAt 20 = .ok (.iconst 0, 1) := by decide +kernel
theorem dX3_givesWayWhenLookedAt_21 : decode cX3_givesWayWhenLookedAt 21 = .ok (.bastore, 1) := by decide +kernel
theorem dX3_givesWayWhenLookedAt_22 : decode cX3_givesWayWhenLookedAt 22 = .ok (.aload_n 0, 1) := by decide +kernel
theorem dX3_givesWayWhenLookedAt_23 : decode cX3_givesWayWhenLookedAt 23 = .ok (.getfield 25, 3) := by decide +kernel
theorem dX3_givesWayWhenLookedAt_26 : decode cX3_givesWayWhenLookedAt 26 = .ok (.getfield 178, 3) := by decide +kernel
theorem dX3_givesWayWhenLookedAt_29 : decode cX3_givesWayWhenLookedAt 29 = .ok (.iload_n 1, 1) := by decide +kernel
theorem dX3_givesWayWhenLookedAt_30 : decode cX3_givesWayWhenLookedAt 30 = .ok (.aload_n 0, 1) := by decide +kernel
theorem dX3_givesWayWhenLookedAt_31 : decode cX3_givesWayWhenLookedAt 31 = .ok (.getfield 53, 3) := by decide +kernel
theorem dX3_givesWayWhenLookedAt_34 : decode cX3_givesWayWhenLookedAt 34 = .ok (.iastore, 1) := by decide +kernel
theorem dX3_givesWayWhenLookedAt_35 : decode cX3_givesWayWhenLookedAt 35 = .ok (.iconst 0, 1) := by decide +kernel
theorem dX3_givesWayWhenLookedAt_36 : decode cX3_givesWayWhenLookedAt 36 = .ok (.ireturn, 1) := by decide +kernel
theorem dX3_givesWayWhenLookedAt_37 : decode cX3_givesWayWhenLookedAt 37 = .ok (.aload_n 0, 1) := by decide +kernel
theorem dX3_givesWayWhenLookedAt_38 : decode cX3_givesWayWhenLookedAt 38 = .ok (.iload_n 1, 1) := by decide +kernel
theorem dX3_givesWayWhenLookedAt_39 : decode cX3_givesWayWhenLookedAt 39 = .ok (.invokevirtual 185, 3) := by decide +kernel
theorem dX3_givesWayWhenLookedAt_42 : decode cX3_givesWayWhenLookedAt 42 = .ok (.ifCond .ne 5, 3) := by decide +kernel
theorem dX3_givesWayWhenLookedAt_45 : decode cX3_givesWayWhenLookedAt 45 = .ok (.iconst 0, 1) := by decide +kernel
theorem dX3_givesWayWhenLookedAt_46 : decode cX3_givesWayWhenLookedAt 46 = .ok (.ireturn, 1) := by decide +kernel
theorem dX3_givesWayWhenLookedAt_47 : decode cX3_givesWayWhenLookedAt 47 = .ok (.aload_n 0, 1) := by decide +kernel
theorem dX3_givesWayWhenLookedAt_48 : decode cX3_givesWayWhenLookedAt 48 = .ok (.getfield 25, 3) := by decide +kernel
theorem dX3_givesWayWhenLookedAt_51 : decode cX3_givesWayWhenLookedAt 51 = .ok (.getfield 165, 3) := by decide +kernel
theorem dX3_givesWayWhenLookedAt_54 : decode cX3_givesWayWhenLookedAt 54 = .ok (.iload_n 1, 1) := by decide +kernel
theorem dX3_givesWayWhenLookedAt_55 : decode cX3_givesWayWhenLookedAt 55 = .ok (.aaload, 1) := by decide +kernel
theorem dX3_givesWayWhenLookedAt_56 : decode cX3_givesWayWhenLookedAt 56 = .ok (.astore_n 2, 1) := by decide +kernel
theorem dX3_givesWayWhenLookedAt_57 : decode cX3_givesWayWhenLookedAt 57 = .ok (.aload_n 2, 1) := by decide +kernel
theorem dX3_givesWayWhenLookedAt_58 : decode cX3_givesWayWhenLookedAt 58 = .ok (.ifnull 18, 3) := by decide +kernel
theorem dX3_givesWayWhenLookedAt_61 : decode cX3_givesWayWhenLookedAt 61 = .ok (.aload_n 2, 1) := by decide +kernel
theorem dX3_givesWayWhenLookedAt_62 : decode cX3_givesWayWhenLookedAt 62 = .ok (.getfield 162, 3) := by decide +kernel
theorem dX3_givesWayWhenLookedAt_65 : decode cX3_givesWayWhenLookedAt 65 = .ok (.ifCond .eq 11, 3) := by decide +kernel
theorem dX3_givesWayWhenLookedAt_68 : decode cX3_givesWayWhenLookedAt 68 = .ok (.aload_n 0, 1) := by decide +kernel
theorem dX3_givesWayWhenLookedAt_69 : decode cX3_givesWayWhenLookedAt 69 = .ok (.aload_n 2, 1) := by decide +kernel
theorem dX3_givesWayWhenLookedAt_70 : decode cX3_givesWayWhenLookedAt 70 = .ok (.invokevirtual 168, 3) := by decide +kernel
theorem dX3_givesWayWhenLookedAt_73 : decode cX3_givesWayWhenLookedAt 73 = .ok (.pop, 1) := by decide +kernel
theorem dX3_givesWayWhenLookedAt_74 : decode cX3_givesWayWhenLookedAt 74 = .ok (.iconst 0, 1) := by decide +kernel
theorem dX3_givesWayWhenLookedAt_75 : decode cX3_givesWayWhenLookedAt 75 = .ok (.ireturn, 1) := by decide +kernel
theorem dX3_givesWayWhenLookedAt_76 : decode cX3_givesWayWhenLookedAt 76 = .ok (.iconst 1, 1) := by decide +kernel
theorem dX3_givesWayWhenLookedAt_77 : decode cX3_givesWayWhenLookedAt 77 = .ok (.ireturn, 1) := by decide +kernel
theorem dX3_isOutsideWindow_0 : decode cX3_isOutsideWindow 0 = .ok (.aload_n 0, 1) := by decide +kernel
theorem dX3_isOutsideWindow_1 : decode cX3_isOutsideWindow 1 = .ok (.getfield 53, 3) := by decide +kernel
theorem dX3_isOutsideWindow_4 : decode cX3_isOutsideWindow 4 = .ok (.aload_n 0, 1) := by decide +kernel
theorem dX3_isOutsideWindow_5 : decode cX3_isOutsideWindow 5 = .ok (.getfield 25, 3) := by decide +kernel
theorem dX3_isOutsideWindow_8 : decode cX3_isOutsideWindow 8 = .ok (.getfield 178, 3) := by decide +kernel
theorem dX3_isOutsideWindow_11 : decode cX3_isOutsideWindow 11 = .ok (.iload_n 1, 1) := by decide +kernel
theorem dX3_isOutsideWindow_12 : decode cX3_isOutsideWindow 12 = .ok (.iaload, 1) := by decide +kernel
theorem dX3_isOutsideWindow_13 : decode cX3_isOutsideWindow 13 = .ok (.isub, 1) := by decide +kernel
theorem dX3_isOutsideWindow_14 : decode cX3_isOutsideWindow 14 = .ok (.aload_n 0, 1) := by decide +kernel
theorem dX3_isOutsideWindow_15 : decode cX3_isOutsideWindow 15 = .ok (.getfield 50, 3) := by decide +kernel
theorem dX3_isOutsideWindow_18 : decode cX3_isOutsideWindow 18 = .ok (.if_icmp .le 7, 3) := by decide +kernel
theorem dX3_isOutsideWindow_21 : decode cX3_isOutsideWindow 21 = .ok (.iconst 1, 1) := by decide +kernel
theorem dX3_isOutsideWindow_22 : decode cX3_isOutsideWindow 22 = .ok (.goto 4, 3) := by decide +kernel
theorem dX3_isOutsideWindow_25 : decode cX3_isOutsideWindow 25 = .ok (.iconst 0, 1) := by decide +kernel
theorem dX3_isOutsideWindow_26 : decode cX3_isOutsideWindow 26 = .ok (.ireturn, 1) := by decide +kernel
theorem dX3_writeOut_0 : decode cX3_writeOut 0 = .ok (.aload_n 1, 1) := by decide +kernel
theorem dX3_writeOut_1 : decode cX3_writeOut 1 = .ok (.ifnonnull 5, 3) := by decide +kernel
theorem dX3_writeOut_4 : decode cX3_writeOut 4 = .ok (.iconst 0, 1) := by decide +kernel
theorem dX3_writeOut_5 : decode cX3_writeOut 5 = .ok (.ireturn, 1) := by decide +kernel
theorem dX3_writeOut_6 : decode cX3_writeOut 6 = .ok (.aload_n 1, 1) := by decide +kernel
theorem dX3_writeOut_7 : decode cX3_writeOut 7 = .ok (.getfield 129, 3) := by decide +kernel
theorem dX3_writeOut_10 : decode cX3_writeOut 10 = .ok (.ifCond .eq 10, 3) := by decide +kernel
theorem dX3_writeOut_13 : decode cX3_writeOut 13 = .ok (.aload_n 1, 1) := by decide +kernel
theorem dX3_writeOut_14 : decode cX3_writeOut 14 = .ok (.getfield 285, 3) := by decide +kernel
theorem dX3_writeOut_17 : decode cX3_writeOut 17 = .ok (.goto 8, 3) := by decide +kernel
theorem dX3_writeOut_20 : decode cX3_writeOut 20 = .ok (.aload_n 0, 1) := by decide +kernel
theorem dX3_writeOut_21 : decode cX3_writeOut 21 = .ok (.aload_n 1, 1) := by decide +kernel
theorem dX3_writeOut_22 : decode cX3_writeOut 22 = .ok (.invokevirtual 288, 3) := by decide +kernel
theorem dX3_writeOut_25 : decode cX3_writeOut 25 = .ok (.istore_n 2, 1) := by decide +kernel
theorem dX3_writeOut_26 : decode cX3_writeOut 26 = .ok (.aload_n 0, 1) := by decide +kernel
theorem dX3_writeOut_27 : decode cX3_writeOut 27 = .ok (.aload_n 1, 1) := by decide +kernel
theorem dX3_writeOut_28 : decode cX3_writeOut 28 = .ok (.iload_n 2, 1) := by decide +kernel
theorem dX3_writeOut_29 : decode cX3_writeOut 29 = .ok (.invokevirtual 291, 3) := by decide +kernel
theorem dX3_writeOut_32 : decode cX3_writeOut 32 = .ok (.istore_n 3, 1) := by decide +kernel
theorem dX3_writeOut_33 : decode cX3_writeOut 33 = .ok (.iload_n 3, 1) := by decide +kernel
theorem dX3_writeOut_34 : decode cX3_writeOut 34 = .ok (.ifCond .le 51, 3) := by decide +kernel
theorem dX3_writeOut_37 : decode cX3_writeOut 37 = .ok (.aload_n 0, 1) := by decide +kernel
theorem dX3_writeOut_38 : decode cX3_writeOut 38 = .ok (.getfield 32, 3) := by decide +kernel
theorem dX3_writeOut_41 : decode cX3_writeOut 41 = .ok (.iload_n 3, 1) := by decide +kernel
theorem dX3_writeOut_42 : decode cX3_writeOut 42 = .ok (.invokevirtual 295, 3) := by decide +kernel
theorem dX3_writeOut_45 : decode cX3_writeOut 45 = .ok (.istore 4, 2) := by decide +kernel
theorem dX3_writeOut_47 : decode cX3_writeOut 47 = .ok (.iload 4, 2) := by decide +kernel
theorem dX3_writeOut_49 : decode cX3_writeOut 49 = .ok (.iconst (-1), 1) := by decide +kernel
theorem dX3_writeOut_50 : decode cX3_writeOut 50 = .ok (.if_icmp .eq 29, 3) := by decide +kernel
theorem dX3_writeOut_53 : decode cX3_writeOut 53 = .ok (.aload_n 0, 1) := by decide +kernel
theorem dX3_writeOut_54 : decode cX3_writeOut 54 = .ok (.getfield 32, 3) := by decide +kernel
theorem dX3_writeOut_57 : decode cX3_writeOut 57 = .ok (.aload_n 0, 1) := by decide +kernel
theorem dX3_writeOut_58 : decode cX3_writeOut 58 = .ok (.getfield 36, 3) := by decide +kernel
theorem dX3_writeOut_61 : decode cX3_writeOut 61 = .ok (.iload_n 3, 1) := by decide +kernel
theorem dX3_writeOut_62 : decode cX3_writeOut 62 = .ok (.iload 4, 2) := by decide +kernel
theorem dX3_writeOut_64 : decode cX3_writeOut 64 = .ok (.invokevirtual 298, 3) := by decide +kernel
theorem dX3_writeOut_67 : decode cX3_writeOut 67 = .ok (.aload_n 0, 1) := by decide +kernel
theorem dX3_writeOut_68 : decode cX3_writeOut 68 = .ok (.getfield 39, 3) := by decide +kernel
theorem dX3_writeOut_71 : decode cX3_writeOut 71 = .ok (.iconst 5, 1) := by decide +kernel
theorem dX3_writeOut_72 : decode cX3_writeOut 72 = .ok (.dup2, 1) := by decide +kernel
theorem dX3_writeOut_73 : decode cX3_writeOut 73 = .ok (.iaload, 1) := by decide +kernel
theorem dX3_writeOut_74 : decode cX3_writeOut 74 = .ok (.iload_n 3, 1) := by decide +kernel
theorem dX3_writeOut_75 : decode cX3_writeOut 75 = .ok (.iadd, 1) := by decide +kernel
theorem dX3_writeOut_76 : decode cX3_writeOut 76 = .ok (.iastore, 1) := by decide +kernel
theorem dX3_writeOut_77 : decode cX3_writeOut 77 = .ok (.iload_n 3, 1) := by decide +kernel
theorem dX3_writeOut_78 : decode cX3_writeOut 78 = .ok (.ireturn, 1) := by decide +kernel
theorem dX3_writeOut_79 : decode cX3_writeOut 79 = .ok (.iinc 3 (-1), 3) := by decide +kernel
theorem dX3_writeOut_82 : decode cX3_writeOut 82 = .ok (.goto (-49), 3) := by decide +kernel
theorem dX3_writeOut_85 : decode cX3_writeOut 85 = .ok (.iconst 0, 1) := by decide +kernel
theorem dX3_writeOut_86 : decode cX3_writeOut 86 = .ok (.ireturn, 1) := by decide +kernel
theorem dX3_firstPageOf_0 : decode cX3_firstPageOf 0 = .ok (.iconst 0, 1) := by decide +kernel
theorem dX3_firstPageOf_1 : decode cX3_firstPageOf 1 = .ok (.istore_n 2, 1) := by decide +kernel
theorem dX3_firstPageOf_2 : decode cX3_firstPageOf 2 = .ok (.iload_n 2, 1) := by decide +kernel
theorem dX3_firstPageOf_3 : decode cX3_firstPageOf 3 = .ok (.aload_n 0, 1) := by decide +kernel
theorem dX3_firstPageOf_4 : decode cX3_firstPageOf 4 = .ok (.getfield 11, 3) := by decide +kernel
theorem dX3_firstPageOf_7 : decode cX3_firstPageOf 7 = .ok (.arraylength, 1) := by decide +kernel
theorem dX3_firstPageOf_8 : decode cX3_firstPageOf 8 = .ok (.if_icmp .ge 21, 3) := by decide +kernel
theorem dX3_firstPageOf_11 : decode cX3_firstPageOf 11 = .ok (.aload_n 0, 1) := by decide +kernel
theorem dX3_firstPageOf_12 : decode cX3_firstPageOf 12 = .ok (.getfield 11, 3) := by decide +kernel
theorem dX3_firstPageOf_15 : decode cX3_firstPageOf 15 = .ok (.iload_n 2, 1) := by decide +kernel
theorem dX3_firstPageOf_16 : decode cX3_firstPageOf 16 = .ok (.aaload, 1) := by decide +kernel
theorem dX3_firstPageOf_17 : decode cX3_firstPageOf 17 = .ok (.aload_n 1, 1) := by decide +kernel
theorem dX3_firstPageOf_18 : decode cX3_firstPageOf 18 = .ok (.if_acmp .ne 5, 3) := by decide +kernel
theorem dX3_firstPageOf_21 : decode cX3_firstPageOf 21 = .ok (.iload_n 2, 1) := by decide +kernel
theorem dX3_firstPageOf_22 : decode cX3_firstPageOf 22 = .ok (.ireturn, 1) := by decide +kernel
theorem dX3_firstPageOf_23 : decode cX3_firstPageOf 23 = .ok (.iinc 2 1, 3) := by decide +kernel
theorem dX3_firstPageOf_26 : decode cX3_firstPageOf 26 = .ok (.goto (-24), 3) := by decide +kernel
theorem dX3_firstPageOf_29 : decode cX3_firstPageOf 29 = .ok (.aload_n 0, 1) := by decide +kernel
theorem dX3_firstPageOf_30 : decode cX3_firstPageOf 30 = .ok (.getfield 11, 3) := by decide +kernel
theorem dX3_firstPageOf_33 : decode cX3_firstPageOf 33 = .ok (.arraylength, 1) := by decide +kernel
theorem dX3_firstPageOf_34 : decode cX3_firstPageOf 34 = .ok (.ireturn, 1) := by decide +kernel
theorem dX3_gatherCluster_0 : decode cX3_gatherCluster 0 = .ok (.aload_n 1, 1) := by decide +kernel
theorem dX3_gatherCluster_1 : decode cX3_gatherCluster 1 = .ok (.getfield 129, 3) := by decide +kernel
theorem dX3_gatherCluster_4 : decode cX3_gatherCluster 4 = .ok (.ifCond .eq 10, 3) := by decide +kernel
theorem dX3_gatherCluster_7 : decode cX3_gatherCluster 7 = .ok (.aload_n 0, 1) := by decide +kernel
theorem dX3_gatherCluster_8 : decode cX3_gatherCluster 8 = .ok (.getfield 19, 3) := by decide +kernel
theorem dX3_gatherCluster_11 : decode cX3_gatherCluster 11 = .ok (.goto 7, 3) := by decide +kernel
theorem dX3_gatherCluster_14 : decode cX3_gatherCluster 14 = .ok (.aload_n 0, 1) := by decide +kernel
theorem dX3_gatherCluster_15 : decode cX3_gatherCluster 15 = .ok (.getfield 11, 3) := by decide +kernel
theorem dX3_gatherCluster_18 : decode cX3_gatherCluster 18 = .ok (.astore_n 3, 1) := by decide +kernel
theorem dX3_gatherCluster_19 : decode cX3_gatherCluster 19 = .ok (.aload_n 1, 1) := by decide +kernel
theorem dX3_gatherCluster_20 : decode cX3_gatherCluster 20 = .ok (.getfield 129, 3) := by decide +kernel
theorem dX3_gatherCluster_23 : decode cX3_gatherCluster 23 = .ok (.ifCond .eq 15, 3) := by decide +kernel
theorem dX3_gatherCluster_26 : decode cX3_gatherCluster 26 = .ok (.iload_n 2, 1) := by decide +kernel
theorem dX3_gatherCluster_27 : decode cX3_gatherCluster 27 = .ok (.bipush 6, 2) := by decide +kernel
theorem dX3_gatherCluster_29 : decode cX3_gatherCluster 29 = .ok (.idiv, 1) := by decide +kernel
theorem dX3_gatherCluster_30 : decode cX3_gatherCluster 30 = .ok (.iconst 1, 1) := by decide +kernel
theorem dX3_gatherCluster_31 : decode cX3_gatherCluster 31 = .ok (.iadd, 1) := by decide +kernel
theorem dX3_gatherCluster_32 : decode cX3_gatherCluster 32 = .ok (.bipush 6, 2) := by decide +kernel
theorem dX3_gatherCluster_34 : decode cX3_gatherCluster 34 = .ok (.imul, 1) := by decide +kernel
theorem dX3_gatherCluster_35 : decode cX3_gatherCluster 35 = .ok (.goto 12, 3) := by decide +kernel
theorem dX3_gatherCluster_38 : decode cX3_gatherCluster 38 = .ok (.iload_n 2, 1) := by decide +kernel
theorem dX3_gatherCluster_39 : decode cX3_gatherCluster 39 = .ok (.bipush 16, 2) := by decide +kernel
theorem dX3_gatherCluster_41 : decode cX3_gatherCluster 41 = .ok (.idiv, 1) := by decide +kernel
theorem dX3_gatherCluster_42 : decode cX3_gatherCluster 42 = .ok (.iconst 1, 1) := by decide +kernel
theorem dX3_gatherCluster_43 : decode cX3_gatherCluster 43 = .ok (.iadd, 1) := by decide +kernel
theorem dX3_gatherCluster_44 : decode cX3_gatherCluster 44 = .ok (.bipush 16, 2) := by decide +kernel
theorem dX3_gatherCluster_46 : decode cX3_gatherCluster 46 = .ok (.imul, 1) := by decide +kernel
theorem dX3_gatherCluster_47 : decode cX3_gatherCluster 47 = .ok (.istore 4, 2) := by decide +kernel
theorem dX3_gatherCluster_49 : decode cX3_gatherCluster 49 = .ok (.aload_n 0, 1) := by decide +kernel
theorem dX3_gatherCluster_50 : decode cX3_gatherCluster 50 = .ok (.getfield 36, 3) := by decide +kernel
theorem dX3_gatherCluster_53 : decode cX3_gatherCluster 53 = .ok (.iconst 0, 1) := by decide +kernel
theorem dX3_gatherCluster_54 : decode cX3_gatherCluster 54 = .ok (.aload_n 1, 1) := by decide +kernel
theorem dX3_gatherCluster_55 : decode cX3_gatherCluster 55 = .ok (.aastore, 1) := by decide +kernel
theorem dX3_gatherCluster_56 : decode cX3_gatherCluster 56 = .ok (.iconst 1, 1) := by decide +kernel
theorem dX3_gatherCluster_57 : decode cX3_gatherCluster 57 = .ok (.istore 5, 2) := by decide +kernel
theorem dX3_gatherCluster_59 : decode cX3_gatherCluster 59 = .ok (.iload_n 2, 1) := by decide +kernel
theorem dX3_gatherCluster_60 : decode cX3_gatherCluster 60 = .ok (.iconst 1, 1) := by decide +kernel
theorem dX3_gatherCluster_61 : decode cX3_gatherCluster 61 = .ok (.iadd, 1) := by decide +kernel
theorem dX3_gatherCluster_62 : decode cX3_gatherCluster 62 = .ok (.istore 6, 2) := by decide +kernel
theorem dX3_gatherCluster_64 : decode cX3_gatherCluster 64 = .ok (.iload 6, 2) := by decide +kernel
theorem dX3_gatherCluster_66 : decode cX3_gatherCluster 66 = .ok (.iload 4, 2) := by decide +kernel
theorem dX3_gatherCluster_68 : decode cX3_gatherCluster 68 = .ok (.if_icmp .ge 68, 3) := by decide +kernel
theorem dX3_gatherCluster_71 : decode cX3_gatherCluster 71 = .ok (.iload 6, 2) := by decide +kernel
theorem dX3_gatherCluster_73 : decode cX3_gatherCluster 73 = .ok (.aload_n 3, 1) := by decide +kernel
theorem dX3_gatherCluster_74 : decode cX3_gatherCluster 74 = .ok (.arraylength, 1) := by decide +kernel
theorem dX3_gatherCluster_75 : decode cX3_gatherCluster 75 = .ok (.if_icmp .ge 61, 3) := by decide +kernel
theorem dX3_gatherCluster_78 : decode cX3_gatherCluster 78 = .ok (.aload_n 3, 1) := by decide +kernel
theorem dX3_gatherCluster_79 : decode cX3_gatherCluster 79 = .ok (.iload 6, 2) := by decide +kernel
theorem dX3_gatherCluster_81 : decode cX3_gatherCluster 81 = .ok (.aaload, 1) := by decide +kernel
theorem dX3_gatherCluster_82 : decode cX3_gatherCluster 82 = .ok (.astore 7, 2) := by decide +kernel
theorem dX3_gatherCluster_84 : decode cX3_gatherCluster 84 = .ok (.iload 5, 2) := by decide +kernel
theorem dX3_gatherCluster_86 : decode cX3_gatherCluster 86 = .ok (.iconst 4, 1) := by decide +kernel
theorem dX3_gatherCluster_87 : decode cX3_gatherCluster 87 = .ok (.if_icmp .eq 49, 3) := by decide +kernel
theorem dX3_gatherCluster_90 : decode cX3_gatherCluster 90 = .ok (.aload 7, 2) := by decide +kernel
theorem dX3_gatherCluster_92 : decode cX3_gatherCluster 92 = .ok (.ifnull 44, 3) := by decide +kernel
theorem dX3_gatherCluster_95 : decode cX3_gatherCluster 95 = .ok (.aload 7, 2) := by decide +kernel
theorem dX3_gatherCluster_97 : decode cX3_gatherCluster 97 = .ok (.getfield 129, 3) := by decide +kernel
theorem dX3_gatherCluster_100 : decode cX3_gatherCluster 100 = .ok (.aload_n 1, 1) := by decide +kernel
theorem dX3_gatherCluster_101 : decode cX3_gatherCluster 101 = .ok (.getfield 129, 3) := by decide +kernel
theorem dX3_gatherCluster_104 : decode cX3_gatherCluster 104 = .ok (.if_icmp .ne 32, 3) := by decide +kernel
theorem dX3_gatherCluster_107 : decode cX3_gatherCluster 107 = .ok (.aload 7, 2) := by decide +kernel
theorem dX3_gatherCluster_109 : decode cX3_gatherCluster 109 = .ok (.getfield 162, 3) := by decide +kernel
theorem dX3_gatherCluster_112 : decode cX3_gatherCluster 112 = .ok (.ifCond .ne 6, 3) := by decide +kernel
theorem dX3_gatherCluster_115 : decode cX3_gatherCluster 115 = .ok (.goto 21, 3) := by decide +kernel
theorem dX3_gatherCluster_118 : decode cX3_gatherCluster 118 = .ok (.aload_n 0, 1) := by decide +kernel
theorem dX3_gatherCluster_119 : decode cX3_gatherCluster 119 = .ok (.getfield 36, 3) := by decide +kernel
theorem dX3_gatherCluster_122 : decode cX3_gatherCluster 122 = .ok (.iload 5, 2) := by decide +kernel
theorem dX3_gatherCluster_124 : decode cX3_gatherCluster 124 = .ok (.aload 7, 2) := by decide +kernel
theorem dX3_gatherCluster_126 : decode cX3_gatherCluster 126 = .ok (.aastore, 1) := by decide +kernel
theorem dX3_gatherCluster_127 : decode cX3_gatherCluster 127 = .ok (.iinc 5 1, 3) := by decide +kernel
theorem dX3_gatherCluster_130 : decode cX3_gatherCluster 130 = .ok (.iinc 6 1, 3) := by decide +kernel
theorem dX3_gatherCluster_133 : decode cX3_gatherCluster 133 = .ok (.goto (-69), 3) := by decide +kernel
theorem dX3_gatherCluster_136 : decode cX3_gatherCluster 136 = .ok (.iload 5, 2) := by decide +kernel
theorem dX3_gatherCluster_138 : decode cX3_gatherCluster 138 = .ok (.ireturn, 1) := by decide +kernel
theorem dX4_init_0 : decode cX4_init 0 = .ok (.aload_n 0, 1) := by decide +kernel
theorem dX4_init_1 : decode cX4_init 1 = .ok (.invokespecial 1, 3) := by decide +kernel
theorem dX4_init_4 : decode cX4_init 4 = .ok (.aload_n 0, 1) := by decide +kernel
theorem dX4_init_5 : decode cX4_init 5 = .ok (.bipush 8, 2) := by decide +kernel
theorem dX4_init_7 : decode cX4_init 7 = .ok (.putfield 7, 3) := by decide +kernel
theorem dX4_init_10 : decode cX4_init 10 = .ok (.aload_n 0, 1) := by decide +kernel
theorem dX4_init_11 : decode cX4_init 11 = .ok (.bipush 6, 2) := by decide +kernel
theorem dX4_init_13 : decode cX4_init 13 = .ok (.putfield 13, 3) := by decide +kernel
theorem dX4_init_16 : decode cX4_init 16 = .ok (.aload_n 0, 1) := by decide +kernel
theorem dX4_init_17 : decode cX4_init 17 = .ok (.bipush 12, 2) := by decide +kernel
theorem dX4_init_19 : decode cX4_init 19 = .ok (.newarray .int, 2) := by decide +kernel
theorem dX4_init_21 : decode cX4_init 21 = .ok (.putfield 16, 3) := by decide +kernel
theorem dX4_init_24 : decode cX4_init 24 = .ok (.aload_n 0, 1) := by decide +kernel
theorem dX4_init_25 : decode cX4_init 25 = .ok (.bipush 12, 2) := by decide +kernel
theorem dX4_init_27 : decode cX4_init 27 = .ok (.newarray .int, 2) := by decide +kernel
theorem dX4_init_29 : decode cX4_init 29 = .ok (.putfield 20, 3) := by decide +kernel
theorem dX4_init_32 : decode cX4_init 32 = .ok (.aload_n 0, 1) := by decide +kernel
theorem dX4_init_33 : decode cX4_init 33 = .ok (.bipush 12, 2) := by decide +kernel
theorem dX4_init_35 : decode cX4_init 35 = .ok (.newarray .boolean, 2) := by decide +kernel
theorem dX4_init_37 : decode cX4_init 37 = .ok (.putfield 23, 3) := by decide +kernel
theorem dX4_init_40 : decode cX4_init 40 = .ok (.aload_n 0, 1) := by decide +kernel
theorem dX4_init_41 : decode cX4_init 41 = .ok (.bipush 24, 2) := by decide +kernel
theorem dX4_init_43 : decode cX4_init 43 = .ok (.newarray .int, 2) := by decide +kernel
theorem dX4_init_45 : decode cX4_init 45 = .ok (.putfield 27, 3) := by decide +kernel
theorem dX4_init_48 : decode cX4_init 48 = .ok (.aload_n 0, 1) := by decide +kernel
theorem dX4_init_49 : decode cX4_init 49 = .ok (.sipush 200, 3) := by decide +kernel
theorem dX4_init_52 : decode cX4_init 52 = .ok (.newarray .boolean, 2) := by decide +kernel
theorem dX4_init_54 : decode cX4_init 54 = .ok (.putfield 30, 3) := by decide +kernel
theorem dX4_init_57 : decode cX4_init 57 = .ok (.aload_n 0, 1) := by decide +kernel
theorem dX4_init_58 : decode cX4_init 58 = .ok (.sipush 200, 3) := by decide +kernel
theorem dX4_init_61 : decode cX4_init 61 = .ok (.newarray .boolean, 2) := by decide +kernel
theorem dX4_init_63 : decode cX4_init 63 = .ok (.putfield 33, 3) := by decide +kernel
theorem dX4_init_66 : decode cX4_init 66 = .ok (.aload_n 0, 1) := by decide +kernel
theorem dX4_init_67 : decode cX4_init 67 = .ok (.sipush 800, 3) := by decide +kernel
theorem dX4_init_70 : decode cX4_init 70 = .ok (.newarray .int, 2) := by decide +kernel
theorem dX4_init_72 : decode cX4_init 72 = .ok (.putfield 36, 3) := by decide +kernel
theorem dX4_init_75 : decode cX4_init 75 = .ok (.aload_n 0, 1) := by decide +kernel
theorem dX4_init_76 : decode cX4_init 76 = .ok (.bipush 10, 2) := by decide +kernel
theorem dX4_init_78 : decode cX4_init 78 = .ok (.newarray .boolean, 2) := by decide +kernel
theorem dX4_init_80 : decode cX4_init 80 = .ok (.putfield 39, 3) := by decide +kernel
theorem dX4_init_83 : decode cX4_init 83 = .ok (.aload_n 0, 1) := by decide +kernel
theorem dX4_init_84 : decode cX4_init 84 = .ok (.sipush 160, 3) := by decide +kernel
theorem dX4_init_87 : decode cX4_init 87 = .ok (.newarray .int, 2) := by decide +kernel
theorem dX4_init_89 : decode cX4_init 89 = .ok (.putfield 42, 3) := by decide +kernel
theorem dX4_init_92 : decode cX4_init 92 = .ok (.aload_n 0, 1) := by decide +kernel
theorem dX4_init_93 : decode cX4_init 93 = .ok (.sipush 160, 3) := by decide +kernel
theorem dX4_init_96 : decode cX4_init 96 = .ok (.newarray .int, 2) := by decide +kernel
theorem dX4_init_98 : decode cX4_init 98 = .ok (.putfield 45, 3) := by decide +kernel
theorem dX4_init_101 : decode cX4_init 101 = .ok (.aload_n 0, 1) := by decide +kernel
theorem dX4_init_102 : decode cX4_init 102 = .ok (.iconst 4, 1) := by decide +kernel
theorem dX4_init_103 : decode cX4_init 103 = .ok (.newarray .int, 2) := by decide +kernel
theorem dX4_init_105 : decode cX4_init 105 = .ok (.putfield 48, 3) := by decide +kernel
theorem dX4_init_108 : decode cX4_init 108 = .ok (.aload_n 0, 1) := by decide +kernel
theorem dX4_init_109 : decode cX4_init 109 = .ok (.bipush 24, 2) := by decide +kernel
theorem dX4_init_111 : decode cX4_init 111 = .ok (.newarray .int, 2) := by decide +kernel
theorem dX4_init_113 : decode cX4_init 113 = .ok (.putfield 51, 3) := by decide +kernel
theorem dX4_init_116 : decode cX4_init 116 = .ok (.aload_n 0, 1) := by decide +kernel
theorem dX4_init_117 : decode cX4_init 117 = .ok (.bipush 6, 2) := by decide +kernel
theorem dX4_init_119 : decode cX4_init 119 = .ok (.newarray .int, 2) := by decide +kernel
theorem dX4_init_121 : decode cX4_init 121 = .ok (.putfield 54, 3) := by decide +kernel
theorem dX4_init_124 : decode cX4_init 124 = .ok (.aload_n 0, 1) := by decide +kernel
theorem dX4_init_125 : decode cX4_init 125 = .ok (.iconst 4, 1) := by decide +kernel
theorem dX4_init_126 : decode cX4_init 126 = .ok (.newarray .int, 2) := by decide +kernel
theorem dX4_init_128 : decode cX4_init 128 = .ok (.putfield 57, 3) := by decide +kernel
theorem dX4_init_131 : decode cX4_init 131 = .ok (.iconst 0, 1) := by decide +kernel
theorem dX4_init_132 : decode cX4_init 132 = .ok (.istore_n 1, 1) := by decide +kernel
theorem dX4_init_133 : decode cX4_init 133 = .ok (.iload_n 1, 1) := by decide +kernel
theorem dX4_init_134 : decode cX4_init 134 = .ok (.bipush 12, 2) := by decide +kernel
theorem dX4_init_136 : decode cX4_init 136 = .ok (.if_icmp .ge 16, 3) := by decide +kernel
theorem dX4_init_139 : decode cX4_init 139 = .ok (.aload_n 0, 1) := by decide +kernel
theorem dX4_init_140 : decode cX4_init 140 = .ok (.getfield 16, 3) := by decide +kernel
theorem dX4_init_143 : decode cX4_init 143 = .ok (.iload_n 1, 1) := by decide +kernel
theorem dX4_init_144 : decode cX4_init 144 = .ok (.iconst (-1), 1) := by decide +kernel
theorem dX4_init_145 : decode cX4_init 145 = .ok (.iastore, 1) := by decide +kernel
theorem dX4_init_146 : decode cX4_init 146 = .ok (.iinc 1 1, 3) := by decide +kernel
theorem dX4_init_149 : decode cX4_init 149 = .ok (.goto (-16), 3) := by decide +kernel
theorem dX4_init_152 : decode cX4_init 152 = .ok (.iconst 0, 1) := by decide +kernel
theorem dX4_init_153 : decode cX4_init 153 = .ok (.istore_n 1, 1) := by decide +kernel
theorem dX4_init_154 : decode cX4_init 154 = .ok (.iload_n 1, 1) := by decide +kernel
theorem dX4_init_155 : decode cX4_init 155 = .ok (.bipush 24, 2) := by decide +kernel
theorem dX4_init_157 : decode cX4_init 157 = .ok (.if_icmp .ge 16, 3) := by decide +kernel
theorem dX4_init_160 : decode cX4_init 160 = .ok (.aload_n 0, 1) := by decide +kernel
theorem dX4_init_161 : decode cX4_init 161 = .ok (.getfield 27, 3) := by decide +kernel
theorem dX4_init_164 : decode cX4_init 164 = .ok (.iload_n 1, 1) := by decide +kernel
theorem dX4_init_165 : decode cX4_init 165 = .ok (.iconst (-1), 1) := by decide +kernel
theorem dX4_init_166 : decode cX4_init 166 = .ok (.iastore, 1) := by decide +kernel
theorem dX4_init_167 : decode cX4_init 167 = .ok (.iinc 1 1, 3) := by decide +kernel
theorem dX4_init_170 : decode cX4_init 170 = .ok (.goto (-16), 3) := by decide +kernel
theorem dX4_init_173 : decode cX4_init 173 = .ok (.return_, 1) := by decide +kernel
theorem dX4_thrown_0 : decode cX4_thrown 0 = .ok (.aload_n 0, 1) := by decide +kernel
theorem dX4_thrown_1 : decode cX4_thrown 1 = .ok (.getfield 60, 3) := by decide +kernel
theorem dX4_thrown_4 : decode cX4_thrown 4 = .ok (.ireturn, 1) := by decide +kernel
theorem dX4_no_0 : decode cX4_no 0 = .ok (.aload_n 0, 1) := by decide +kernel
theorem dX4_no_1 : decode cX4_no 1 = .ok (.iload_n 1, 1) := by decide +kernel
theorem dX4_no_2 : decode cX4_no 2 = .ok (.putfield 60, 3) := by decide +kernel
theorem dX4_no_5 : decode cX4_no 5 = .ok (.iconst 0, 1) := by decide +kernel
theorem dX4_no_6 : decode cX4_no 6 = .ok (.ireturn, 1) := by decide +kernel
theorem dX4_frameWith_0 : decode cX4_frameWith 0 = .ok (.iconst 0, 1) := by decide +kernel
theorem dX4_frameWith_1 : decode cX4_frameWith 1 = .ok (.istore_n 2, 1) := by decide +kernel
theorem dX4_frameWith_2 : decode cX4_frameWith 2 = .ok (.iload_n 2, 1) := by decide +kernel
theorem dX4_frameWith_3 : decode cX4_frameWith 3 = .ok (.aload_n 0, 1) := by decide +kernel
theorem dX4_frameWith_4 : decode cX4_frameWith 4 = .ok (.getfield 13, 3) := by decide +kernel
theorem dX4_frameWith_7 : decode cX4_frameWith 7 = .ok (.if_icmp .ge 21, 3) := by decide +kernel
theorem dX4_frameWith_10 : decode cX4_frameWith 10 = .ok (.aload_n 0, 1) := by decide +kernel
theorem dX4_frameWith_11 : decode cX4_frameWith 11 = .ok (.getfield 16, 3) := by decide +kernel
theorem dX4_frameWith_14 : decode cX4_frameWith 14 = .ok (.iload_n 2, 1) := by decide +kernel
theorem dX4_frameWith_15 : decode cX4_frameWith 15 = .ok (.iaload, 1) := by decide +kernel
theorem dX4_frameWith_16 : decode cX4_frameWith 16 = .ok (.iload_n 1, 1) := by decide +kernel
theorem dX4_frameWith_17 : decode cX4_frameWith 17 = .ok (.if_icmp .ne 5, 3) := by decide +kernel
theorem dX4_frameWith_20 : decode cX4_frameWith 20 = .ok (.iload_n 2, 1) := by decide +kernel
theorem dX4_frameWith_21 : decode cX4_frameWith 21 = .ok (.ireturn, 1) := by decide +kernel
theorem dX4_frameWith_22 : decode cX4_frameWith 22 = .ok (.iinc 2 1, 3) := by decide +kernel
theorem dX4_frameWith_25 : decode cX4_frameWith 25 = .ok (.goto (-23), 3) := by decide +kernel
theorem dX4_frameWith_28 : decode cX4_frameWith 28 = .ok (.iconst (-1), 1) := by decide +kernel
theorem dX4_frameWith_29 : decode cX4_frameWith 29 = .ok (.ireturn, 1) := by decide +kernel
theorem dX4_slotWith_0 : decode cX4_slotWith 0 = .ok (.iconst 0, 1) := by decide +kernel
theorem dX4_slotWith_1 : decode cX4_slotWith 1 = .ok (.istore_n 2, 1) := by decide +kernel
theorem dX4_slotWith_2 : decode cX4_slotWith 2 = .ok (.iload_n 2, 1) := by decide +kernel
theorem dX4_slotWith_3 : decode cX4_slotWith 3 = .ok (.bipush 24, 2) := by decide +kernel
theorem dX4_slotWith_5 : decode cX4_slotWith 5 = .ok (.if_icmp .ge 21, 3) := by decide +kernel
theorem dX4_slotWith_8 : decode cX4_slotWith 8 = .ok (.aload_n 0, 1) := by decide +kernel
theorem dX4_slotWith_9 : decode cX4_slotWith 9 = .ok (.getfield 27, 3) := by decide +kernel
theorem dX4_slotWith_12 : decode cX4_slotWith 12 = .ok (.iload_n 2, 1) := by decide +kernel
theorem dX4_slotWith_13 : decode cX4_slotWith 13 = .ok (.iaload, 1) := by decide +kernel
theorem dX4_slotWith_14 : decode cX4_slotWith 14 = .ok (.iload_n 1, 1) := by decide +kernel
theorem dX4_slotWith_15 : decode cX4_slotWith 15 = .ok (.if_icmp .ne 5, 3) := by decide +kernel
theorem dX4_slotWith_18 : decode cX4_slotWith 18 = .ok (.iload_n 2, 1) := by decide +kernel
theorem dX4_slotWith_19 : decode cX4_slotWith 19 = .ok (.ireturn, 1) := by decide +kernel
theorem dX4_slotWith_20 : decode cX4_slotWith 20 = .ok (.iinc 2 1, 3) := by decide +kernel
theorem dX4_slotWith_23 : decode cX4_slotWith 23 = .ok (.goto (-21), 3) := by decide +kernel
theorem dX4_slotWith_26 : decode cX4_slotWith 26 = .ok (.iconst (-1), 1) := by decide +kernel
theorem dX4_slotWith_27 : decode cX4_slotWith 27 = .ok (.ireturn, 1) := by decide +kernel
theorem dX4_isDirty_0 : decode cX4_isDirty 0 = .ok (.aload_n 0, 1) := by decide +kernel
theorem dX4_isDirty_1 : decode cX4_isDirty 1 = .ok (.getfield 33, 3) := by decide +kernel
theorem dX4_isDirty_4 : decode cX4_isDirty 4 = .ok (.iload_n 1, 1) := by decide +kernel
theorem dX4_isDirty_5 : decode cX4_isDirty 5 = .ok (.baload, 1) := by decide +kernel
theorem dX4_isDirty_6 : decode cX4_isDirty 6 = .ok (.ifCond .eq 16, 3) := by decide +kernel
theorem dX4_isDirty_9 : decode cX4_isDirty 9 = .ok (.aload_n 0, 1) := by decide +kernel
theorem dX4_isDirty_10 : decode cX4_isDirty 10 = .ok (.iload_n 1, 1) := by decide +kernel
theorem dX4_isDirty_11 : decode cX4_isDirty 11 = .ok (.invokevirtual 63, 3) := by decide +kernel
theorem dX4_isDirty_14 : decode cX4_isDirty 14 = .ok (.iconst (-1), 1) := by decide +kernel
theorem dX4_isDirty_15 : decode cX4_isDirty 15 = .ok (.if_icmp .ne 7, 3) := by decide +kernel
theorem dX4_isDirty_18 : decode cX4_isDirty 18 = .ok (.iconst 1, 1) := by decide +kernel
theorem dX4_isDirty_19 : decode cX4_isDirty 19 = .ok (.goto 4, 3) := by decide +kernel
theorem dX4_isDirty_22 : decode cX4_isDirty 22 = .ok (.iconst 0, 1) := by decide +kernel
theorem dX4_isDirty_23 : decode cX4_isDirty 23 = .ok (.ireturn, 1) := by decide +kernel
theorem dX4_create_0 : decode cX4_create 0 = .ok (.iconst 0, 1) := by decide +kernel
theorem dX4_create_1 : decode cX4_create 1 = .ok (.istore_n 1, 1) := by decide +kernel
theorem dX4_create_2 : decode cX4_create 2 = .ok (.aload_n 0, 1) := by decide +kernel
theorem dX4_create_3 : decode cX4_create 3 = .ok (.getfield 30, 3) := by decide +kernel
theorem dX4_create_6 : decode cX4_create 6 = .ok (.iload_n 1, 1) := by decide +kernel
theorem dX4_create_7 : decode cX4_create 7 = .ok (.baload, 1) := by decide +kernel
theorem dX4_create_8 : decode cX4_create 8 = .ok (.ifCond .eq 9, 3) := by decide +kernel
theorem dX4_create_11 : decode cX4_create 11 = .ok (.iinc 1 1, 3) := by decide +kernel
theorem dX4_create_14 : decode cX4_create 14 = .ok (.goto (-12), 3) := by decide +kernel
theorem dX4_create_17 : decode cX4_create 17 = .ok (.aload_n 0, 1) := by decide +kernel
theorem dX4_create_18 : decode cX4_create 18 = .ok (.getfield 30, 3) := by decide +kernel
theorem dX4_create_21 : decode cX4_create 21 = .ok (.iload_n 1, 1) := by decide +kernel
theorem dX4_create_22 : decode cX4_create 22 = .ok (.iconst 1, 1) := by decide +kernel
theorem dX4_create_23 : decode cX4_create 23 = .ok (.bastore, 1) := by decide +kernel
theorem dX4_create_24 : decode cX4_create 24 = .ok (.aload_n 0, 1) := by decide +kernel
theorem dX4_create_25 : decode cX4_create 25 = .ok (.getfield 33, 3) := by decide +kernel
theorem dX4_create_28 : decode cX4_create 28 = .ok (.iload_n 1, 1) := by decide +kernel
theorem dX4_create_29 : decode cX4_create 29 = .ok (.iconst 0, 1) := by decide +kernel
theorem dX4_create_30 : decode cX4_create 30 = .ok (.bastore, 1) := by decide +kernel
theorem dX4_create_31 : decode cX4_create 31 = .ok (.iconst 0, 1) := by decide +kernel
theorem dX4_create_32 : decode cX4_create 32 = .ok (.istore_n 2, 1) := by decide +kernel
theorem dX4_create_33 : decode cX4_create 33 = .ok (.iload_n 2, 1) := by decide +kernel
theorem dX4_create_34 : decode cX4_create 34 = .ok (.iconst 4, 1) := by decide +kernel
theorem dX4_create_35 : decode cX4_create 35 = .ok (.if_icmp .ge 20, 3) := by decide +kernel
theorem dX4_create_38 : decode cX4_create 38 = .ok (.aload_n 0, 1) := by decide +kernel
theorem dX4_create_39 : decode cX4_create 39 = .ok (.getfield 36, 3) := by decide +kernel
theorem dX4_create_42 : decode cX4_create 42 = .ok (.iconst 4, 1) := by decide +kernel
theorem dX4_create_43 : decode cX4_create 43 = .ok (.iload_n 1, 1) := by decide +kernel
theorem dX4_create_44 : decode cX4_create 44 = .ok (.imul, 1) := by decide +kernel
theorem dX4_create_45 : decode cX4_create 45 = .ok (.iload_n 2, 1) := by decide +kernel
theorem dX4_create_46 : decode cX4_create 46 = .ok (.iadd, 1) := by decide +kernel
theorem dX4_create_47 : decode cX4_create 47 = .ok (.iconst 0, 1) := by decide +kernel
theorem dX4_create_48 : decode cX4_create 48 = .ok (.iastore, 1) := by decide +kernel
theorem dX4_create_49 : decode cX4_create 49 = .ok (.iinc 2 1, 3) := by decide +kernel
theorem dX4_create_52 : decode cX4_create 52 = .ok (.goto (-19), 3) := by decide +kernel
theorem dX4_create_55 : decode cX4_create 55 = .ok (.iload_n 1, 1) := by decide +kernel
theorem dX4_create_56 : decode cX4_create 56 = .ok (.ireturn, 1) := by decide +kernel
theorem dX4_at_0 : decode cX4_at 0 = .ok (.bipush 16, 2) := by decide +kernel
theorem dX4_at_2 : decode cX4_at 2 = .ok (.iload_n 0, 1) := by decide +kernel
theorem dX4_at_3 : decode cX4_at 3 = .ok (.imul, 1) := by decide +kernel
theorem dX4_at_4 : decode cX4_at 4 = .ok (.iload_n 1, 1) := by decide +kernel
theorem dX4_at_5 : decode cX4_at 5 = .ok (.iadd, 1) := by decide +kernel
theorem dX4_at_6 : decode cX4_at 6 = .ok (.ireturn, 1) := by decide +kernel
theorem dX4_references_0 : decode cX4_references 0 = .ok (.iconst 0, 1) := by decide +kernel
theorem dX4_references_1 : decode cX4_references 1 = .ok (.istore_n 2, 1) := by decide +kernel
theorem dX4_references_2 : decode cX4_references 2 = .ok (.iconst 0, 1) := by decide +kernel
theorem dX4_references_3 : decode cX4_references 3 = .ok (.istore_n 3, 1) := by decide +kernel
theorem dX4_references_4 : decode cX4_references 4 = .ok (.iload_n 3, 1) := by decide +kernel
theorem dX4_references_5 : decode cX4_references 5 = .ok (.bipush 16, 2) := by decide +kernel
theorem dX4_references_7 : decode cX4_references 7 = .ok (.aload_n 0, 1) := by decide +kernel
theorem dX4_references_8 : decode cX4_references 8 = .ok (.getfield 67, 3) := by decide +kernel
theorem dX4_references_11 : decode cX4_references 11 = .ok (.imul, 1) := by decide +kernel
theorem dX4_references_12 : decode cX4_references 12 = .ok (.if_icmp .ge 36, 3) := by decide +kernel
theorem dX4_references_15 : decode cX4_references 15 = .ok (.iload_n 2, 1) := by decide +kernel
theorem dX4_references_16 : decode cX4_references 16 = .ok (.aload_n 0, 1) := by decide +kernel
theorem dX4_references_17 : decode cX4_references 17 = .ok (.getfield 42, 3) := by decide +kernel
theorem dX4_references_20 : decode cX4_references 20 = .ok (.iload_n 3, 1) := by decide +kernel
theorem dX4_references_21 : decode cX4_references 21 = .ok (.iaload, 1) := by decide +kernel
theorem dX4_references_22 : decode cX4_references 22 = .ok (.ifCond .le 17, 3) := by decide +kernel
theorem dX4_references_25 : decode cX4_references 25 = .ok (.aload_n 0, 1) := by decide +kernel
theorem dX4_references_26 : decode cX4_references 26 = .ok (.getfield 45, 3) := by decide +kernel
theorem dX4_references_29 : decode cX4_references 29 = .ok (.iload_n 3, 1) := by decide +kernel
theorem dX4_references_30 : decode cX4_references 30 = .ok (.iaload, 1) := by decide +kernel
theorem dX4_references_31 : decode cX4_references 31 = .ok (.iload_n 1, 1) := by decide +kernel
theorem dX4_references_32 : decode cX4_references 32 = .ok (.if_icmp .ne 7, 3) := by decide +kernel
theorem dX4_references_35 : decode cX4_references 35 = .ok (.iconst 1, 1) := by decide +kernel
theorem dX4_references_36 : decode cX4_references 36 = .ok (.goto 4, 3) := by decide +kernel
theorem dX4_references_39 : decode cX4_references 39 = .ok (.iconst 0, 1) := by decide +kernel
theorem dX4_references_40 : decode cX4_references 40 = .ok (.iadd, 1) := by decide +kernel
theorem dX4_references_41 : decode cX4_references 41 = .ok (.istore_n 2, 1) := by decide +kernel
theorem dX4_references_42 : decode cX4_references 42 = .ok (.iinc 3 1, 3) := by decide +kernel
theorem dX4_references_45 : decode cX4_references 45 = .ok (.goto (-41), 3) := by decide +kernel
theorem dX4_references_48 : decode cX4_references 48 = .ok (.iload_n 2, 1) := by decide +kernel
theorem dX4_references_49 : decode cX4_references 49 = .ok (.ireturn, 1) := by decide +kernel
theorem dX4_isInSegment_0 : decode cX4_isInSegment 0 = .ok (.aload_n 0, 1) := by decide +kernel
theorem dX4_isInSegment_1 : decode cX4_isInSegment 1 = .ok (.iload_n 1, 1) := by decide +kernel
theorem dX4_isInSegment_2 : decode cX4_isInSegment 2 = .ok (.invokevirtual 70, 3) := by decide +kernel
theorem dX4_isInSegment_5 : decode cX4_isInSegment 5 = .ok (.iconst (-1), 1) := by decide +kernel
theorem dX4_isInSegment_6 : decode cX4_isInSegment 6 = .ok (.if_icmp .eq 7, 3) := by decide +kernel
theorem dX4_isInSegment_9 : decode cX4_isInSegment 9 = .ok (.iconst 1, 1) := by decide +kernel
theorem dX4_isInSegment_10 : decode cX4_isInSegment 10 = .ok (.goto 4, 3) := by decide +kernel
theorem dX4_isInSegment_13 : decode cX4_isInSegment 13 = .ok (.iconst 0, 1) := by decide +kernel
theorem dX4_isInSegment_14 : decode cX4_isInSegment 14 = .ok (.ireturn, 1) := by decide +kernel
theorem dX4_segmentPlace_0 : decode cX4_segmentPlace 0 = .ok (.iconst 0, 1) := by decide +kernel
theorem dX4_segmentPlace_1 : decode cX4_segmentPlace 1 = .ok (.istore_n 2, 1) := by decide +kernel
theorem dX4_segmentPlace_2 : decode cX4_segmentPlace 2 = .ok (.iload_n 2, 1) := by decide +kernel
theorem dX4_segmentPlace_3 : decode cX4_segmentPlace 3 = .ok (.aload_n 0, 1) := by decide +kernel
theorem dX4_segmentPlace_4 : decode cX4_segmentPlace 4 = .ok (.getfield 73, 3) := by decide +kernel
theorem dX4_segmentPlace_7 : decode cX4_segmentPlace 7 = .ok (.if_icmp .ge 49, 3) := by decide +kernel
theorem dX4_segmentPlace_10 : decode cX4_segmentPlace 10 = .ok (.iconst 0, 1) := by decide +kernel
theorem dX4_segmentPlace_11 : decode cX4_segmentPlace 11 = .ok (.istore_n 3, 1) := by decide +kernel
theorem dX4_segmentPlace_12 : decode cX4_segmentPlace 12 = .ok (.iload_n 3, 1) := by decide +kernel
theorem dX4_segmentPlace_13 : decode cX4_segmentPlace 13 = .ok (.aload_n 0, 1) := by decide +kernel
theorem dX4_segmentPlace_14 : decode cX4_segmentPlace 14 = .ok (.getfield 48, 3) := by decide +kernel
theorem dX4_segmentPlace_17 : decode cX4_segmentPlace 17 = .ok (.iload_n 2, 1) := by decide +kernel
theorem dX4_segmentPlace_18 : decode cX4_segmentPlace 18 = .ok (.iaload, 1) := by decide +kernel
theorem dX4_segmentPlace_19 : decode cX4_segmentPlace 19 = .ok (.if_icmp .ge 31, 3) := by decide +kernel
theorem dX4_segmentPlace_22 : decode cX4_segmentPlace 22 = .ok (.aload_n 0, 1) := by decide +kernel
theorem dX4_segmentPlace_23 : decode cX4_segmentPlace 23 = .ok (.getfield 51, 3) := by decide +kernel
theorem dX4_segmentPlace_26 : decode cX4_segmentPlace 26 = .ok (.bipush 6, 2) := by decide +kernel
theorem dX4_segmentPlace_28 : decode cX4_segmentPlace 28 = .ok (.iload_n 2, 1) := by decide +kernel
theorem dX4_segmentPlace_29 : decode cX4_segmentPlace 29 = .ok (.imul, 1) := by decide +kernel
theorem dX4_segmentPlace_30 : decode cX4_segmentPlace 30 = .ok (.iload_n 3, 1) := by decide +kernel
theorem dX4_segmentPlace_31 : decode cX4_segmentPlace 31 = .ok (.iadd, 1) := by decide +kernel
theorem dX4_segmentPlace_32 : decode cX4_segmentPlace 32 = .ok (.iaload, 1) := by decide +kernel
theorem dX4_segmentPlace_33 : decode cX4_segmentPlace 33 = .ok (.iload_n 1, 1) := by decide +kernel
theorem dX4_segmentPlace_34 : decode cX4_segmentPlace 34 = .ok (.if_icmp .ne 10, 3) := by decide +kernel
theorem dX4_segmentPlace_37 : decode cX4_segmentPlace 37 = .ok (.bipush 6, 2) := by decide +kernel
theorem dX4_segmentPlace_39 : decode cX4_segmentPlace 39 = .ok (.iload_n 2, 1) := by decide +kernel
theorem dX4_segmentPlace_40 : decode cX4_segmentPlace 40 = .ok (.imul, 1) := by decide +kernel
theorem dX4_segmentPlace_41 : decode cX4_segmentPlace 41 = .ok (.iload_n 3, 1) := by decide +kernel
theorem dX4_segmentPlace_42 : decode cX4_segmentPlace 42 = .ok (.iadd, 1) := by decide +kernel
theorem dX4_segmentPlace_43 : decode cX4_segmentPlace 43 = .ok (.ireturn, 1) := by decide +kernel
theorem dX4_segmentPlace_44 : decode cX4_segmentPlace 44 = .ok (.iinc 3 1, 3) := by decide +kernel
theorem dX4_segmentPlace_47 : decode cX4_segmentPlace 47 = .ok (.goto (-35), 3) := by decide +kernel
theorem dX4_segmentPlace_50 : decode cX4_segmentPlace 50 = .ok (.iinc 2 1, 3) := by decide +kernel
theorem dX4_segmentPlace_53 : decode cX4_segmentPlace 53 = .ok (.goto (-51), 3) := by decide +kernel
theorem dX4_segmentPlace_56 : decode cX4_segmentPlace 56 = .ok (.iconst (-1), 1) := by decide +kernel
theorem dX4_segmentPlace_57 : decode cX4_segmentPlace 57 = .ok (.ireturn, 1) := by decide +kernel
theorem dX4_vanishes_0 : decode cX4_vanishes 0 = .ok (.aload_n 0, 1) := by decide +kernel
theorem dX4_vanishes_1 : decode cX4_vanishes 1 = .ok (.iload_n 1, 1) := by decide +kernel
theorem dX4_vanishes_2 : decode cX4_vanishes 2 = .ok (.invokevirtual 76, 3) := by decide +kernel
theorem dX4_vanishes_5 : decode cX4_vanishes 5 = .ok (.ifCond .gt 11, 3) := by decide +kernel
theorem dX4_vanishes_8 : decode cX4_vanishes 8 = .ok (.aload_n 0, 1) := by decide +kernel
theorem dX4_vanishes_9 : decode cX4_vanishes 9 = .ok (.iload_n 1, 1) := by decide +kernel
theorem dX4_vanishes_10 : decode cX4_vanishes 10 = .ok (.invokevirtual 79, 3) := by decide +kernel
theorem dX4_vanishes_13 : decode cX4_vanishes 13 = .ok (.ifCond .eq 5, 3) := by decide +kernel
theorem dX4_vanishes_16 : decode cX4_vanishes 16 = .ok (.iconst 0, 1) := by decide +kernel
theorem dX4_vanishes_17 : decode cX4_vanishes 17 = .ok (.ireturn, 1) := by decide +kernel
theorem dX4_vanishes_18 : decode cX4_vanishes 18 = .ok (.aload_n 0, 1) := by decide +kernel
theorem dX4_vanishes_19 : decode cX4_vanishes 19 = .ok (.iload_n 1, 1) := by decide +kernel
theorem dX4_vanishes_20 : decode cX4_vanishes 20 = .ok (.invokevirtual 83, 3) := by decide +kernel
theorem dX4_vanishes_23 : decode cX4_vanishes 23 = .ok (.istore_n 2, 1) := by decide +kernel
theorem dX4_vanishes_24 : decode cX4_vanishes 24 = .ok (.iload_n 2, 1) := by decide +kernel
theorem dX4_vanishes_25 : decode cX4_vanishes 25 = .ok (.iconst (-1), 1) := by decide +kernel
theorem dX4_vanishes_26 : decode cX4_vanishes 26 = .ok (.if_icmp .eq 10, 3) := by decide +kernel
theorem dX4_vanishes_29 : decode cX4_vanishes 29 = .ok (.aload_n 0, 1) := by decide +kernel
theorem dX4_vanishes_30 : decode cX4_vanishes 30 = .ok (.getfield 16, 3) := by decide +kernel
theorem dX4_vanishes_33 : decode cX4_vanishes 33 = .ok (.iload_n 2, 1) := by decide +kernel
theorem dX4_vanishes_34 : decode cX4_vanishes 34 = .ok (.iconst (-1), 1) := by decide +kernel
theorem dX4_vanishes_35 : decode cX4_vanishes 35 = .ok (.iastore, 1) := by decide +kernel
theorem dX4_vanishes_36 : decode cX4_vanishes 36 = .ok (.aload_n 0, 1) := by decide +kernel
theorem dX4_vanishes_37 : decode cX4_vanishes 37 = .ok (.iload_n 1, 1) := by decide +kernel
theorem dX4_vanishes_38 : decode cX4_vanishes 38 = .ok (.invokevirtual 63, 3) := by decide +kernel
theorem dX4_vanishes_41 : decode cX4_vanishes 41 = .ok (.istore_n 3, 1) := by decide +kernel
theorem dX4_vanishes_42 : decode cX4_vanishes 42 = .ok (.iload_n 3, 1) := by decide +kernel
theorem dX4_vanishes_43 : decode cX4_vanishes 43 = .ok (.iconst (-1), 1) := by decide +kernel
theorem dX4_vanishes_44 : decode cX4_vanishes 44 = .ok (.if_icmp .eq 10, 3) := by decide +kernel
theorem dX4_vanishes_47 : decode cX4_vanishes 47 = .ok (.aload_n 0, 1) := by decide +kernel
theorem dX4_vanishes_48 : decode cX4_vanishes 48 = .ok (.getfield 27, 3) := by decide +kernel
theorem dX4_vanishes_51 : decode cX4_vanishes 51 = .ok (.iload_n 3, 1) := by decide +kernel
theorem dX4_vanishes_52 : decode cX4_vanishes 52 = .ok (.iconst (-1), 1) := by decide +kernel
theorem dX4_vanishes_53 : decode cX4_vanishes 53 = .ok (.iastore, 1) := by decide +kernel
theorem dX4_vanishes_54 : decode cX4_vanishes 54 = .ok (.aload_n 0, 1) := by decide +kernel
theorem dX4_vanishes_55 : decode cX4_vanishes 55 = .ok (.getfield 30, 3) := by decide +kernel
theorem dX4_vanishes_58 : decode cX4_vanishes 58 = .ok (.iload_n 1, 1) := by decide +kernel
theorem dX4_vanishes_59 : decode cX4_vanishes 59 = .ok (.iconst 0, 1) := by decide +kernel
theorem dX4_vanishes_60 : decode cX4_vanishes 60 = .ok (.bastore, 1) := by decide +kernel
theorem dX4_vanishes_61 : decode cX4_vanishes 61 = .ok (.iconst 1, 1) := by decide +kernel
theorem dX4_vanishes_62 : decode cX4_vanishes 62 = .ok (.ireturn, 1) := by decide +kernel
theorem dX4_used_0 : decode cX4_used 0 = .ok (.iconst 0, 1) := by decide +kernel
theorem dX4_used_1 : decode cX4_used 1 = .ok (.istore_n 1, 1) := by decide +kernel
theorem dX4_used_2 : decode cX4_used 2 = .ok (.iconst 0, 1) := by decide +kernel
theorem dX4_used_3 : decode cX4_used 3 = .ok (.istore_n 2, 1) := by decide +kernel
theorem dX4_used_4 : decode cX4_used 4 = .ok (.iload_n 2, 1) := by decide +kernel
theorem dX4_used_5 : decode cX4_used 5 = .ok (.aload_n 0, 1) := by decide +kernel
theorem dX4_used_6 : decode cX4_used 6 = .ok (.getfield 13, 3) := by decide +kernel
theorem dX4_used_9 : decode cX4_used 9 = .ok (.if_icmp .ge 27, 3) := by decide +kernel
theorem dX4_used_12 : decode cX4_used 12 = .ok (.iload_n 1, 1) := by decide +kernel
theorem dX4_used_13 : decode cX4_used 13 = .ok (.aload_n 0, 1) := by decide +kernel
theorem dX4_used_14 : decode cX4_used 14 = .ok (.getfield 16, 3) := by decide +kernel
theorem dX4_used_17 : decode cX4_used 17 = .ok (.iload_n 2, 1) := by decide +kernel
theorem dX4_used_18 : decode cX4_used 18 = .ok (.iaload, 1) := by decide +kernel
theorem dX4_used_19 : decode cX4_used 19 = .ok (.iconst (-1), 1) := by decide +kernel
theorem dX4_used_20 : decode cX4_used 20 = .ok (.if_icmp .ne 7, 3) := by decide +kernel
theorem dX4_used_23 : decode cX4_used 23 = .ok (.iconst 0, 1) := by decide +kernel
theorem dX4_used_24 : decode cX4_used 24 = .ok (.goto 4, 3) := by decide +kernel
theorem dX4_used_27 : decode cX4_used 27 = .ok (.iconst 1, 1) := by decide +kernel
theorem dX4_used_28 : decode cX4_used 28 = .ok (.iadd, 1) := by decide +kernel
theorem dX4_used_29 : decode cX4_used 29 = .ok (.istore_n 1, 1) := by decide +kernel
theorem dX4_used_30 : decode cX4_used 30 = .ok (.iinc 2 1, 3) := by decide +kernel
theorem dX4_used_33 : decode cX4_used 33 = .ok (.goto (-29), 3) := by decide +kernel
theorem dX4_used_36 : decode cX4_used 36 = .ok (.iload_n 1, 1) := by decide +kernel
theorem dX4_used_37 : decode cX4_used 37 = .ok (.ireturn, 1) := by decide +kernel
theorem dX4_setFrames_0 : decode cX4_setFrames 0 = .ok (.aload_n 0, 1) := by decide +kernel
theorem dX4_setFrames_1 : decode cX4_setFrames 1 = .ok (.iconst 0, 1) := by decide +kernel
theorem dX4_setFrames_2 : decode cX4_setFrames 2 = .ok (.putfield 60, 3) := by decide +kernel
theorem dX4_setFrames_5 : decode cX4_setFrames 5 = .ok (.iload_n 1, 1) := by decide +kernel
theorem dX4_setFrames_6 : decode cX4_setFrames 6 = .ok (.iconst 4, 1) := by decide +kernel
theorem dX4_setFrames_7 : decode cX4_setFrames 7 = .ok (.if_icmp .lt 9, 3) := by decide +kernel
theorem dX4_setFrames_10 : decode cX4_setFrames 10 = .ok (.iload_n 1, 1) := by decide +kernel
theorem dX4_setFrames_11 : decode cX4_setFrames 11 = .ok (.bipush 12, 2) := by decide +kernel
theorem dX4_setFrames_13 : decode cX4_setFrames 13 = .ok (.if_icmp .le 9, 3) := by decide +kernel
theorem dX4_setFrames_16 : decode cX4_setFrames 16 = .ok (.aload_n 0, 1) := by decide +kernel
theorem dX4_setFrames_17 : decode cX4_setFrames 17 = .ok (.iconst 1, 1) := by decide +kernel
theorem dX4_setFrames_18 : decode cX4_setFrames 18 = .ok (.invokevirtual 86, 3) := by decide +kernel
theorem dX4_setFrames_21 : decode cX4_setFrames 21 = .ok (.ireturn, 1) := by decide +kernel
theorem dX4_setFrames_22 : decode cX4_setFrames 22 = .ok (.aload_n 0, 1) := by decide +kernel
theorem dX4_setFrames_23 : decode cX4_setFrames 23 = .ok (.invokevirtual 89, 3) := by decide +kernel
theorem dX4_setFrames_26 : decode cX4_setFrames 26 = .ok (.ifCond .le 9, 3) := by decide +kernel
theorem dX4_setFrames_29 : decode cX4_setFrames 29 = .ok (.aload_n 0, 1) := by decide +kernel
theorem dX4_setFrames_30 : decode cX4_setFrames 30 = .ok (.iconst 2, 1) := by decide +kernel
theorem dX4_setFrames_31 : decode cX4_setFrames 31 = .ok (.invokevirtual 86, 3) := by decide +kernel
theorem dX4_setFrames_34 : decode cX4_setFrames 34 = .ok (.ireturn, 1) := by decide +kernel
theorem dX4_setFrames_35 : decode cX4_setFrames 35 = .ok (.aload_n 0, 1) := by decide +kernel
theorem dX4_setFrames_36 : decode cX4_setFrames 36 = .ok (.getfield 13, 3) := by decide +kernel
theorem dX4_setFrames_39 : decode cX4_setFrames 39 = .ok (.istore_n 2, 1) := by decide +kernel
theorem dX4_setFrames_40 : decode cX4_setFrames 40 = .ok (.aload_n 0, 1) := by decide +kernel
theorem dX4_setFrames_41 : decode cX4_setFrames 41 = .ok (.iload_n 1, 1) := by decide +kernel
theorem dX4_setFrames_42 : decode cX4_setFrames 42 = .ok (.putfield 13, 3) := by decide +kernel
theorem dX4_setFrames_45 : decode cX4_setFrames 45 = .ok (.aload_n 0, 1) := by decide +kernel
theorem dX4_setFrames_46 : decode cX4_setFrames 46 = .ok (.iconst 0, 1) := by decide +kernel
theorem dX4_setFrames_47 : decode cX4_setFrames 47 = .ok (.putfield 93, 3) := by decide +kernel
theorem dX4_setFrames_50 : decode cX4_setFrames 50 = .ok (.iload_n 2, 1) := by decide +kernel
theorem dX4_setFrames_51 : decode cX4_setFrames 51 = .ok (.ireturn, 1) := by decide +kernel
theorem dX4_setWindow_0 : decode cX4_setWindow 0 = .ok (.aload_n 0, 1) := by decide +kernel
theorem dX4_setWindow_1 : decode cX4_setWindow 1 = .ok (.iconst 0, 1) := by decide +kernel
theorem dX4_setWindow_2 : decode cX4_setWindow 2 = .ok (.putfield 60, 3) := by decide +kernel
theorem dX4_setWindow_5 : decode cX4_setWindow 5 = .ok (.iload_n 1, 1) := by decide +kernel
theorem dX4_setWindow_6 : decode cX4_setWindow 6 = .ok (.ifCond .lt 9, 3) := by decide +kernel
theorem dX4_setWindow_9 : decode cX4_setWindow 9 = .ok (.iload_n 1, 1) := by decide +kernel
theorem dX4_setWindow_10 : decode cX4_setWindow 10 = .ok (.bipush 50, 2) := by decide +kernel
theorem dX4_setWindow_12 : decode cX4_setWindow 12 = .ok (.if_icmp .le 9, 3) := by decide +kernel
theorem dX4_setWindow_15 : decode cX4_setWindow 15 = .ok (.aload_n 0, 1) := by decide +kernel
theorem dX4_setWindow_16 : decode cX4_setWindow 16 = .ok (.iconst 1, 1) := by decide +kernel
theorem dX4_setWindow_17 : decode cX4_setWindow 17 = .ok (.invokevirtual 86, 3) := by decide +kernel
theorem dX4_setWindow_20 : decode cX4_setWindow 20 = .ok (.ireturn, 1) := by decide +kernel
theorem dX4_setWindow_21 : decode cX4_setWindow 21 = .ok (.aload_n 0, 1) := by decide +kernel
theorem dX4_setWindow_22 : decode cX4_setWindow 22 = .ok (.getfield 7, 3) := by decide +kernel
theorem dX4_setWindow_25 : decode cX4_setWindow 25 = .ok (.istore_n 2, 1) := by decide +kernel
theorem dX4_setWindow_26 : decode cX4_setWindow 26 = .ok (.aload_n 0, 1) := by decide +kernel
theorem dX4_setWindow_27 : decode cX4_setWindow 27 = .ok (.iload_n 1, 1) := by decide +kernel
theorem dX4_setWindow_28 : decode cX4_setWindow 28 = .ok (.putfield 7, 3) := by decide +kernel
theorem dX4_setWindow_31 : decode cX4_setWindow 31 = .ok (.iload_n 2, 1) := by decide +kernel
theorem dX4_setWindow_32 : decode cX4_setWindow 32 = .ok (.ireturn, 1) := by decide +kernel
theorem dX4_isProcess_0 : decode cX4_isProcess 0 = .ok (.iload_n 1, 1) := by decide +kernel
theorem dX4_isProcess_1 : decode cX4_isProcess 1 = .ok (.ifCond .lt 15, 3) := by decide +kernel
theorem dX4_isProcess_4 : decode cX4_isProcess 4 = .ok (.iload_n 1, 1) := by decide +kernel
theorem dX4_isProcess_5 : decode cX4_isProcess 5 = .ok (.aload_n 0, 1) := by decide +kernel
theorem dX4_isProcess_6 : decode cX4_isProcess 6 = .ok (.getfield 67, 3) := by decide +kernel
theorem dX4_isProcess_9 : decode cX4_isProcess 9 = .ok (.if_icmp .ge 7, 3) := by decide +kernel
theorem dX4_isProcess_12 : decode cX4_isProcess 12 = .ok (.iconst 1, 1) := by decide +kernel
theorem dX4_isProcess_13 : decode cX4_isProcess 13 = .ok (.goto 4, 3) := by decide +kernel
theorem dX4_isProcess_16 : decode cX4_isProcess 16 = .ok (.iconst 0, 1) := by decide +kernel
theorem dX4_isProcess_17 : decode cX4_isProcess 17 = .ok (.ireturn, 1) := by decide +kernel
theorem dX4_isPage_0 : decode cX4_isPage 0 = .ok (.iload_n 0, 1) := by decide +kernel
theorem dX4_isPage_1 : decode cX4_isPage 1 = .ok (.ifCond .lt 13, 3) := by decide +kernel
theorem dX4_isPage_4 : decode cX4_isPage 4 = .ok (.iload_n 0, 1) := by decide +kernel
theorem dX4_isPage_5 : decode cX4_isPage 5 = .ok (.bipush 16, 2) := by decide +kernel
theorem dX4_isPage_7 : decode cX4_isPage 7 = .ok (.if_icmp .ge 7, 3) := by decide +kernel
theorem dX4_isPage_10 : decode cX4_isPage 10 = .ok (.iconst 1, 1) := by decide +kernel
theorem dX4_isPage_11 : decode cX4_isPage 11 = .ok (.goto 4, 3) := by decide +kernel
theorem dX4_isPage_14 : decode cX4_isPage 14 = .ok (.iconst 0, 1) := by decide +kernel
theorem dX4_isPage_15 : decode cX4_isPage 15 = .ok (.ireturn, 1) := by decide +kernel
theorem dX4_start_0 : decode cX4_start 0 = .ok (.aload_n 0, 1) := by decide +kernel
theorem dX4_start_1 : decode cX4_start 1 = .ok (.iconst 0, 1) := by decide +kernel
theorem dX4_start_2 : decode cX4_start 2 = .ok (.putfield 60, 3) := by decide +kernel
theorem dX4_start_5 : decode cX4_start 5 = .ok (.aload_n 0, 1) := by decide +kernel
theorem dX4_start_6 : decode cX4_start 6 = .ok (.getfield 67, 3) := by decide +kernel
theorem dX4_start_9 : decode cX4_start 9 = .ok (.bipush 10, 2) := by decide +kernel
theorem dX4_start_11 : decode cX4_start 11 = .ok (.if_icmp .ne 9, 3) := by decide +kernel
theorem dX4_start_14 : decode cX4_start 14 = .ok (.aload_n 0, 1) := by decide +kernel
theorem dX4_start_15 : decode cX4_start 15 = .ok (.iconst 1, 1) := by decide +kernel
theorem dX4_start_16 : decode cX4_start 16 = .ok (.invokevirtual 86, 3) := by decide +kernel
theorem dX4_start_19 : decode cX4_start 19 = .ok (.ireturn, 1) := by decide +kernel
theorem dX4_start_20 : decode cX4_start 20 = .ok (.aload_n 0, 1) := by decide +kernel
theorem dX4_start_21 : decode cX4_start 21 = .ok (.getfield 39, 3) := by decide +kernel
theorem dX4_start_24 : decode cX4_start 24 = .ok (.aload_n 0, 1) := by decide +kernel
theorem dX4_start_25 : decode cX4_start 25 = .ok (.getfield 67, 3) := by decide +kernel
theorem dX4_start_28 : decode cX4_start 28 = .ok (.iconst 1, 1) := by decide +kernel
theorem dX4_start_29 : decode cX4_start 29 = .ok (.bastore, 1) := by decide +kernel
theorem dX4_start_30 : decode cX4_start 30 = .ok (.iconst 0, 1) := by decide +kernel
theorem dX4_start_31 : decode cX4_start 31 = .ok (.istore_n 1, 1) := by decide +kernel
theorem dX4_start_32 : decode cX4_start 32 = .ok (.iload_n 1, 1) := by decide +kernel
theorem dX4_start_33 : decode cX4_start 33 = .ok (.bipush 16, 2) := by decide +kernel
theorem dX4_start_35 : decode cX4_start 35 = .ok (.if_icmp .ge 23, 3) := by decide +kernel
theorem dX4_start_38 : decode cX4_start 38 = .ok (.aload_n 0, 1) := by decide +kernel
theorem dX4_start_39 : decode cX4_start 39 = .ok (.getfield 42, 3) := by decide +kernel
theorem dX4_start_42 : decode cX4_start 42 = .ok (.aload_n 0, 1) := by decide +kernel
theorem dX4_start_43 : decode cX4_start 43 = .ok (.getfield 67, 3) := by decide +kernel
theorem dX4_start_46 : decode cX4_start 46 = .ok (.iload_n 1, 1) := by decide +kernel
theorem dX4_start_47 : decode cX4_start 47 = .ok (.invokestatic 96, 3) := by decide +kernel
theorem dX4_start_50 : decode cX4_start 50 = .ok (.iconst 0, 1) := by decide +kernel
theorem dX4_start_51 : decode cX4_start 51 = .ok (.iastore, 1) := by decide +kernel
theorem dX4_start_52 : decode cX4_start 52 = .ok (.iinc 1 1, 3) := by decide +kernel
theorem dX4_start_55 : decode cX4_start 55 = .ok (.goto (-23), 3) := by decide +kernel
theorem dX4_start_58 : decode cX4_start 58 = .ok (.aload_n 0, 1) := by decide +kernel
theorem dX4_start_59 : decode cX4_start 59 = .ok (.dup, 1) := by decide +kernel
theorem dX4_start_60 : decode cX4_start 60 = .ok (.getfield 67, 3) := by decide +kernel
theorem dX4_start_63 : decode cX4_start 63 = .ok (.iconst 1, 1) := by decide +kernel
theorem dX4_start_64 : decode cX4_start 64 = .ok (.iadd, 1) := by decide +kernel
theorem dX4_start_65 : decode cX4_start 65 = .ok (.putfield 67, 3) := by decide +kernel
theorem dX4_start_68 : decode cX4_start 68 = .ok (.aload_n 0, 1) := by decide +kernel
theorem dX4_start_69 : decode cX4_start 69 = .ok (.getfield 67, 3) := by decide +kernel
theorem dX4_start_72 : decode cX4_start 72 = .ok (.iconst 1, 1) := by decide +kernel
theorem dX4_start_73 : decode cX4_start 73 = .ok (.isub, 1) := by decide +kernel
theorem dX4_start_74 : decode cX4_start 74 = .ok (.ireturn, 1) := by decide +kernel
theorem dX4_fork_0 : decode cX4_fork 0 = .ok (.aload_n 0, 1) := by decide +kernel
theorem dX4_fork_1 : decode cX4_fork 1 = .ok (.aload_n 0, 1) := by decide +kernel
theorem dX4_fork_2 : decode cX4_fork 2 = .ok (.iload_n 1, 1) := by decide +kernel
theorem dX4_fork_3 : decode cX4_fork 3 = .ok (.invokevirtual 100, 3) := by decide +kernel
theorem dX4_fork_6 : decode cX4_fork 6 = .ok (.ifCond .ne 7, 3) := by decide +kernel
theorem dX4_fork_9 : decode cX4_fork 9 = .ok (.iconst 1, 1) := by decide +kernel
theorem dX4_fork_10 : decode cX4_fork 10 = .ok (.goto 30, 3) := by decide +kernel
theorem dX4_fork_13 : decode cX4_fork 13 = .ok (.aload_n 0, 1) := by decide +kernel
theorem dX4_fork_14 : decode cX4_fork 14 = .ok (.getfield 39, 3) := by decide +kernel
theorem dX4_fork_17 : decode cX4_fork 17 = .ok (.iload_n 1, 1) := by decide +kernel
theorem dX4_fork_18 : decode cX4_fork 18 = .ok (.baload, 1) := by decide +kernel
theorem dX4_fork_19 : decode cX4_fork 19 = .ok (.ifCond .ne 7, 3) := by decide +kernel
theorem dX4_fork_22 : decode cX4_fork 22 = .ok (.iconst 2, 1) := by decide +kernel
theorem dX4_fork_23 : decode cX4_fork 23 = .ok (.goto 17, 3) := by decide +kernel
theorem dX4_fork_26 : decode cX4_fork 26 = .ok (.aload_n 0, 1) := by decide +kernel
theorem dX4_fork_27 : decode cX4_fork 27 = .ok (.getfield 67, 3) := by decide +kernel
theorem dX4_fork_30 : decode cX4_fork 30 = .ok (.bipush 10, 2) := by decide +kernel
theorem dX4_fork_32 : decode cX4_fork 32 = .ok (.if_icmp .ne 7, 3) := by decide +kernel
theorem dX4_fork_35 : decode cX4_fork 35 = .ok (.iconst 3, 1) := by decide +kernel
theorem dX4_fork_36 : decode cX4_fork 36 = .ok (.goto 4, 3) := by decide +kernel
theorem dX4_fork_39 : decode cX4_fork 39 = .ok (.iconst 0, 1) := by decide +kernel
theorem dX4_fork_40 : decode cX4_fork 40 = .ok (.putfield 60, 3) := by decide +kernel
theorem dX4_fork_43 : decode cX4_fork 43 = .ok (.aload_n 0, 1) := by decide +kernel
theorem dX4_fork_44 : decode cX4_fork 44 = .ok (.getfield 60, 3) := by decide +kernel
theorem dX4_fork_47 : decode cX4_fork 47 = .ok (.ifCond .le 5, 3) := by decide +kernel
theorem dX4_fork_50 : decode cX4_fork 50 = .ok (.iconst 0, 1) := by decide +kernel
theorem dX4_fork_51 : decode cX4_fork 51 = .ok (.ireturn, 1) := by decide +kernel
theorem dX4_fork_52 : decode cX4_fork 52 = .ok (.aload_n 0, 1) := by decide +kernel
theorem dX4_fork_53 : decode cX4_fork 53 = .ok (.invokevirtual 103, 3) := by decide +kernel
theorem dX4_fork_56 : decode cX4_fork 56 = .ok (.istore_n 2, 1) := by decide +kernel
theorem dX4_fork_57 : decode cX4_fork 57 = .ok (.iconst 0, 1) := by decide +kernel
theorem dX4_fork_58 : decode cX4_fork 58 = .ok (.istore_n 3, 1) := by decide +kernel
theorem dX4_fork_59 : decode cX4_fork 59 = .ok (.iload_n 3, 1) := by decide +kernel
theorem dX4_fork_60 : decode cX4_fork 60 = .ok (.bipush 16, 2) := by decide +kernel
theorem dX4_fork_62 : decode cX4_fork 62 = .ok (.if_icmp .ge 49, 3) := by decide +kernel
theorem dX4_fork_65 : decode cX4_fork 65 = .ok (.aload_n 0, 1) := by decide +kernel
theorem dX4_fork_66 : decode cX4_fork 66 = .ok (.getfield 42, 3) := by decide +kernel
theorem dX4_fork_69 : decode cX4_fork 69 = .ok (.iload_n 2, 1) := by decide +kernel
theorem dX4_fork_70 : decode cX4_fork 70 = .ok (.iload_n 3, 1) := by decide +kernel
theorem dX4_fork_71 : decode cX4_fork 71 = .ok (.invokestatic 96, 3) := by decide +kernel
theorem dX4_fork_74 : decode cX4_fork 74 = .ok (.aload_n 0, 1) := by decide +kernel
theorem dX4_fork_75 : decode cX4_fork 75 = .ok (.getfield 42, 3) := by decide +kernel
theorem dX4_fork_78 : decode cX4_fork 78 = .ok (.iload_n 1, 1) := by decide +kernel
theorem dX4_fork_79 : decode cX4_fork 79 = .ok (.iload_n 3, 1) := by decide +kernel
theorem dX4_fork_80 : decode cX4_fork 80 = .ok (.invokestatic 96, 3) := by decide +kernel
theorem dX4_fork_83 : decode cX4_fork 83 = .ok (.iaload, 1) := by decide +kernel
theorem dX4_fork_84 : decode cX4_fork 84 = .ok (.iastore, 1) := by decide +kernel
theorem dX4_fork_85 : decode cX4_fork 85 = .ok (.aload_n 0, 1) := by decide +kernel
theorem dX4_fork_86 : decode cX4_fork 86 = .ok (.getfield 45, 3) := by decide +kernel
theorem dX4_fork_89 : decode cX4_fork 89 = .ok (.iload_n 2, 1) := by decide +kernel
theorem dX4_fork_90 : decode cX4_fork 90 = .ok (.iload_n 3, 1) := by decide +kernel
theorem dX4_fork_91 : decode cX4_fork 91 = .ok (.invokestatic 96, 3) := by decide +kernel
theorem dX4_fork_94 : decode cX4_fork 94 = .ok (.aload_n 0, 1) := by decide +kernel
theorem dX4_fork_95 : decode cX4_fork 95 = .ok (.getfield 45, 3) := by decide +kernel
theorem dX4_fork_98 : decode cX4_fork 98 = .ok (.iload_n 1, 1) := by decide +kernel
theorem dX4_fork_99 : decode cX4_fork 99 = .ok (.iload_n 3, 1) := by decide +kernel
theorem dX4_fork_100 : decode cX4_fork 100 = .ok (.invokestatic 96, 3) := by decide +kernel
theorem dX4_fork_103 : decode cX4_fork 103 = .ok (.iaload, 1) := by decide +kernel
theorem dX4_fork_104 : decode cX4_fork 104 = .ok (.iastore, 1) := by decide +kernel
theorem dX4_fork_105 : decode cX4_fork 105 = .ok (.iinc 3 1, 3) := by decide +kernel
theorem dX4_fork_108 : decode cX4_fork 108 = .ok (.goto (-49), 3) := by decide +kernel
theorem dX4_fork_111 : decode cX4_fork 111 = .ok (.iload_n 2, 1) := by decide +kernel
theorem dX4_fork_112 : decode cX4_fork 112 = .ok (.ireturn, 1) := by decide +kernel
theorem dX4_clear_0 : decode cX4_clear 0 = .ok (.aload_n 0, 1) := by decide +kernel
theorem dX4_clear_1 : decode cX4_clear 1 = .ok (.getfield 42, 3) := by decide +kernel
theorem dX4_clear_4 : decode cX4_clear 4 = .ok (.iload_n 1, 1) := by decide +kernel
theorem dX4_clear_5 : decode cX4_clear 5 = .ok (.iload_n 2, 1) := by decide +kernel
theorem dX4_clear_6 : decode cX4_clear 6 = .ok (.invokestatic 96, 3) := by decide +kernel
theorem dX4_clear_9 : decode cX4_clear 9 = .ok (.iconst 0, 1) := by decide +kernel
theorem dX4_clear_10 : decode cX4_clear 10 = .ok (.iastore, 1) := by decide +kernel
theorem dX4_clear_11 : decode cX4_clear 11 = .ok (.aload_n 0, 1) := by decide +kernel
theorem dX4_clear_12 : decode cX4_clear 12 = .ok (.aload_n 0, 1) := by decide +kernel
theorem dX4_clear_13 : decode cX4_clear 13 = .ok (.getfield 45, 3) := by decide +kernel
theorem dX4_clear_16 : decode cX4_clear 16 = .ok (.iload_n 1, 1) := by decide +kernel
theorem dX4_clear_17 : decode cX4_clear 17 = .ok (.iload_n 2, 1) := by decide +kernel
theorem dX4_clear_18 : decode cX4_clear 18 = .ok (.invokestatic 96, 3) := by decide +kernel
theorem dX4_clear_21 : decode cX4_clear 21 = .ok (.iaload, 1) := by decide +kernel
theorem dX4_clear_22 : decode cX4_clear 22 = .ok (.invokevirtual 106, 3) := by decide +kernel
theorem dX4_clear_25 : decode cX4_clear 25 = .ok (.ireturn, 1) := by decide +kernel
theorem dX4_exit_0 : decode cX4_exit 0 = .ok (.aload_n 0, 1) := by decide +kernel
theorem dX4_exit_1 : decode cX4_exit 1 = .ok (.aload_n 0, 1) := by decide +kernel
theorem dX4_exit_2 : decode cX4_exit 2 = .ok (.iload_n 1, 1) := by decide +kernel
theorem dX4_exit_3 : decode cX4_exit 3 = .ok (.invokevirtual 100, 3) := by decide +kernel
theorem dX4_exit_6 : decode cX4_exit 6 = .ok (.ifCond .ne 7, 3) := by decide +kernel
theorem dX4_exit_9 : decode cX4_exit 9 = .ok (.iconst 1, 1) := by decide +kernel
theorem dX4_exit_10 : decode cX4_exit 10 = .ok (.goto 17, 3) := by decide +kernel
theorem dX4_exit_13 : decode cX4_exit 13 = .ok (.aload_n 0, 1) := by decide +kernel
theorem dX4_exit_14 : decode cX4_exit 14 = .ok (.getfield 39, 3) := by decide +kernel
theorem dX4_exit_17 : decode cX4_exit 17 = .ok (.iload_n 1, 1) := by decide +kernel
theorem dX4_exit_18 : decode cX4_exit 18 = .ok (.baload, 1) := by decide +kernel
theorem dX4_exit_19 : decode cX4_exit 19 = .ok (.ifCond .ne 7, 3) := by decide +kernel
theorem dX4_exit_22 : decode cX4_exit 22 = .ok (.iconst 2, 1) := by decide +kernel
theorem dX4_exit_23 : decode cX4_exit 23 = .ok (.goto 4, 3) := by decide +kernel
theorem dX4_exit_26 : decode cX4_exit 26 = .ok (.iconst 0, 1) := by decide +kernel
theorem dX4_exit_27 : decode cX4_exit 27 = .ok (.putfield 60, 3) := by decide +kernel
theorem dX4_exit_30 : decode cX4_exit 30 = .ok (.aload_n 0, 1) := by decide +kernel
theorem dX4_exit_31 : decode cX4_exit 31 = .ok (.getfield 60, 3) := by decide +kernel
theorem dX4_exit_34 : decode cX4_exit 34 = .ok (.ifCond .le 5, 3) := by decide +kernel
theorem dX4_exit_37 : decode cX4_exit 37 = .ok (.iconst 0, 1) := by decide +kernel
theorem dX4_exit_38 : decode cX4_exit 38 = .ok (.ireturn, 1) := by decide +kernel
theorem dX4_exit_39 : decode cX4_exit 39 = .ok (.aload_n 0, 1) := by decide +kernel
theorem dX4_exit_40 : decode cX4_exit 40 = .ok (.getfield 39, 3) := by decide +kernel
theorem dX4_exit_43 : decode cX4_exit 43 = .ok (.iload_n 1, 1) := by decide +kernel
theorem dX4_exit_44 : decode cX4_exit 44 = .ok (.iconst 0, 1) := by decide +kernel
theorem dX4_exit_45 : decode cX4_exit 45 = .ok (.bastore, 1) := by decide +kernel
theorem dX4_exit_46 : decode cX4_exit 46 = .ok (.iconst 0, 1) := by decide +kernel
theorem dX4_exit_47 : decode cX4_exit 47 = .ok (.istore_n 2, 1) := by decide +kernel
theorem dX4_exit_48 : decode cX4_exit 48 = .ok (.iconst 0, 1) := by decide +kernel
theorem dX4_exit_49 : decode cX4_exit 49 = .ok (.istore_n 3, 1) := by decide +kernel
theorem dX4_exit_50 : decode cX4_exit 50 = .ok (.iload_n 3, 1) := by decide +kernel
theorem dX4_exit_51 : decode cX4_exit 51 = .ok (.bipush 16, 2) := by decide +kernel
theorem dX4_exit_53 : decode cX4_exit 53 = .ok (.if_icmp .ge 39, 3) := by decide +kernel
theorem dX4_exit_56 : decode cX4_exit 56 = .ok (.iload_n 2, 1) := by decide +kernel
theorem dX4_exit_57 : decode cX4_exit 57 = .ok (.aload_n 0, 1) := by decide +kernel
theorem dX4_exit_58 : decode cX4_exit 58 = .ok (.getfield 42, 3) := by decide +kernel
theorem dX4_exit_61 : decode cX4_exit 61 = .ok (.iload_n 1, 1) := by decide +kernel
theorem dX4_exit_62 : decode cX4_exit 62 = .ok (.iload_n 3, 1) := by decide +kernel
theorem dX4_exit_63 : decode cX4_exit 63 = .ok (.invokestatic 96, 3) := by decide +kernel
theorem dX4_exit_66 : decode cX4_exit 66 = .ok (.iaload, 1) := by decide +kernel
theorem dX4_exit_67 : decode cX4_exit 67 = .ok (.ifCond .le 16, 3) := by decide +kernel
theorem dX4_exit_70 : decode cX4_exit 70 = .ok (.aload_n 0, 1) := by decide +kernel
theorem dX4_exit_71 : decode cX4_exit 71 = .ok (.iload_n 1, 1) := by decide +kernel
theorem dX4_exit_72 : decode cX4_exit 72 = .ok (.iload_n 3, 1) := by decide +kernel
theorem dX4_exit_73 : decode cX4_exit 73 = .ok (.invokevirtual 109, 3) := by decide +kernel
theorem dX4_exit_76 : decode cX4_exit 76 = .ok (.ifCond .eq 7, 3) := by decide +kernel
theorem dX4_exit_79 : decode cX4_exit 79 = .ok (.iconst 1, 1) := by decide +kernel
theorem dX4_exit_80 : decode cX4_exit 80 = .ok (.goto 4, 3) := by decide +kernel
theorem dX4_exit_83 : decode cX4_exit 83 = .ok (.iconst 0, 1) := by decide +kernel
theorem dX4_exit_84 : decode cX4_exit 84 = .ok (.iadd, 1) := by decide +kernel
theorem dX4_exit_85 : decode cX4_exit 85 = .ok (.istore_n 2, 1) := by decide +kernel
theorem dX4_exit_86 : decode cX4_exit 86 = .ok (.iinc 3 1, 3) := by decide +kernel
theorem dX4_exit_89 : decode cX4_exit 89 = .ok (.goto (-39), 3) := by decide +kernel
theorem dX4_exit_92 : decode cX4_exit 92 = .ok (.iload_n 2, 1) := by decide +kernel
theorem dX4_exit_93 : decode cX4_exit 93 = .ok (.ireturn, 1) := by decide +kernel
theorem dX4_mapped_0 : decode cX4_mapped 0 = .ok (.iconst 0, 1) := by decide +kernel
theorem dX4_mapped_1 : decode cX4_mapped 1 = .ok (.istore_n 2, 1) := by decide +kernel
theorem dX4_mapped_2 : decode cX4_mapped 2 = .ok (.iconst 0, 1) := by decide +kernel
theorem dX4_mapped_3 : decode cX4_mapped 3 = .ok (.istore_n 3, 1) := by decide +kernel
theorem dX4_mapped_4 : decode cX4_mapped 4 = .ok (.iload_n 3, 1) := by decide +kernel
theorem dX4_mapped_5 : decode cX4_mapped 5 = .ok (.bipush 16, 2) := by decide +kernel
theorem dX4_mapped_7 : decode cX4_mapped 7 = .ok (.if_icmp .ge 30, 3) := by decide +kernel
theorem dX4_mapped_10 : decode cX4_mapped 10 = .ok (.iload_n 2, 1) := by decide +kernel
theorem dX4_mapped_11 : decode cX4_mapped 11 = .ok (.aload_n 0, 1) := by decide +kernel
theorem dX4_mapped_12 : decode cX4_mapped 12 = .ok (.getfield 42, 3) := by decide +kernel
theorem dX4_mapped_15 : decode cX4_mapped 15 = .ok (.iload_n 1, 1) := by decide +kernel
theorem dX4_mapped_16 : decode cX4_mapped 16 = .ok (.iload_n 3, 1) := by decide +kernel
theorem dX4_mapped_17 : decode cX4_mapped 17 = .ok (.invokestatic 96, 3) := by decide +kernel
theorem dX4_mapped_20 : decode cX4_mapped 20 = .ok (.iaload, 1) := by decide +kernel
theorem dX4_mapped_21 : decode cX4_mapped 21 = .ok (.ifCond .le 7, 3) := by decide +kernel
theorem dX4_mapped_24 : decode cX4_mapped 24 = .ok (.iconst 1, 1) := by decide +kernel
theorem dX4_mapped_25 : decode cX4_mapped 25 = .ok (.goto 4, 3) := by decide +kernel
theorem dX4_mapped_28 : decode cX4_mapped 28 = .ok (.iconst 0, 1) := by decide +kernel
theorem dX4_mapped_29 : decode cX4_mapped 29 = .ok (.iadd, 1) := by decide +kernel
theorem dX4_mapped_30 : decode cX4_mapped 30 = .ok (.istore_n 2, 1) := by decide +kernel
theorem dX4_mapped_31 : decode cX4_mapped 31 = .ok (.iinc 3 1, 3) := by decide +kernel
theorem dX4_mapped_34 : decode cX4_mapped 34 = .ok (.goto (-30), 3) := by decide +kernel
theorem dX4_mapped_37 : decode cX4_mapped 37 = .ok (.iload_n 2, 1) := by decide +kernel
theorem dX4_mapped_38 : decode cX4_mapped 38 = .ok (.ireturn, 1) := by decide +kernel
theorem dX4_canMap_0 : decode cX4_canMap 0 = .ok (.aload_n 0, 1) := by decide +kernel
theorem dX4_canMap_1 : decode cX4_canMap 1 = .ok (.aload_n 0, 1) := by decide +kernel
theorem dX4_canMap_2 : decode cX4_canMap 2 = .ok (.iload_n 1, 1) := by decide +kernel
theorem dX4_canMap_3 : decode cX4_canMap 3 = .ok (.invokevirtual 100, 3) := by decide +kernel
theorem dX4_canMap_6 : decode cX4_canMap 6 = .ok (.ifCond .eq 14, 3) := by decide +kernel
theorem dX4_canMap_9 : decode cX4_canMap 9 = .ok (.iload_n 2, 1) := by decide +kernel
theorem dX4_canMap_10 : decode cX4_canMap 10 = .ok (.invokestatic 113, 3) := by decide +kernel
theorem dX4_canMap_13 : decode cX4_canMap 13 = .ok (.ifCond .eq 7, 3) := by decide +kernel
theorem dX4_canMap_16 : decode cX4_canMap 16 = .ok (.iload_n 3, 1) := by decide +kernel
theorem dX4_canMap_17 : decode cX4_canMap 17 = .ok (.ifCond .ne 7, 3) := by decide +kernel
theorem dX4_canMap_20 : decode cX4_canMap 20 = .ok (.iconst 1, 1) := by decide +kernel
theorem dX4_canMap_21 : decode cX4_canMap 21 = .ok (.goto 34, 3) := by decide +kernel
theorem dX4_canMap_24 : decode cX4_canMap 24 = .ok (.aload_n 0, 1) := by decide +kernel
theorem dX4_canMap_25 : decode cX4_canMap 25 = .ok (.getfield 39, 3) := by decide +kernel
theorem dX4_canMap_28 : decode cX4_canMap 28 = .ok (.iload_n 1, 1) := by decide +kernel
theorem dX4_canMap_29 : decode cX4_canMap 29 = .ok (.baload, 1) := by decide +kernel
theorem dX4_canMap_30 : decode cX4_canMap 30 = .ok (.ifCond .ne 7, 3) := by decide +kernel
theorem dX4_canMap_33 : decode cX4_canMap 33 = .ok (.iconst 2, 1) := by decide +kernel
theorem dX4_canMap_34 : decode cX4_canMap 34 = .ok (.goto 21, 3) := by decide +kernel
theorem dX4_canMap_37 : decode cX4_canMap 37 = .ok (.aload_n 0, 1) := by decide +kernel
theorem dX4_canMap_38 : decode cX4_canMap 38 = .ok (.getfield 42, 3) := by decide +kernel
theorem dX4_canMap_41 : decode cX4_canMap 41 = .ok (.iload_n 1, 1) := by decide +kernel
theorem dX4_canMap_42 : decode cX4_canMap 42 = .ok (.iload_n 2, 1) := by decide +kernel
theorem dX4_canMap_43 : decode cX4_canMap 43 = .ok (.invokestatic 96, 3) := by decide +kernel
theorem dX4_canMap_46 : decode cX4_canMap 46 = .ok (.iaload, 1) := by decide +kernel
theorem dX4_canMap_47 : decode cX4_canMap 47 = .ok (.ifCond .le 7, 3) := by decide +kernel
theorem dX4_canMap_50 : decode cX4_canMap 50 = .ok (.iconst 3, 1) := by decide +kernel
theorem dX4_canMap_51 : decode cX4_canMap 51 = .ok (.goto 4, 3) := by decide +kernel
theorem dX4_canMap_54 : decode cX4_canMap 54 = .ok (.iconst 0, 1) := by decide +kernel
theorem dX4_canMap_55 : decode cX4_canMap 55 = .ok (.putfield 60, 3) := by decide +kernel
theorem dX4_canMap_58 : decode cX4_canMap 58 = .ok (.aload_n 0, 1) := by decide +kernel
theorem dX4_canMap_59 : decode cX4_canMap 59 = .ok (.getfield 60, 3) := by decide +kernel
theorem dX4_canMap_62 : decode cX4_canMap 62 = .ok (.ifCond .ne 7, 3) := by decide +kernel
theorem dX4_canMap_65 : decode cX4_canMap 65 = .ok (.iconst 1, 1) := by decide +kernel
theorem dX4_canMap_66 : decode cX4_canMap 66 = .ok (.goto 4, 3) := by decide +kernel
theorem dX4_canMap_69 : decode cX4_canMap 69 = .ok (.iconst 0, 1) := by decide +kernel
theorem dX4_canMap_70 : decode cX4_canMap 70 = .ok (.ireturn, 1) := by decide +kernel
theorem dX4_map_0 : decode cX4_map 0 = .ok (.aload_n 0, 1) := by decide +kernel
theorem dX4_map_1 : decode cX4_map 1 = .ok (.iload_n 1, 1) := by decide +kernel
theorem dX4_map_2 : decode cX4_map 2 = .ok (.iload_n 2, 1) := by decide +kernel
theorem dX4_map_3 : decode cX4_map 3 = .ok (.iconst 1, 1) := by decide +kernel
theorem dX4_map_4 : decode cX4_map 4 = .ok (.invokevirtual 116, 3) := by decide +kernel
theorem dX4_map_7 : decode cX4_map 7 = .ok (.ifCond .ne 5, 3) := by decide +kernel
theorem dX4_map_10 : decode cX4_map 10 = .ok (.iconst 0, 1) := by decide +kernel
theorem dX4_map_11 : decode cX4_map 11 = .ok (.ireturn, 1) := by decide +kernel
theorem dX4_map_12 : decode cX4_map 12 = .ok (.aload_n 0, 1) := by decide +kernel
theorem dX4_map_13 : decode cX4_map 13 = .ok (.getfield 42, 3) := by decide +kernel
theorem dX4_map_16 : decode cX4_map 16 = .ok (.iload_n 1, 1) := by decide +kernel
theorem dX4_map_17 : decode cX4_map 17 = .ok (.iload_n 2, 1) := by decide +kernel
theorem dX4_map_18 : decode cX4_map 18 = .ok (.invokestatic 96, 3) := by decide +kernel
theorem dX4_map_21 : decode cX4_map 21 = .ok (.iconst 1, 1) := by decide +kernel
theorem dX4_map_22 : decode cX4_map 22 = .ok (.iastore, 1) := by decide +kernel
theorem dX4_map_23 : decode cX4_map 23 = .ok (.aload_n 0, 1) := by decide +kernel
theorem dX4_map_24 : decode cX4_map 24 = .ok (.getfield 45, 3) := by decide +kernel
theorem dX4_map_27 : decode cX4_map 27 = .ok (.iload_n 1, 1) := by decide +kernel
theorem dX4_map_28 : decode cX4_map 28 = .ok (.iload_n 2, 1) := by decide +kernel
theorem dX4_map_29 : decode cX4_map 29 = .ok (.invokestatic 96, 3) := by decide +kernel
theorem dX4_map_32 : decode cX4_map 32 = .ok (.aload_n 0, 1) := by decide +kernel
theorem dX4_map_33 : decode cX4_map 33 = .ok (.invokevirtual 120, 3) := by decide +kernel
theorem dX4_map_36 : decode cX4_map 36 = .ok (.iastore, 1) := by decide +kernel
theorem dX4_map_37 : decode cX4_map 37 = .ok (.aload_n 0, 1) := by decide +kernel
theorem dX4_map_38 : decode cX4_map 38 = .ok (.iload_n 1, 1) := by decide +kernel
theorem dX4_map_39 : decode cX4_map 39 = .ok (.invokevirtual 123, 3) := by decide +kernel
theorem dX4_map_42 : decode cX4_map 42 = .ok (.ireturn, 1) := by decide +kernel
theorem dX4_createSegment_0 : decode cX4_createSegment 0 = .ok (.aload_n 0, 1) := by decide +kernel
theorem dX4_createSegment_1 : decode cX4_createSegment 1 = .ok (.iconst 0, 1) := by decide +kernel
theorem dX4_createSegment_2 : decode cX4_createSegment 2 = .ok (.putfield 60, 3) := by decide +kernel
theorem dX4_createSegment_5 : decode cX4_createSegment 5 = .ok (.iload_n 1, 1) := by decide +kernel
theorem dX4_createSegment_6 : decode cX4_createSegment 6 = .ok (.iconst 1, 1) := by decide +kernel
theorem dX4_createSegment_7 : decode cX4_createSegment 7 = .ok (.if_icmp .lt 9, 3) := by decide +kernel
theorem dX4_createSegment_10 : decode cX4_createSegment 10 = .ok (.iload_n 1, 1) := by decide +kernel
theorem dX4_createSegment_11 : decode cX4_createSegment 11 = .ok (.bipush 6, 2) := by decide +kernel
theorem dX4_createSegment_13 : decode cX4_createSegment 13 = .ok (.if_icmp .le 9, 3) := by decide +kernel
theorem dX4_createSegment_16 : decode cX4_createSegment 16 = .ok (.aload_n 0, 1) := by decide +kernel
theorem dX4_createSegment_17 : decode cX4_createSegment 17 = .ok (.iconst 1, 1) := by decide +kernel
theorem dX4_createSegment_18 : decode cX4_createSegment 18 = .ok (.invokevirtual 86, 3) := by decide +kernel
theorem dX4_createSegment_21 : decode cX4_createSegment 21 = .ok (.ireturn, 1) := by decide +kernel
theorem dX4_createSegment_22 : decode cX4_createSegment 22 = .ok (.aload_n 0, 1) := by decide +kernel
theorem dX4_createSegment_23 : decode cX4_createSegment 23 = .ok (.getfield 73, 3) := by decide +kernel
theorem dX4_createSegment_26 : decode cX4_createSegment 26 = .ok (.iconst 4, 1) := by decide +kernel
theorem dX4_createSegment_27 : decode cX4_createSegment 27 = .ok (.if_icmp .ne 9, 3) := by decide +kernel
theorem dX4_createSegment_30 : decode cX4_createSegment 30 = .ok (.aload_n 0, 1) := by decide +kernel
theorem dX4_createSegment_31 : decode cX4_createSegment 31 = .ok (.iconst 2, 1) := by decide +kernel
theorem dX4_createSegment_32 : decode cX4_createSegment 32 = .ok (.invokevirtual 86, 3) := by decide +kernel
theorem dX4_createSegment_35 : decode cX4_createSegment 35 = .ok (.ireturn, 1) := by decide +kernel
theorem dX4_createSegment_36 : decode cX4_createSegment 36 = .ok (.iconst 0, 1) := by decide +kernel
theorem dX4_createSegment_37 : decode cX4_createSegment 37 = .ok (.istore_n 2, 1) := by decide +kernel
theorem dX4_createSegment_38 : decode cX4_createSegment 38 = .ok (.iload_n 2, 1) := by decide +kernel
theorem dX4_createSegment_39 : decode cX4_createSegment 39 = .ok (.iload_n 1, 1) := by decide +kernel
theorem dX4_createSegment_40 : decode cX4_createSegment 40 = .ok (.if_icmp .ge 27, 3) := by decide +kernel
theorem dX4_createSegment_43 : decode cX4_createSegment 43 = .ok (.aload_n 0, 1) := by decide +kernel
theorem dX4_createSegment_44 : decode cX4_createSegment 44 = .ok (.getfield 51, 3) := by decide +kernel
theorem dX4_createSegment_47 : decode cX4_createSegment 47 = .ok (.bipush 6, 2) := by decide +kernel
theorem dX4_createSegment_49 : decode cX4_createSegment 49 = .ok (.aload_n 0, 1) := by decide +kernel
theorem dX4_createSegment_50 : decode cX4_createSegment 50 = .ok (.getfield 73, 3) := by decide +kernel
theorem dX4_createSegment_53 : decode cX4_createSegment 53 = .ok (.imul, 1) := by decide +kernel
theorem dX4_createSegment_54 : decode cX4_createSegment 54 = .ok (.iload_n 2, 1) := by decide +kernel
theorem dX4_createSegment_55 : decode cX4_createSegment 55 = .ok (.iadd, 1) := by decide +kernel
theorem dX4_createSegment_56 : decode cX4_createSegment 56 = .ok (.aload_n 0, 1) := by decide +kernel
theorem dX4_createSegment_57 : decode cX4_createSegment 57 = .ok (.invokevirtual 120, 3) := by decide +kernel
theorem dX4_createSegment_60 : decode cX4_createSegment 60 = .ok (.iastore, 1) := by decide +kernel
theorem dX4_createSegment_61 : decode cX4_createSegment 61 = .ok (.iinc 2 1, 3) := by decide +kernel
theorem dX4_createSegment_64 : decode cX4_createSegment 64 = .ok (.goto (-26), 3) := by decide +kernel
theorem dX4_createSegment_67 : decode cX4_createSegment 67 = .ok (.aload_n 0, 1) := by decide +kernel
theorem dX4_createSegment_68 : decode cX4_createSegment 68 = .ok (.getfield 48, 3) := by decide +kernel
theorem dX4_createSegment_71 : decode cX4_createSegment 71 = .ok (.aload_n 0, 1) := by decide +kernel
theorem dX4_createSegment_72 : decode cX4_createSegment 72 = .ok (.getfield 73, 3) := by decide +kernel
theorem dX4_createSegment_75 : decode cX4_createSegment 75 = .ok (.iload_n 1, 1) := by decide +kernel
theorem dX4_createSegment_76 : decode cX4_createSegment 76 = .ok (.iastore, 1) := by decide +kernel
theorem dX4_createSegment_77 : decode cX4_createSegment 77 = .ok (.aload_n 0, 1) := by decide +kernel
theorem dX4_createSegment_78 : decode cX4_createSegment 78 = .ok (.dup, 1) := by decide +kernel
theorem dX4_createSegment_79 : decode cX4_createSegment 79 = .ok (.getfield 73, 3) := by decide +kernel
theorem dX4_createSegment_82 : decode cX4_createSegment 82 = .ok (.iconst 1, 1) := by decide +kernel
theorem dX4_createSegment_83 : decode cX4_createSegment 83 = .ok (.iadd, 1) := by decide +kernel
theorem dX4_createSegment_84 : decode cX4_createSegment 84 = .ok (.putfield 73, 3) := by decide +kernel
theorem dX4_createSegment_87 : decode cX4_createSegment 87 = .ok (.aload_n 0, 1) := by decide +kernel
theorem dX4_createSegment_88 : decode cX4_createSegment 88 = .ok (.getfield 73, 3) := by decide +kernel
theorem dX4_createSegment_91 : decode cX4_createSegment 91 = .ok (.iconst 1, 1) := by decide +kernel
theorem dX4_createSegment_92 : decode cX4_createSegment 92 = .ok (.isub, 1) := by decide +kernel
theorem dX4_createSegment_93 : decode cX4_createSegment 93 = .ok (.ireturn, 1) := by decide +kernel
theorem dX4_attach_0 : decode cX4_attach 0 = .ok (.iload_n 3, 1) := by decide +kernel
theorem dX4_attach_1 : decode cX4_attach 1 = .ok (.ifCond .lt 31, 3) := by decide +kernel
theorem dX4_attach_4 : decode cX4_attach 4 = .ok (.iload_n 3, 1) := by decide +kernel
theorem dX4_attach_5 : decode cX4_attach 5 = .ok (.aload_n 0, 1) := by decide +kernel
theorem dX4_attach_6 : decode cX4_attach 6 = .ok (.getfield 73, 3) := by decide +kernel
theorem dX4_attach_9 : decode cX4_attach 9 = .ok (.if_icmp .ge 23, 3) := by decide +kernel
theorem dX4_attach_12 : decode cX4_attach 12 = .ok (.iload 4, 2) := by decide +kernel
theorem dX4_attach_14 : decode cX4_attach 14 = .ok (.ifCond .lt 18, 3) := by decide +kernel
theorem dX4_attach_17 : decode cX4_attach 17 = .ok (.iload 4, 2) := by decide +kernel
theorem dX4_attach_19 : decode cX4_attach 19 = .ok (.aload_n 0, 1) := by decide +kernel
theorem dX4_attach_20 : decode cX4_attach 20 = .ok (.getfield 48, 3) := by decide +kernel
theorem dX4_attach_23 : decode cX4_attach 23 = .ok (.iload_n 3, 1) := by decide +kernel
theorem dX4_attach_24 : decode cX4_attach 24 = .ok (.iaload, 1) := by decide +kernel
theorem dX4_attach_25 : decode cX4_attach 25 = .ok (.if_icmp .ge 7, 3) := by decide +kernel
theorem dX4_attach_28 : decode cX4_attach 28 = .ok (.iconst 1, 1) := by decide +kernel
theorem dX4_attach_29 : decode cX4_attach 29 = .ok (.goto 4, 3) := by decide +kernel
theorem dX4_attach_32 : decode cX4_attach 32 = .ok (.iconst 0, 1) := by decide +kernel
theorem dX4_attach_33 : decode cX4_attach 33 = .ok (.istore 5, 2) := by decide +kernel
theorem dX4_attach_35 : decode cX4_attach 35 = .ok (.aload_n 0, 1) := by decide +kernel
theorem dX4_attach_36 : decode cX4_attach 36 = .ok (.iload_n 1, 1) := by decide +kernel
theorem dX4_attach_37 : decode cX4_attach 37 = .ok (.iload_n 2, 1) := by decide +kernel
theorem dX4_attach_38 : decode cX4_attach 38 = .ok (.iload 5, 2) := by decide +kernel
theorem dX4_attach_40 : decode cX4_attach 40 = .ok (.invokevirtual 116, 3) := by decide +kernel
theorem dX4_attach_43 : decode cX4_attach 43 = .ok (.ifCond .ne 5, 3) := by decide +kernel
theorem dX4_attach_46 : decode cX4_attach 46 = .ok (.iconst 0, 1) := by decide +kernel
theorem dX4_attach_47 : decode cX4_attach 47 = .ok (.ireturn, 1) := by decide +kernel
theorem dX4_attach_48 : decode cX4_attach 48 = .ok (.aload_n 0, 1) := by decide +kernel
theorem dX4_attach_49 : decode cX4_attach 49 = .ok (.getfield 42, 3) := by decide +kernel
theorem dX4_attach_52 : decode cX4_attach 52 = .ok (.iload_n 1, 1) := by decide +kernel
theorem dX4_attach_53 : decode cX4_attach 53 = .ok (.iload_n 2, 1) := by decide +kernel
theorem dX4_attach_54 : decode cX4_attach 54 = .ok (.invokestatic 96, 3) := by decide +kernel
theorem dX4_attach_57 : decode cX4_attach 57 = .ok (.iconst 2, 1) := by decide +kernel
theorem dX4_attach_58 : decode cX4_attach 58 = .ok (.iastore, 1) := by decide +kernel
theorem dX4_attach_59 : decode cX4_attach 59 = .ok (.aload_n 0, 1) := by decide +kernel
theorem dX4_attach_60 : decode cX4_attach 60 = .ok (.getfield 45, 3) := by decide +kernel
theorem dX4_attach_63 : decode cX4_attach 63 = .ok (.iload_n 1, 1) := by decide +kernel
theorem dX4_attach_64 : decode cX4_attach 64 = .ok (.iload_n 2, 1) := by decide +kernel
theorem dX4_attach_65 : decode cX4_attach 65 = .ok (.invokestatic 96, 3) := by decide +kernel
theorem dX4_attach_68 : decode cX4_attach 68 = .ok (.aload_n 0, 1) := by decide +kernel
theorem dX4_attach_69 : decode cX4_attach 69 = .ok (.getfield 51, 3) := by decide +kernel
theorem dX4_attach_72 : decode cX4_attach 72 = .ok (.bipush 6, 2) := by decide +kernel
theorem dX4_attach_74 : decode cX4_attach 74 = .ok (.iload_n 3, 1) := by decide +kernel
theorem dX4_attach_75 : decode cX4_attach 75 = .ok (.imul, 1) := by decide +kernel
theorem dX4_attach_76 : decode cX4_attach 76 = .ok (.iload 4, 2) := by decide +kernel
theorem dX4_attach_78 : decode cX4_attach 78 = .ok (.iadd, 1) := by decide +kernel
theorem dX4_attach_79 : decode cX4_attach 79 = .ok (.iaload, 1) := by decide +kernel
theorem dX4_attach_80 : decode cX4_attach 80 = .ok (.iastore, 1) := by decide +kernel
theorem dX4_attach_81 : decode cX4_attach 81 = .ok (.aload_n 0, 1) := by decide +kernel
theorem dX4_attach_82 : decode cX4_attach 82 = .ok (.iload_n 1, 1) := by decide +kernel
theorem dX4_attach_83 : decode cX4_attach 83 = .ok (.invokevirtual 123, 3) := by decide +kernel
theorem dX4_attach_86 : decode cX4_attach 86 = .ok (.ireturn, 1) := by decide +kernel
theorem dX4_unmap_0 : decode cX4_unmap 0 = .ok (.aload_n 0, 1) := by decide +kernel
theorem dX4_unmap_1 : decode cX4_unmap 1 = .ok (.aload_n 0, 1) := by decide +kernel
theorem dX4_unmap_2 : decode cX4_unmap 2 = .ok (.iload_n 1, 1) := by decide +kernel
theorem dX4_unmap_3 : decode cX4_unmap 3 = .ok (.invokevirtual 100, 3) := by decide +kernel
theorem dX4_unmap_6 : decode cX4_unmap 6 = .ok (.ifCond .eq 10, 3) := by decide +kernel
theorem dX4_unmap_9 : decode cX4_unmap 9 = .ok (.iload_n 2, 1) := by decide +kernel
theorem dX4_unmap_10 : decode cX4_unmap 10 = .ok (.invokestatic 113, 3) := by decide +kernel
theorem dX4_unmap_13 : decode cX4_unmap 13 = .ok (.ifCond .ne 7, 3) := by decide +kernel
theorem dX4_unmap_16 : decode cX4_unmap 16 = .ok (.iconst 1, 1) := by decide +kernel
theorem dX4_unmap_17 : decode cX4_unmap 17 = .ok (.goto 34, 3) := by decide +kernel
theorem dX4_unmap_20 : decode cX4_unmap 20 = .ok (.aload_n 0, 1) := by decide +kernel
theorem dX4_unmap_21 : decode cX4_unmap 21 = .ok (.getfield 39, 3) := by decide +kernel
theorem dX4_unmap_24 : decode cX4_unmap 24 = .ok (.iload_n 1, 1) := by decide +kernel
theorem dX4_unmap_25 : decode cX4_unmap 25 = .ok (.baload, 1) := by decide +kernel
theorem dX4_unmap_26 : decode cX4_unmap 26 = .ok (.ifCond .ne 7, 3) := by decide +kernel
theorem dX4_unmap_29 : decode cX4_unmap 29 = .ok (.iconst 2, 1) := by decide +kernel
theorem dX4_unmap_30 : decode cX4_unmap 30 = .ok (.goto 21, 3) := by decide +kernel
theorem dX4_unmap_33 : decode cX4_unmap 33 = .ok (.aload_n 0, 1) := by decide +kernel
theorem dX4_unmap_34 : decode cX4_unmap 34 = .ok (.getfield 42, 3) := by decide +kernel
theorem dX4_unmap_37 : decode cX4_unmap 37 = .ok (.iload_n 1, 1) := by decide +kernel
theorem dX4_unmap_38 : decode cX4_unmap 38 = .ok (.iload_n 2, 1) := by decide +kernel
theorem dX4_unmap_39 : decode cX4_unmap 39 = .ok (.invokestatic 96, 3) := by decide +kernel
theorem dX4_unmap_42 : decode cX4_unmap 42 = .ok (.iaload, 1) := by decide +kernel
theorem dX4_unmap_43 : decode cX4_unmap 43 = .ok (.ifCond .ne 7, 3) := by decide +kernel
theorem dX4_unmap_46 : decode cX4_unmap 46 = .ok (.iconst 3, 1) := by decide +kernel
theorem dX4_unmap_47 : decode cX4_unmap 47 = .ok (.goto 4, 3) := by decide +kernel
theorem dX4_unmap_50 : decode cX4_unmap 50 = .ok (.iconst 0, 1) := by decide +kernel
theorem dX4_unmap_51 : decode cX4_unmap 51 = .ok (.putfield 60, 3) := by decide +kernel
theorem dX4_unmap_54 : decode cX4_unmap 54 = .ok (.aload_n 0, 1) := by decide +kernel
theorem dX4_unmap_55 : decode cX4_unmap 55 = .ok (.getfield 60, 3) := by decide +kernel
theorem dX4_unmap_58 : decode cX4_unmap 58 = .ok (.ifCond .ne 16, 3) := by decide +kernel
theorem dX4_unmap_61 : decode cX4_unmap 61 = .ok (.aload_n 0, 1) := by decide +kernel
theorem dX4_unmap_62 : decode cX4_unmap 62 = .ok (.iload_n 1, 1) := by decide +kernel
theorem dX4_unmap_63 : decode cX4_unmap 63 = .ok (.iload_n 2, 1) := by decide +kernel
theorem dX4_unmap_64 : decode cX4_unmap 64 = .ok (.invokevirtual 109, 3) := by decide +kernel
theorem dX4_unmap_67 : decode cX4_unmap 67 = .ok (.ifCond .eq 7, 3) := by decide +kernel
theorem dX4_unmap_70 : decode cX4_unmap 70 = .ok (.iconst 1, 1) := by decide +kernel
theorem dX4_unmap_71 : decode cX4_unmap 71 = .ok (.goto 4, 3) := by decide +kernel
theorem dX4_unmap_74 : decode cX4_unmap 74 = .ok (.iconst 0, 1) := by decide +kernel
theorem dX4_unmap_75 : decode cX4_unmap 75 = .ok (.ireturn, 1) := by decide +kernel
theorem dX4_isLive_0 : decode cX4_isLive 0 = .ok (.aload_n 0, 1) := by decide +kernel
theorem dX4_isLive_1 : decode cX4_isLive 1 = .ok (.aload_n 0, 1) := by decide +kernel
theorem dX4_isLive_2 : decode cX4_isLive 2 = .ok (.iload_n 1, 1) := by decide +kernel
theorem dX4_isLive_3 : decode cX4_isLive 3 = .ok (.invokevirtual 100, 3) := by decide +kernel
theorem dX4_isLive_6 : decode cX4_isLive 6 = .ok (.ifCond .eq 7, 3) := by decide +kernel
theorem dX4_isLive_9 : decode cX4_isLive 9 = .ok (.iconst 0, 1) := by decide +kernel
theorem dX4_isLive_10 : decode cX4_isLive 10 = .ok (.goto 4, 3) := by decide +kernel
theorem dX4_isLive_13 : decode cX4_isLive 13 = .ok (.iconst 1, 1) := by decide +kernel
theorem dX4_isLive_14 : decode cX4_isLive 14 = .ok (.putfield 60, 3) := by decide +kernel
theorem dX4_isLive_17 : decode cX4_isLive 17 = .ok (.aload_n 0, 1) := by decide +kernel
theorem dX4_isLive_18 : decode cX4_isLive 18 = .ok (.getfield 60, 3) := by decide +kernel
theorem dX4_isLive_21 : decode cX4_isLive 21 = .ok (.ifCond .ne 16, 3) := by decide +kernel
theorem dX4_isLive_24 : decode cX4_isLive 24 = .ok (.aload_n 0, 1) := by decide +kernel
theorem dX4_isLive_25 : decode cX4_isLive 25 = .ok (.getfield 39, 3) := by decide +kernel
theorem dX4_isLive_28 : decode cX4_isLive 28 = .ok (.iload_n 1, 1) := by decide +kernel
theorem dX4_isLive_29 : decode cX4_isLive 29 = .ok (.baload, 1) := by decide +kernel
theorem dX4_isLive_30 : decode cX4_isLive 30 = .ok (.ifCond .eq 7, 3) := by decide +kernel
theorem dX4_isLive_33 : decode cX4_isLive 33 = .ok (.iconst 1, 1) := by decide +kernel
theorem dX4_isLive_34 : decode cX4_isLive 34 = .ok (.goto 4, 3) := by decide +kernel
theorem dX4_isLive_37 : decode cX4_isLive 37 = .ok (.iconst 0, 1) := by decide +kernel
theorem dX4_isLive_38 : decode cX4_isLive 38 = .ok (.ireturn, 1) := by decide +kernel
theorem dX4_asks_0 : decode cX4_asks 0 = .ok (.aload_n 0, 1) := by decide +kernel
theorem dX4_asks_1 : decode cX4_asks 1 = .ok (.aload_n 0, 1) := by decide +kernel
theorem dX4_asks_2 : decode cX4_asks 2 = .ok (.iload_n 1, 1) := by decide +kernel
theorem dX4_asks_3 : decode cX4_asks 3 = .ok (.invokevirtual 100, 3) := by decide +kernel
theorem dX4_asks_6 : decode cX4_asks 6 = .ok (.ifCond .eq 14, 3) := by decide +kernel
theorem dX4_asks_9 : decode cX4_asks 9 = .ok (.iload_n 2, 1) := by decide +kernel
theorem dX4_asks_10 : decode cX4_asks 10 = .ok (.invokestatic 113, 3) := by decide +kernel
theorem dX4_asks_13 : decode cX4_asks 13 = .ok (.ifCond .eq 7, 3) := by decide +kernel
theorem dX4_asks_16 : decode cX4_asks 16 = .ok (.iconst 0, 1) := by decide +kernel
theorem dX4_asks_17 : decode cX4_asks 17 = .ok (.goto 4, 3) := by decide +kernel
theorem dX4_asks_20 : decode cX4_asks 20 = .ok (.iconst 1, 1) := by decide +kernel
theorem dX4_asks_21 : decode cX4_asks 21 = .ok (.putfield 60, 3) := by decide +kernel
theorem dX4_asks_24 : decode cX4_asks 24 = .ok (.aload_n 0, 1) := by decide +kernel
theorem dX4_asks_25 : decode cX4_asks 25 = .ok (.getfield 60, 3) := by decide +kernel
theorem dX4_asks_28 : decode cX4_asks 28 = .ok (.ifCond .ne 7, 3) := by decide +kernel
theorem dX4_asks_31 : decode cX4_asks 31 = .ok (.iconst 1, 1) := by decide +kernel
theorem dX4_asks_32 : decode cX4_asks 32 = .ok (.goto 4, 3) := by decide +kernel
theorem dX4_asks_35 : decode cX4_asks 35 = .ok (.iconst 0, 1) := by decide +kernel
theorem dX4_asks_36 : decode cX4_asks 36 = .ok (.ireturn, 1) := by decide +kernel
theorem dX4_mapping_0 : decode cX4_mapping 0 = .ok (.aload_n 0, 1) := by decide +kernel
theorem dX4_mapping_1 : decode cX4_mapping 1 = .ok (.iload_n 1, 1) := by decide +kernel
theorem dX4_mapping_2 : decode cX4_mapping 2 = .ok (.iload_n 2, 1) := by decide +kernel
theorem dX4_mapping_3 : decode cX4_mapping 3 = .ok (.invokevirtual 126, 3) := by decide +kernel
theorem dX4_mapping_6 : decode cX4_mapping 6 = .ok (.ifCond .eq 16, 3) := by decide +kernel
theorem dX4_mapping_9 : decode cX4_mapping 9 = .ok (.aload_n 0, 1) := by decide +kernel
theorem dX4_mapping_10 : decode cX4_mapping 10 = .ok (.getfield 42, 3) := by decide +kernel
theorem dX4_mapping_13 : decode cX4_mapping 13 = .ok (.iload_n 1, 1) := by decide +kernel
theorem dX4_mapping_14 : decode cX4_mapping 14 = .ok (.iload_n 2, 1) := by decide +kernel
theorem dX4_mapping_15 : decode cX4_mapping 15 = .ok (.invokestatic 96, 3) := by decide +kernel
theorem dX4_mapping_18 : decode cX4_mapping 18 = .ok (.iaload, 1) := by decide +kernel
