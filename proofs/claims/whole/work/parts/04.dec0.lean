theorem dX0_init_0 : decode cX0_init 0 = .ok (.aload_n 0, 1) := by decide +kernel
theorem dX0_init_1 : decode cX0_init 1 = .ok (.invokespecial 3, 3) := by decide +kernel
theorem dX0_init_4 : decode cX0_init 4 = .ok (.aload_n 0, 1) := by decide +kernel
theorem dX0_init_5 : decode cX0_init 5 = .ok (.iconst 4, 1) := by decide +kernel
theorem dX0_init_6 : decode cX0_init 6 = .ok (.newarray .int, 2) := by decide +kernel
theorem dX0_init_8 : decode cX0_init 8 = .ok (.putfield 9, 3) := by decide +kernel
theorem dX0_init_11 : decode cX0_init 11 = .ok (.aload_n 0, 1) := by decide +kernel
theorem dX0_init_12 : decode cX0_init 12 = .ok (.iload_n 1, 1) := by decide +kernel
theorem dX0_init_13 : decode cX0_init 13 = .ok (.iconst (-1), 1) := by decide +kernel
theorem dX0_init_14 : decode cX0_init 14 = .ok (.if_icmp .eq 7, 3) := by decide +kernel
theorem dX0_init_17 : decode cX0_init 17 = .ok (.iconst 1, 1) := by decide +kernel
theorem dX0_init_18 : decode cX0_init 18 = .ok (.goto 4, 3) := by decide +kernel
theorem dX0_init_21 : decode cX0_init 21 = .ok (.iconst 0, 1) := by decide +kernel
theorem dX0_init_22 : decode cX0_init 22 = .ok (.putfield 15, 3) := by decide +kernel
theorem dX0_init_25 : decode cX0_init 25 = .ok (.aload_n 0, 1) := by decide +kernel
theorem dX0_init_26 : decode cX0_init 26 = .ok (.iload_n 1, 1) := by decide +kernel
theorem dX0_init_27 : decode cX0_init 27 = .ok (.putfield 19, 3) := by decide +kernel
theorem dX0_init_30 : decode cX0_init 30 = .ok (.aload_n 0, 1) := by decide +kernel
theorem dX0_init_31 : decode cX0_init 31 = .ok (.iconst (-1), 1) := by decide +kernel
theorem dX0_init_32 : decode cX0_init 32 = .ok (.putfield 23, 3) := by decide +kernel
theorem dX0_init_35 : decode cX0_init 35 = .ok (.aload_n 0, 1) := by decide +kernel
theorem dX0_init_36 : decode cX0_init 36 = .ok (.iconst (-1), 1) := by decide +kernel
theorem dX0_init_37 : decode cX0_init 37 = .ok (.putfield 26, 3) := by decide +kernel
theorem dX0_init_40 : decode cX0_init 40 = .ok (.aload_n 0, 1) := by decide +kernel
theorem dX0_init_41 : decode cX0_init 41 = .ok (.iconst 0, 1) := by decide +kernel
theorem dX0_init_42 : decode cX0_init 42 = .ok (.putfield 29, 3) := by decide +kernel
theorem dX0_init_45 : decode cX0_init 45 = .ok (.aload_n 0, 1) := by decide +kernel
theorem dX0_init_46 : decode cX0_init 46 = .ok (.iconst 0, 1) := by decide +kernel
theorem dX0_init_47 : decode cX0_init 47 = .ok (.putfield 32, 3) := by decide +kernel
theorem dX0_init_50 : decode cX0_init 50 = .ok (.return_, 1) := by decide +kernel
theorem dX1_init_0 : decode cX1_init 0 = .ok (.aload_n 0, 1) := by decide +kernel
theorem dX1_init_1 : decode cX1_init 1 = .ok (.invokespecial 3, 3) := by decide +kernel
theorem dX1_init_4 : decode cX1_init 4 = .ok (.aload_n 0, 1) := by decide +kernel
theorem dX1_init_5 : decode cX1_init 5 = .ok (.bipush 12, 2) := by decide +kernel
theorem dX1_init_7 : decode cX1_init 7 = .ok (.anewarray 9, 3) := by decide +kernel
theorem dX1_init_10 : decode cX1_init 10 = .ok (.putfield 11, 3) := by decide +kernel
theorem dX1_init_13 : decode cX1_init 13 = .ok (.aload_n 0, 1) := by decide +kernel
theorem dX1_init_14 : decode cX1_init 14 = .ok (.bipush 12, 2) := by decide +kernel
theorem dX1_init_16 : decode cX1_init 16 = .ok (.newarray .int, 2) := by decide +kernel
theorem dX1_init_18 : decode cX1_init 18 = .ok (.putfield 17, 3) := by decide +kernel
theorem dX1_init_21 : decode cX1_init 21 = .ok (.aload_n 0, 1) := by decide +kernel
theorem dX1_init_22 : decode cX1_init 22 = .ok (.bipush 12, 2) := by decide +kernel
theorem dX1_init_24 : decode cX1_init 24 = .ok (.newarray .boolean, 2) := by decide +kernel
theorem dX1_init_26 : decode cX1_init 26 = .ok (.putfield 21, 3) := by decide +kernel
theorem dX1_init_29 : decode cX1_init 29 = .ok (.aload_n 0, 1) := by decide +kernel
theorem dX1_init_30 : decode cX1_init 30 = .ok (.bipush 6, 2) := by decide +kernel
theorem dX1_init_32 : decode cX1_init 32 = .ok (.putfield 25, 3) := by decide +kernel
theorem dX1_init_35 : decode cX1_init 35 = .ok (.aload_n 0, 1) := by decide +kernel
theorem dX1_init_36 : decode cX1_init 36 = .ok (.iconst 0, 1) := by decide +kernel
theorem dX1_init_37 : decode cX1_init 37 = .ok (.putfield 29, 3) := by decide +kernel
theorem dX1_init_40 : decode cX1_init 40 = .ok (.iconst 0, 1) := by decide +kernel
theorem dX1_init_41 : decode cX1_init 41 = .ok (.istore_n 1, 1) := by decide +kernel
theorem dX1_init_42 : decode cX1_init 42 = .ok (.iload_n 1, 1) := by decide +kernel
theorem dX1_init_43 : decode cX1_init 43 = .ok (.bipush 12, 2) := by decide +kernel
theorem dX1_init_45 : decode cX1_init 45 = .ok (.if_icmp .ge 16, 3) := by decide +kernel
theorem dX1_init_48 : decode cX1_init 48 = .ok (.aload_n 0, 1) := by decide +kernel
theorem dX1_init_49 : decode cX1_init 49 = .ok (.getfield 17, 3) := by decide +kernel
theorem dX1_init_52 : decode cX1_init 52 = .ok (.iload_n 1, 1) := by decide +kernel
theorem dX1_init_53 : decode cX1_init 53 = .ok (.iconst (-1), 1) := by decide +kernel
theorem dX1_init_54 : decode cX1_init 54 = .ok (.iastore, 1) := by decide +kernel
theorem dX1_init_55 : decode cX1_init 55 = .ok (.iinc 1 1, 3) := by decide +kernel
theorem dX1_init_58 : decode cX1_init 58 = .ok (.goto (-16), 3) := by decide +kernel
theorem dX1_init_61 : decode cX1_init 61 = .ok (.return_, 1) := by decide +kernel
theorem dX1_freeCount_0 : decode cX1_freeCount 0 = .ok (.iconst 0, 1) := by decide +kernel
theorem dX1_freeCount_1 : decode cX1_freeCount 1 = .ok (.istore_n 1, 1) := by decide +kernel
theorem dX1_freeCount_2 : decode cX1_freeCount 2 = .ok (.iconst 0, 1) := by decide +kernel
theorem dX1_freeCount_3 : decode cX1_freeCount 3 = .ok (.istore_n 2, 1) := by decide +kernel
theorem dX1_freeCount_4 : decode cX1_freeCount 4 = .ok (.iload_n 2, 1) := by decide +kernel
theorem dX1_freeCount_5 : decode cX1_freeCount 5 = .ok (.aload_n 0, 1) := by decide +kernel
theorem dX1_freeCount_6 : decode cX1_freeCount 6 = .ok (.getfield 25, 3) := by decide +kernel
theorem dX1_freeCount_9 : decode cX1_freeCount 9 = .ok (.if_icmp .ge 21, 3) := by decide +kernel
theorem dX1_freeCount_12 : decode cX1_freeCount 12 = .ok (.aload_n 0, 1) := by decide +kernel
theorem dX1_freeCount_13 : decode cX1_freeCount 13 = .ok (.getfield 11, 3) := by decide +kernel
theorem dX1_freeCount_16 : decode cX1_freeCount 16 = .ok (.iload_n 2, 1) := by decide +kernel
theorem dX1_freeCount_17 : decode cX1_freeCount 17 = .ok (.aaload, 1) := by decide +kernel
theorem dX1_freeCount_18 : decode cX1_freeCount 18 = .ok (.ifnonnull 6, 3) := by decide +kernel
theorem dX1_freeCount_21 : decode cX1_freeCount 21 = .ok (.iinc 1 1, 3) := by decide +kernel
theorem dX1_freeCount_24 : decode cX1_freeCount 24 = .ok (.iinc 2 1, 3) := by decide +kernel
theorem dX1_freeCount_27 : decode cX1_freeCount 27 = .ok (.goto (-23), 3) := by decide +kernel
theorem dX1_freeCount_30 : decode cX1_freeCount 30 = .ok (.iload_n 1, 1) := by decide +kernel
theorem dX1_freeCount_31 : decode cX1_freeCount 31 = .ok (.ireturn, 1) := by decide +kernel
theorem dX1_smallestFree_0 : decode cX1_smallestFree 0 = .ok (.iconst 0, 1) := by decide +kernel
theorem dX1_smallestFree_1 : decode cX1_smallestFree 1 = .ok (.istore_n 1, 1) := by decide +kernel
theorem dX1_smallestFree_2 : decode cX1_smallestFree 2 = .ok (.iload_n 1, 1) := by decide +kernel
theorem dX1_smallestFree_3 : decode cX1_smallestFree 3 = .ok (.aload_n 0, 1) := by decide +kernel
theorem dX1_smallestFree_4 : decode cX1_smallestFree 4 = .ok (.getfield 25, 3) := by decide +kernel
theorem dX1_smallestFree_7 : decode cX1_smallestFree 7 = .ok (.if_icmp .ge 20, 3) := by decide +kernel
theorem dX1_smallestFree_10 : decode cX1_smallestFree 10 = .ok (.aload_n 0, 1) := by decide +kernel
theorem dX1_smallestFree_11 : decode cX1_smallestFree 11 = .ok (.getfield 11, 3) := by decide +kernel
theorem dX1_smallestFree_14 : decode cX1_smallestFree 14 = .ok (.iload_n 1, 1) := by decide +kernel
theorem dX1_smallestFree_15 : decode cX1_smallestFree 15 = .ok (.aaload, 1) := by decide +kernel
theorem dX1_smallestFree_16 : decode cX1_smallestFree 16 = .ok (.ifnonnull 5, 3) := by decide +kernel
theorem dX1_smallestFree_19 : decode cX1_smallestFree 19 = .ok (.iload_n 1, 1) := by decide +kernel
theorem dX1_smallestFree_20 : decode cX1_smallestFree 20 = .ok (.ireturn, 1) := by decide +kernel
theorem dX1_smallestFree_21 : decode cX1_smallestFree 21 = .ok (.iinc 1 1, 3) := by decide +kernel
theorem dX1_smallestFree_24 : decode cX1_smallestFree 24 = .ok (.goto (-22), 3) := by decide +kernel
theorem dX1_smallestFree_27 : decode cX1_smallestFree 27 = .ok (.iconst (-1), 1) := by decide +kernel
theorem dX1_smallestFree_28 : decode cX1_smallestFree 28 = .ok (.ireturn, 1) := by decide +kernel
theorem dX1_oldestClean_0 : decode cX1_oldestClean 0 = .ok (.iconst (-1), 1) := by decide +kernel
theorem dX1_oldestClean_1 : decode cX1_oldestClean 1 = .ok (.istore_n 1, 1) := by decide +kernel
theorem dX1_oldestClean_2 : decode cX1_oldestClean 2 = .ok (.iconst 0, 1) := by decide +kernel
theorem dX1_oldestClean_3 : decode cX1_oldestClean 3 = .ok (.istore_n 2, 1) := by decide +kernel
theorem dX1_oldestClean_4 : decode cX1_oldestClean 4 = .ok (.iload_n 2, 1) := by decide +kernel
theorem dX1_oldestClean_5 : decode cX1_oldestClean 5 = .ok (.aload_n 0, 1) := by decide +kernel
theorem dX1_oldestClean_6 : decode cX1_oldestClean 6 = .ok (.getfield 25, 3) := by decide +kernel
theorem dX1_oldestClean_9 : decode cX1_oldestClean 9 = .ok (.if_icmp .ge 49, 3) := by decide +kernel
theorem dX1_oldestClean_12 : decode cX1_oldestClean 12 = .ok (.aload_n 0, 1) := by decide +kernel
theorem dX1_oldestClean_13 : decode cX1_oldestClean 13 = .ok (.getfield 11, 3) := by decide +kernel
theorem dX1_oldestClean_16 : decode cX1_oldestClean 16 = .ok (.iload_n 2, 1) := by decide +kernel
theorem dX1_oldestClean_17 : decode cX1_oldestClean 17 = .ok (.aaload, 1) := by decide +kernel
theorem dX1_oldestClean_18 : decode cX1_oldestClean 18 = .ok (.astore_n 3, 1) := by decide +kernel
theorem dX1_oldestClean_19 : decode cX1_oldestClean 19 = .ok (.aload_n 3, 1) := by decide +kernel
theorem dX1_oldestClean_20 : decode cX1_oldestClean 20 = .ok (.ifnull 32, 3) := by decide +kernel
theorem dX1_oldestClean_23 : decode cX1_oldestClean 23 = .ok (.aload_n 3, 1) := by decide +kernel
theorem dX1_oldestClean_24 : decode cX1_oldestClean 24 = .ok (.getfield 32, 3) := by decide +kernel
theorem dX1_oldestClean_27 : decode cX1_oldestClean 27 = .ok (.ifCond .ne 25, 3) := by decide +kernel
theorem dX1_oldestClean_30 : decode cX1_oldestClean 30 = .ok (.iload_n 1, 1) := by decide +kernel
theorem dX1_oldestClean_31 : decode cX1_oldestClean 31 = .ok (.iconst (-1), 1) := by decide +kernel
theorem dX1_oldestClean_32 : decode cX1_oldestClean 32 = .ok (.if_icmp .eq 18, 3) := by decide +kernel
theorem dX1_oldestClean_35 : decode cX1_oldestClean 35 = .ok (.aload_n 0, 1) := by decide +kernel
theorem dX1_oldestClean_36 : decode cX1_oldestClean 36 = .ok (.getfield 17, 3) := by decide +kernel
theorem dX1_oldestClean_39 : decode cX1_oldestClean 39 = .ok (.iload_n 2, 1) := by decide +kernel
theorem dX1_oldestClean_40 : decode cX1_oldestClean 40 = .ok (.iaload, 1) := by decide +kernel
theorem dX1_oldestClean_41 : decode cX1_oldestClean 41 = .ok (.aload_n 0, 1) := by decide +kernel
theorem dX1_oldestClean_42 : decode cX1_oldestClean 42 = .ok (.getfield 17, 3) := by decide +kernel
theorem dX1_oldestClean_45 : decode cX1_oldestClean 45 = .ok (.iload_n 1, 1) := by decide +kernel
theorem dX1_oldestClean_46 : decode cX1_oldestClean 46 = .ok (.iaload, 1) := by decide +kernel
theorem dX1_oldestClean_47 : decode cX1_oldestClean 47 = .ok (.if_icmp .ge 5, 3) := by decide +kernel
theorem dX1_oldestClean_50 : decode cX1_oldestClean 50 = .ok (.iload_n 2, 1) := by decide +kernel
theorem dX1_oldestClean_51 : decode cX1_oldestClean 51 = .ok (.istore_n 1, 1) := by decide +kernel
theorem dX1_oldestClean_52 : decode cX1_oldestClean 52 = .ok (.iinc 2 1, 3) := by decide +kernel
theorem dX1_oldestClean_55 : decode cX1_oldestClean 55 = .ok (.goto (-51), 3) := by decide +kernel
theorem dX1_oldestClean_58 : decode cX1_oldestClean 58 = .ok (.iload_n 1, 1) := by decide +kernel
theorem dX1_oldestClean_59 : decode cX1_oldestClean 59 = .ok (.ireturn, 1) := by decide +kernel
theorem dX1_oldest_0 : decode cX1_oldest 0 = .ok (.iconst 0, 1) := by decide +kernel
theorem dX1_oldest_1 : decode cX1_oldest 1 = .ok (.istore_n 1, 1) := by decide +kernel
theorem dX1_oldest_2 : decode cX1_oldest 2 = .ok (.iconst 1, 1) := by decide +kernel
theorem dX1_oldest_3 : decode cX1_oldest 3 = .ok (.istore_n 2, 1) := by decide +kernel
theorem dX1_oldest_4 : decode cX1_oldest 4 = .ok (.iload_n 2, 1) := by decide +kernel
theorem dX1_oldest_5 : decode cX1_oldest 5 = .ok (.aload_n 0, 1) := by decide +kernel
theorem dX1_oldest_6 : decode cX1_oldest 6 = .ok (.getfield 25, 3) := by decide +kernel
theorem dX1_oldest_9 : decode cX1_oldest 9 = .ok (.if_icmp .ge 26, 3) := by decide +kernel
theorem dX1_oldest_12 : decode cX1_oldest 12 = .ok (.aload_n 0, 1) := by decide +kernel
theorem dX1_oldest_13 : decode cX1_oldest 13 = .ok (.getfield 17, 3) := by decide +kernel
theorem dX1_oldest_16 : decode cX1_oldest 16 = .ok (.iload_n 2, 1) := by decide +kernel
theorem dX1_oldest_17 : decode cX1_oldest 17 = .ok (.iaload, 1) := by decide +kernel
theorem dX1_oldest_18 : decode cX1_oldest 18 = .ok (.aload_n 0, 1) := by decide +kernel
theorem dX1_oldest_19 : decode cX1_oldest 19 = .ok (.getfield 17, 3) := by decide +kernel
theorem dX1_oldest_22 : decode cX1_oldest 22 = .ok (.iload_n 1, 1) := by decide +kernel
theorem dX1_oldest_23 : decode cX1_oldest 23 = .ok (.iaload, 1) := by decide +kernel
theorem dX1_oldest_24 : decode cX1_oldest 24 = .ok (.if_icmp .ge 5, 3) := by decide +kernel
theorem dX1_oldest_27 : decode cX1_oldest 27 = .ok (.iload_n 2, 1) := by decide +kernel
theorem dX1_oldest_28 : decode cX1_oldest 28 = .ok (.istore_n 1, 1) := by decide +kernel
theorem dX1_oldest_29 : decode cX1_oldest 29 = .ok (.iinc 2 1, 3) := by decide +kernel
theorem dX1_oldest_32 : decode cX1_oldest 32 = .ok (.goto (-28), 3) := by decide +kernel
theorem dX1_oldest_35 : decode cX1_oldest 35 = .ok (.iload_n 1, 1) := by decide +kernel
theorem dX1_oldest_36 : decode cX1_oldest 36 = .ok (.ireturn, 1) := by decide +kernel
theorem dX1_put_0 : decode cX1_put 0 = .ok (.aload_n 0, 1) := by decide +kernel
theorem dX1_put_1 : decode cX1_put 1 = .ok (.getfield 11, 3) := by decide +kernel
theorem dX1_put_4 : decode cX1_put 4 = .ok (.iload_n 2, 1) := by decide +kernel
theorem dX1_put_5 : decode cX1_put 5 = .ok (.aload_n 1, 1) := by decide +kernel
theorem dX1_put_6 : decode cX1_put 6 = .ok (.aastore, 1) := by decide +kernel
theorem dX1_put_7 : decode cX1_put 7 = .ok (.aload_n 0, 1) := by decide +kernel
theorem dX1_put_8 : decode cX1_put 8 = .ok (.getfield 17, 3) := by decide +kernel
theorem dX1_put_11 : decode cX1_put 11 = .ok (.iload_n 2, 1) := by decide +kernel
theorem dX1_put_12 : decode cX1_put 12 = .ok (.iload_n 3, 1) := by decide +kernel
theorem dX1_put_13 : decode cX1_put 13 = .ok (.iastore, 1) := by decide +kernel
theorem dX1_put_14 : decode cX1_put 14 = .ok (.aload_n 0, 1) := by decide +kernel
theorem dX1_put_15 : decode cX1_put 15 = .ok (.getfield 21, 3) := by decide +kernel
theorem dX1_put_18 : decode cX1_put 18 = .ok (.iload_n 2, 1) := by decide +kernel
theorem dX1_put_19 : decode cX1_put 19 = .ok (.iconst 0, 1) := by decide +kernel
theorem dX1_put_20 : decode cX1_put 20 = .ok (.bastore, 1) := by decide +kernel
theorem dX1_put_21 : decode cX1_put 21 = .ok (.aload_n 1, 1) := by decide +kernel
theorem dX1_put_22 : decode cX1_put 22 = .ok (.iload_n 2, 1) := by decide +kernel
theorem dX1_put_23 : decode cX1_put 23 = .ok (.putfield 36, 3) := by decide +kernel
theorem dX1_put_26 : decode cX1_put 26 = .ok (.return_, 1) := by decide +kernel
theorem dX1_use_0 : decode cX1_use 0 = .ok (.iload_n 1, 1) := by decide +kernel
theorem dX1_use_1 : decode cX1_use 1 = .ok (.ifCond .lt 25, 3) := by decide +kernel
theorem dX1_use_4 : decode cX1_use 4 = .ok (.iload_n 1, 1) := by decide +kernel
theorem dX1_use_5 : decode cX1_use 5 = .ok (.aload_n 0, 1) := by decide +kernel
theorem dX1_use_6 : decode cX1_use 6 = .ok (.getfield 25, 3) := by decide +kernel
theorem dX1_use_9 : decode cX1_use 9 = .ok (.if_icmp .ge 17, 3) := by decide +kernel
theorem dX1_use_12 : decode cX1_use 12 = .ok (.aload_n 0, 1) := by decide +kernel
theorem dX1_use_13 : decode cX1_use 13 = .ok (.getfield 17, 3) := by decide +kernel
theorem dX1_use_16 : decode cX1_use 16 = .ok (.iload_n 1, 1) := by decide +kernel
theorem dX1_use_17 : decode cX1_use 17 = .ok (.iload_n 2, 1) := by decide +kernel
theorem dX1_use_18 : decode cX1_use 18 = .ok (.iastore, 1) := by decide +kernel
theorem dX1_use_19 : decode cX1_use 19 = .ok (.aload_n 0, 1) := by decide +kernel
theorem dX1_use_20 : decode cX1_use 20 = .ok (.getfield 21, 3) := by decide +kernel
theorem dX1_use_23 : decode cX1_use 23 = .ok (.iload_n 1, 1) := by decide +kernel
theorem dX1_use_24 : decode cX1_use 24 = .ok (.iconst 1, 1) := by decide +kernel
theorem dX1_use_25 : decode cX1_use 25 = .ok (.bastore, 1) := by decide +kernel
theorem dX1_use_26 : decode cX1_use 26 = .ok (.return_, 1) := by decide +kernel
theorem dX1_vacate_0 : decode cX1_vacate 0 = .ok (.aload_n 0, 1) := by decide +kernel
theorem dX1_vacate_1 : decode cX1_vacate 1 = .ok (.getfield 11, 3) := by decide +kernel
theorem dX1_vacate_4 : decode cX1_vacate 4 = .ok (.iload_n 1, 1) := by decide +kernel
theorem dX1_vacate_5 : decode cX1_vacate 5 = .ok (.aaload, 1) := by decide +kernel
theorem dX1_vacate_6 : decode cX1_vacate 6 = .ok (.astore_n 2, 1) := by decide +kernel
theorem dX1_vacate_7 : decode cX1_vacate 7 = .ok (.aload_n 2, 1) := by decide +kernel
theorem dX1_vacate_8 : decode cX1_vacate 8 = .ok (.ifnull 8, 3) := by decide +kernel
theorem dX1_vacate_11 : decode cX1_vacate 11 = .ok (.aload_n 2, 1) := by decide +kernel
theorem dX1_vacate_12 : decode cX1_vacate 12 = .ok (.iconst (-1), 1) := by decide +kernel
theorem dX1_vacate_13 : decode cX1_vacate 13 = .ok (.putfield 36, 3) := by decide +kernel
theorem dX1_vacate_16 : decode cX1_vacate 16 = .ok (.aload_n 0, 1) := by decide +kernel
theorem dX1_vacate_17 : decode cX1_vacate 17 = .ok (.getfield 11, 3) := by decide +kernel
theorem dX1_vacate_20 : decode cX1_vacate 20 = .ok (.iload_n 1, 1) := by decide +kernel
theorem dX1_vacate_21 : decode cX1_vacate 21 = .ok (.aconst_null, 1) := by decide +kernel
theorem dX1_vacate_22 : decode cX1_vacate 22 = .ok (.aastore, 1) := by decide +kernel
theorem dX1_vacate_23 : decode cX1_vacate 23 = .ok (.aload_n 0, 1) := by decide +kernel
theorem dX1_vacate_24 : decode cX1_vacate 24 = .ok (.getfield 17, 3) := by decide +kernel
theorem dX1_vacate_27 : decode cX1_vacate 27 = .ok (.iload_n 1, 1) := by decide +kernel
theorem dX1_vacate_28 : decode cX1_vacate 28 = .ok (.iconst (-1), 1) := by decide +kernel
theorem dX1_vacate_29 : decode cX1_vacate 29 = .ok (.iastore, 1) := by decide +kernel
theorem dX1_vacate_30 : decode cX1_vacate 30 = .ok (.aload_n 0, 1) := by decide +kernel
theorem dX1_vacate_31 : decode cX1_vacate 31 = .ok (.getfield 21, 3) := by decide +kernel
theorem dX1_vacate_34 : decode cX1_vacate 34 = .ok (.iload_n 1, 1) := by decide +kernel
theorem dX1_vacate_35 : decode cX1_vacate 35 = .ok (.iconst 0, 1) := by decide +kernel
theorem dX1_vacate_36 : decode cX1_vacate 36 = .ok (.bastore, 1) := by decide +kernel
theorem dX1_vacate_37 : decode cX1_vacate 37 = .ok (.return_, 1) := by decide +kernel
theorem dX1_moveHandBehind_0 : decode cX1_moveHandBehind 0 = .ok (.aload_n 0, 1) := by decide +kernel
theorem dX1_moveHandBehind_1 : decode cX1_moveHandBehind 1 = .ok (.iload_n 1, 1) := by decide +kernel
theorem dX1_moveHandBehind_2 : decode cX1_moveHandBehind 2 = .ok (.iconst 1, 1) := by decide +kernel
theorem dX1_moveHandBehind_3 : decode cX1_moveHandBehind 3 = .ok (.iadd, 1) := by decide +kernel
theorem dX1_moveHandBehind_4 : decode cX1_moveHandBehind 4 = .ok (.aload_n 0, 1) := by decide +kernel
theorem dX1_moveHandBehind_5 : decode cX1_moveHandBehind 5 = .ok (.getfield 25, 3) := by decide +kernel
theorem dX1_moveHandBehind_8 : decode cX1_moveHandBehind 8 = .ok (.if_icmp .ge 9, 3) := by decide +kernel
theorem dX1_moveHandBehind_11 : decode cX1_moveHandBehind 11 = .ok (.iload_n 1, 1) := by decide +kernel
theorem dX1_moveHandBehind_12 : decode cX1_moveHandBehind 12 = .ok (.iconst 1, 1) := by decide +kernel
theorem dX1_moveHandBehind_13 : decode cX1_moveHandBehind 13 = .ok (.iadd, 1) := by decide +kernel
theorem dX1_moveHandBehind_14 : decode cX1_moveHandBehind 14 = .ok (.goto 4, 3) := by decide +kernel
theorem dX1_moveHandBehind_17 : decode cX1_moveHandBehind 17 = .ok (.iconst 0, 1) := by decide +kernel
theorem dX1_moveHandBehind_18 : decode cX1_moveHandBehind 18 = .ok (.putfield 29, 3) := by decide +kernel
theorem dX1_moveHandBehind_21 : decode cX1_moveHandBehind 21 = .ok (.return_, 1) := by decide +kernel
theorem dX2_init_0 : decode cX2_init 0 = .ok (.aload_n 0, 1) := by decide +kernel
theorem dX2_init_1 : decode cX2_init 1 = .ok (.invokespecial 3, 3) := by decide +kernel
theorem dX2_init_4 : decode cX2_init 4 = .ok (.aload_n 0, 1) := by decide +kernel
theorem dX2_init_5 : decode cX2_init 5 = .ok (.bipush 24, 2) := by decide +kernel
theorem dX2_init_7 : decode cX2_init 7 = .ok (.anewarray 9, 3) := by decide +kernel
theorem dX2_init_10 : decode cX2_init 10 = .ok (.putfield 11, 3) := by decide +kernel
theorem dX2_init_13 : decode cX2_init 13 = .ok (.return_, 1) := by decide +kernel
theorem dX2_freeCount_0 : decode cX2_freeCount 0 = .ok (.iconst 0, 1) := by decide +kernel
theorem dX2_freeCount_1 : decode cX2_freeCount 1 = .ok (.istore_n 1, 1) := by decide +kernel
theorem dX2_freeCount_2 : decode cX2_freeCount 2 = .ok (.iconst 0, 1) := by decide +kernel
theorem dX2_freeCount_3 : decode cX2_freeCount 3 = .ok (.istore_n 2, 1) := by decide +kernel
theorem dX2_freeCount_4 : decode cX2_freeCount 4 = .ok (.iload_n 2, 1) := by decide +kernel
theorem dX2_freeCount_5 : decode cX2_freeCount 5 = .ok (.bipush 24, 2) := by decide +kernel
theorem dX2_freeCount_7 : decode cX2_freeCount 7 = .ok (.if_icmp .ge 21, 3) := by decide +kernel
theorem dX2_freeCount_10 : decode cX2_freeCount 10 = .ok (.aload_n 0, 1) := by decide +kernel
theorem dX2_freeCount_11 : decode cX2_freeCount 11 = .ok (.getfield 11, 3) := by decide +kernel
theorem dX2_freeCount_14 : decode cX2_freeCount 14 = .ok (.iload_n 2, 1) := by decide +kernel
theorem dX2_freeCount_15 : decode cX2_freeCount 15 = .ok (.aaload, 1) := by decide +kernel
theorem dX2_freeCount_16 : decode cX2_freeCount 16 = .ok (.ifnonnull 6, 3) := by decide +kernel
theorem dX2_freeCount_19 : decode cX2_freeCount 19 = .ok (.iinc 1 1, 3) := by decide +kernel
theorem dX2_freeCount_22 : decode cX2_freeCount 22 = .ok (.iinc 2 1, 3) := by decide +kernel
theorem dX2_freeCount_25 : decode cX2_freeCount 25 = .ok (.goto (-21), 3) := by decide +kernel
theorem dX2_freeCount_28 : decode cX2_freeCount 28 = .ok (.iload_n 1, 1) := by decide +kernel
theorem dX2_freeCount_29 : decode cX2_freeCount 29 = .ok (.ireturn, 1) := by decide +kernel
theorem dX2_roomFor_0 : decode cX2_roomFor 0 = .ok (.iconst 0, 1) := by decide +kernel
theorem dX2_roomFor_1 : decode cX2_roomFor 1 = .ok (.istore_n 2, 1) := by decide +kernel
theorem dX2_roomFor_2 : decode cX2_roomFor 2 = .ok (.iconst 0, 1) := by decide +kernel
theorem dX2_roomFor_3 : decode cX2_roomFor 3 = .ok (.istore_n 3, 1) := by decide +kernel
theorem dX2_roomFor_4 : decode cX2_roomFor 4 = .ok (.iload_n 3, 1) := by decide +kernel
theorem dX2_roomFor_5 : decode cX2_roomFor 5 = .ok (.bipush 24, 2) := by decide +kernel
theorem dX2_roomFor_7 : decode cX2_roomFor 7 = .ok (.if_icmp .ge 37, 3) := by decide +kernel
theorem dX2_roomFor_10 : decode cX2_roomFor 10 = .ok (.aload_n 0, 1) := by decide +kernel
theorem dX2_roomFor_11 : decode cX2_roomFor 11 = .ok (.getfield 11, 3) := by decide +kernel
theorem dX2_roomFor_14 : decode cX2_roomFor 14 = .ok (.iload_n 3, 1) := by decide +kernel
theorem dX2_roomFor_15 : decode cX2_roomFor 15 = .ok (.aaload, 1) := by decide +kernel
theorem dX2_roomFor_16 : decode cX2_roomFor 16 = .ok (.ifnonnull 9, 3) := by decide +kernel
theorem dX2_roomFor_19 : decode cX2_roomFor 19 = .ok (.iload_n 2, 1) := by decide +kernel
theorem dX2_roomFor_20 : decode cX2_roomFor 20 = .ok (.iconst 1, 1) := by decide +kernel
theorem dX2_roomFor_21 : decode cX2_roomFor 21 = .ok (.iadd, 1) := by decide +kernel
theorem dX2_roomFor_22 : decode cX2_roomFor 22 = .ok (.goto 4, 3) := by decide +kernel
theorem dX2_roomFor_25 : decode cX2_roomFor 25 = .ok (.iconst 0, 1) := by decide +kernel
theorem dX2_roomFor_26 : decode cX2_roomFor 26 = .ok (.istore_n 2, 1) := by decide +kernel
theorem dX2_roomFor_27 : decode cX2_roomFor 27 = .ok (.iload_n 2, 1) := by decide +kernel
theorem dX2_roomFor_28 : decode cX2_roomFor 28 = .ok (.iload_n 1, 1) := by decide +kernel
theorem dX2_roomFor_29 : decode cX2_roomFor 29 = .ok (.if_icmp .ne 9, 3) := by decide +kernel
theorem dX2_roomFor_32 : decode cX2_roomFor 32 = .ok (.iload_n 3, 1) := by decide +kernel
theorem dX2_roomFor_33 : decode cX2_roomFor 33 = .ok (.iload_n 1, 1) := by decide +kernel
theorem dX2_roomFor_34 : decode cX2_roomFor 34 = .ok (.isub, 1) := by decide +kernel
theorem dX2_roomFor_35 : decode cX2_roomFor 35 = .ok (.iconst 1, 1) := by decide +kernel
theorem dX2_roomFor_36 : decode cX2_roomFor 36 = .ok (.iadd, 1) := by decide +kernel
theorem dX2_roomFor_37 : decode cX2_roomFor 37 = .ok (.ireturn, 1) := by decide +kernel
theorem dX2_roomFor_38 : decode cX2_roomFor 38 = .ok (.iinc 3 1, 3) := by decide +kernel
theorem dX2_roomFor_41 : decode cX2_roomFor 41 = .ok (.goto (-37), 3) := by decide +kernel
theorem dX2_roomFor_44 : decode cX2_roomFor 44 = .ok (.iconst (-1), 1) := by decide +kernel
theorem dX2_roomFor_45 : decode cX2_roomFor 45 = .ok (.ireturn, 1) := by decide +kernel
theorem dX2_putAll_0 : decode cX2_putAll 0 = .ok (.iconst 0, 1) := by decide +kernel
theorem dX2_putAll_1 : decode cX2_putAll 1 = .ok (.istore 4, 2) := by decide +kernel
theorem dX2_putAll_3 : decode cX2_putAll 3 = .ok (.iload 4, 2) := by decide +kernel
theorem dX2_putAll_5 : decode cX2_putAll 5 = .ok (.iload_n 2, 1) := by decide +kernel
theorem dX2_putAll_6 : decode cX2_putAll 6 = .ok (.if_icmp .ge 62, 3) := by decide +kernel
theorem dX2_putAll_9 : decode cX2_putAll 9 = .ok (.iload 4, 2) := by decide +kernel
theorem dX2_putAll_11 : decode cX2_putAll 11 = .ok (.aload_n 1, 1) := by decide +kernel
theorem dX2_putAll_12 : decode cX2_putAll 12 = .ok (.arraylength, 1) := by decide +kernel
theorem dX2_putAll_13 : decode cX2_putAll 13 = .ok (.if_icmp .ge 55, 3) := by decide +kernel
theorem dX2_putAll_16 : decode cX2_putAll 16 = .ok (.iload_n 3, 1) := by decide +kernel
theorem dX2_putAll_17 : decode cX2_putAll 17 = .ok (.iload 4, 2) := by decide +kernel
theorem dX2_putAll_19 : decode cX2_putAll 19 = .ok (.iadd, 1) := by decide +kernel
theorem dX2_putAll_20 : decode cX2_putAll 20 = .ok (.bipush 24, 2) := by decide +kernel
theorem dX2_putAll_22 : decode cX2_putAll 22 = .ok (.if_icmp .ge 46, 3) := by decide +kernel
theorem dX2_putAll_25 : decode cX2_putAll 25 = .ok (.aload_n 1, 1) := by decide +kernel
theorem dX2_putAll_26 : decode cX2_putAll 26 = .ok (.iload 4, 2) := by decide +kernel
theorem dX2_putAll_28 : decode cX2_putAll 28 = .ok (.aaload, 1) := by decide +kernel
theorem dX2_putAll_29 : decode cX2_putAll 29 = .ok (.astore 5, 2) := by decide +kernel
theorem dX2_putAll_31 : decode cX2_putAll 31 = .ok (.aload 5, 2) := by decide +kernel
theorem dX2_putAll_33 : decode cX2_putAll 33 = .ok (.ifnull 29, 3) := by decide +kernel
theorem dX2_putAll_36 : decode cX2_putAll 36 = .ok (.aload_n 0, 1) := by decide +kernel
theorem dX2_putAll_37 : decode cX2_putAll 37 = .ok (.getfield 11, 3) := by decide +kernel
theorem dX2_putAll_40 : decode cX2_putAll 40 = .ok (.iload_n 3, 1) := by decide +kernel
theorem dX2_putAll_41 : decode cX2_putAll 41 = .ok (.iload 4, 2) := by decide +kernel
theorem dX2_putAll_43 : decode cX2_putAll 43 = .ok (.iadd, 1) := by decide +kernel
theorem dX2_putAll_44 : decode cX2_putAll 44 = .ok (.aload 5, 2) := by decide +kernel
theorem dX2_putAll_46 : decode cX2_putAll 46 = .ok (.aastore, 1) := by decide +kernel
theorem dX2_putAll_47 : decode cX2_putAll 47 = .ok (.aload 5, 2) := by decide +kernel
theorem dX2_putAll_49 : decode cX2_putAll 49 = .ok (.iload_n 3, 1) := by decide +kernel
theorem dX2_putAll_50 : decode cX2_putAll 50 = .ok (.iload 4, 2) := by decide +kernel
theorem dX2_putAll_52 : decode cX2_putAll 52 = .ok (.iadd, 1) := by decide +kernel
theorem dX2_putAll_53 : decode cX2_putAll 53 = .ok (.putfield 17, 3) := by decide +kernel
theorem dX2_putAll_56 : decode cX2_putAll 56 = .ok (.aload 5, 2) := by decide +kernel
theorem dX2_putAll_58 : decode cX2_putAll 58 = .ok (.iconst 0, 1) := by decide +kernel
theorem dX2_putAll_59 : decode cX2_putAll 59 = .ok (.putfield 21, 3) := by decide +kernel
theorem dX2_putAll_62 : decode cX2_putAll 62 = .ok (.iinc 4 1, 3) := by decide +kernel
theorem dX2_putAll_65 : decode cX2_putAll 65 = .ok (.goto (-62), 3) := by decide +kernel
theorem dX2_putAll_68 : decode cX2_putAll 68 = .ok (.return_, 1) := by decide +kernel
theorem dX2_vacateSlotOf_0 : decode cX2_vacateSlotOf 0 = .ok (.aload_n 1, 1) := by decide +kernel
theorem dX2_vacateSlotOf_1 : decode cX2_vacateSlotOf 1 = .ok (.getfield 17, 3) := by decide +kernel
theorem dX2_vacateSlotOf_4 : decode cX2_vacateSlotOf 4 = .ok (.ifCond .lt 22, 3) := by decide +kernel
theorem dX2_vacateSlotOf_7 : decode cX2_vacateSlotOf 7 = .ok (.aload_n 1, 1) := by decide +kernel
theorem dX2_vacateSlotOf_8 : decode cX2_vacateSlotOf 8 = .ok (.getfield 17, 3) := by decide +kernel
theorem dX2_vacateSlotOf_11 : decode cX2_vacateSlotOf 11 = .ok (.bipush 24, 2) := by decide +kernel
theorem dX2_vacateSlotOf_13 : decode cX2_vacateSlotOf 13 = .ok (.if_icmp .ge 13, 3) := by decide +kernel
theorem dX2_vacateSlotOf_16 : decode cX2_vacateSlotOf 16 = .ok (.aload_n 0, 1) := by decide +kernel
theorem dX2_vacateSlotOf_17 : decode cX2_vacateSlotOf 17 = .ok (.getfield 11, 3) := by decide +kernel
theorem dX2_vacateSlotOf_20 : decode cX2_vacateSlotOf 20 = .ok (.aload_n 1, 1) := by decide +kernel
theorem dX2_vacateSlotOf_21 : decode cX2_vacateSlotOf 21 = .ok (.getfield 17, 3) := by decide +kernel
theorem dX2_vacateSlotOf_24 : decode cX2_vacateSlotOf 24 = .ok (.aconst_null, 1) := by decide +kernel
theorem dX2_vacateSlotOf_25 : decode cX2_vacateSlotOf 25 = .ok (.aastore, 1) := by decide +kernel
theorem dX2_vacateSlotOf_26 : decode cX2_vacateSlotOf 26 = .ok (.aload_n 1, 1) := by decide +kernel
theorem dX2_vacateSlotOf_27 : decode cX2_vacateSlotOf 27 = .ok (.iconst (-1), 1) := by decide +kernel
theorem dX2_vacateSlotOf_28 : decode cX2_vacateSlotOf 28 = .ok (.putfield 17, 3) := by decide +kernel
theorem dX2_vacateSlotOf_31 : decode cX2_vacateSlotOf 31 = .ok (.return_, 1) := by decide +kernel
theorem dX3_init_0 : decode cX3_init 0 = .ok (.aload_n 0, 1) := by decide +kernel
theorem dX3_init_1 : decode cX3_init 1 = .ok (.invokespecial 1, 3) := by decide +kernel
theorem dX3_init_4 : decode cX3_init 4 = .ok (.aload_n 0, 1) := by decide +kernel
theorem dX3_init_5 : decode cX3_init 5 = .ok (.sipush 160, 3) := by decide +kernel
theorem dX3_init_8 : decode cX3_init 8 = .ok (.anewarray 9, 3) := by decide +kernel
theorem dX3_init_11 : decode cX3_init 11 = .ok (.putfield 11, 3) := by decide +kernel
theorem dX3_init_14 : decode cX3_init 14 = .ok (.aload_n 0, 1) := by decide +kernel
theorem dX3_init_15 : decode cX3_init 15 = .ok (.bipush 10, 2) := by decide +kernel
theorem dX3_init_17 : decode cX3_init 17 = .ok (.newarray .boolean, 2) := by decide +kernel
theorem dX3_init_19 : decode cX3_init 19 = .ok (.putfield 15, 3) := by decide +kernel
theorem dX3_init_22 : decode cX3_init 22 = .ok (.aload_n 0, 1) := by decide +kernel
theorem dX3_init_23 : decode cX3_init 23 = .ok (.bipush 24, 2) := by decide +kernel
theorem dX3_init_25 : decode cX3_init 25 = .ok (.anewarray 9, 3) := by decide +kernel
theorem dX3_init_28 : decode cX3_init 28 = .ok (.putfield 19, 3) := by decide +kernel
theorem dX3_init_31 : decode cX3_init 31 = .ok (.aload_n 0, 1) := by decide +kernel
theorem dX3_init_32 : decode cX3_init 32 = .ok (.new 22, 3) := by decide +kernel
theorem dX3_init_35 : decode cX3_init 35 = .ok (.dup, 1) := by decide +kernel
theorem dX3_init_36 : decode cX3_init 36 = .ok (.invokespecial 24, 3) := by decide +kernel
theorem dX3_init_39 : decode cX3_init 39 = .ok (.putfield 25, 3) := by decide +kernel
theorem dX3_init_42 : decode cX3_init 42 = .ok (.aload_n 0, 1) := by decide +kernel
theorem dX3_init_43 : decode cX3_init 43 = .ok (.new 29, 3) := by decide +kernel
theorem dX3_init_46 : decode cX3_init 46 = .ok (.dup, 1) := by decide +kernel
theorem dX3_init_47 : decode cX3_init 47 = .ok (.invokespecial 31, 3) := by decide +kernel
theorem dX3_init_50 : decode cX3_init 50 = .ok (.putfield 32, 3) := by decide +kernel
theorem dX3_init_53 : decode cX3_init 53 = .ok (.aload_n 0, 1) := by decide +kernel
theorem dX3_init_54 : decode cX3_init 54 = .ok (.iconst 4, 1) := by decide +kernel
theorem dX3_init_55 : decode cX3_init 55 = .ok (.anewarray 9, 3) := by decide +kernel
theorem dX3_init_58 : decode cX3_init 58 = .ok (.putfield 36, 3) := by decide +kernel
theorem dX3_init_61 : decode cX3_init 61 = .ok (.aload_n 0, 1) := by decide +kernel
theorem dX3_init_62 : decode cX3_init 62 = .ok (.bipush 6, 2) := by decide +kernel
theorem dX3_init_64 : decode cX3_init 64 = .ok (.newarray .int, 2) := by decide +kernel
theorem dX3_init_66 : decode cX3_init 66 = .ok (.putfield 39, 3) := by decide +kernel
theorem dX3_init_69 : decode cX3_init 69 = .ok (.aload_n 0, 1) := by decide +kernel
theorem dX3_init_70 : decode cX3_init 70 = .ok (.iconst 0, 1) := by decide +kernel
theorem dX3_init_71 : decode cX3_init 71 = .ok (.putfield 43, 3) := by decide +kernel
theorem dX3_init_74 : decode cX3_init 74 = .ok (.aload_n 0, 1) := by decide +kernel
theorem dX3_init_75 : decode cX3_init 75 = .ok (.iconst 0, 1) := by decide +kernel
theorem dX3_init_76 : decode cX3_init 76 = .ok (.putfield 47, 3) := by decide +kernel
theorem dX3_init_79 : decode cX3_init 79 = .ok (.aload_n 0, 1) := by decide +kernel
theorem dX3_init_80 : decode cX3_init 80 = .ok (.bipush 8, 2) := by decide +kernel
theorem dX3_init_82 : decode cX3_init 82 = .ok (.putfield 50, 3) := by decide +kernel
theorem dX3_init_85 : decode cX3_init 85 = .ok (.aload_n 0, 1) := by decide +kernel
theorem dX3_init_86 : decode cX3_init 86 = .ok (.iconst 0, 1) := by decide +kernel
theorem dX3_init_87 : decode cX3_init 87 = .ok (.putfield 53, 3) := by decide +kernel
theorem dX3_init_90 : decode cX3_init 90 = .ok (.return_, 1) := by decide +kernel
theorem dX3_setFrames_0 : decode cX3_setFrames 0 = .ok (.iload_n 1, 1) := by decide +kernel
theorem dX3_setFrames_1 : decode cX3_setFrames 1 = .ok (.iconst 4, 1) := by decide +kernel
theorem dX3_setFrames_2 : decode cX3_setFrames 2 = .ok (.if_icmp .lt 9, 3) := by decide +kernel
theorem dX3_setFrames_5 : decode cX3_setFrames 5 = .ok (.iload_n 1, 1) := by decide +kernel
theorem dX3_setFrames_6 : decode cX3_setFrames 6 = .ok (.bipush 12, 2) := by decide +kernel
theorem dX3_setFrames_8 : decode cX3_setFrames 8 = .ok (.if_icmp .le 13, 3) := by decide +kernel
theorem dX3_setFrames_11 : decode cX3_setFrames 11 = .ok (.new 56, 3) := by decide +kernel
theorem dX3_setFrames_14 : decode cX3_setFrames 14 = .ok (.dup, 1) := by decide +kernel
theorem dX3_setFrames_15 : decode cX3_setFrames 15 = .ok (.ldc 58, 2) := by decide +kernel
theorem dX3_setFrames_17 : decode cX3_setFrames 17 = .ok (.invokespecial 60, 3) := by decide +kernel
theorem dX3_setFrames_20 : decode cX3_setFrames 20 = .ok (.athrow, 1) := by decide +kernel
theorem dX3_setFrames_21 : decode cX3_setFrames 21 = .ok (.aload_n 0, 1) := by decide +kernel
theorem dX3_setFrames_22 : decode cX3_setFrames 22 = .ok (.getfield 25, 3) := by decide +kernel
theorem dX3_setFrames_25 : decode cX3_setFrames 25 = .ok (.invokevirtual 63, 3) := by decide +kernel
theorem dX3_setFrames_28 : decode cX3_setFrames 28 = .ok (.aload_n 0, 1) := by decide +kernel
theorem dX3_setFrames_29 : decode cX3_setFrames 29 = .ok (.getfield 25, 3) := by decide +kernel
theorem dX3_setFrames_32 : decode cX3_setFrames 32 = .ok (.getfield 67, 3) := by decide +kernel
theorem dX3_setFrames_35 : decode cX3_setFrames 35 = .ok (.if_icmp .ge 13, 3) := by decide +kernel
theorem dX3_setFrames_38 : decode cX3_setFrames 38 = .ok (.new 70, 3) := by decide +kernel
theorem dX3_setFrames_41 : decode cX3_setFrames 41 = .ok (.dup, 1) := by decide +kernel
theorem dX3_setFrames_42 : decode cX3_setFrames 42 = .ok (.ldc 72, 2) := by decide +kernel
theorem dX3_setFrames_44 : decode cX3_setFrames 44 = .ok (.invokespecial 74, 3) := by decide +kernel
theorem dX3_setFrames_47 : decode cX3_setFrames 47 = .ok (.athrow, 1) := by decide +kernel
theorem dX3_setFrames_48 : decode cX3_setFrames 48 = .ok (.aload_n 0, 1) := by decide +kernel
theorem dX3_setFrames_49 : decode cX3_setFrames 49 = .ok (.getfield 25, 3) := by decide +kernel
theorem dX3_setFrames_52 : decode cX3_setFrames 52 = .ok (.getfield 67, 3) := by decide +kernel
theorem dX3_setFrames_55 : decode cX3_setFrames 55 = .ok (.istore_n 2, 1) := by decide +kernel
theorem dX3_setFrames_56 : decode cX3_setFrames 56 = .ok (.aload_n 0, 1) := by decide +kernel
theorem dX3_setFrames_57 : decode cX3_setFrames 57 = .ok (.getfield 25, 3) := by decide +kernel
theorem dX3_setFrames_60 : decode cX3_setFrames 60 = .ok (.iload_n 1, 1) := by decide +kernel
theorem dX3_setFrames_61 : decode cX3_setFrames 61 = .ok (.putfield 67, 3) := by decide +kernel
theorem dX3_setFrames_64 : decode cX3_setFrames 64 = .ok (.aload_n 0, 1) := by decide +kernel
theorem dX3_setFrames_65 : decode cX3_setFrames 65 = .ok (.getfield 25, 3) := by decide +kernel
theorem dX3_setFrames_68 : decode cX3_setFrames 68 = .ok (.iconst 0, 1) := by decide +kernel
theorem dX3_setFrames_69 : decode cX3_setFrames 69 = .ok (.putfield 75, 3) := by decide +kernel
theorem dX3_setFrames_72 : decode cX3_setFrames 72 = .ok (.iload_n 2, 1) := by decide +kernel
theorem dX3_setFrames_73 : decode cX3_setFrames 73 = .ok (.ireturn, 1) := by decide +kernel
theorem dX3_setWindow_0 : decode cX3_setWindow 0 = .ok (.iload_n 1, 1) := by decide +kernel
theorem dX3_setWindow_1 : decode cX3_setWindow 1 = .ok (.ifCond .lt 9, 3) := by decide +kernel
theorem dX3_setWindow_4 : decode cX3_setWindow 4 = .ok (.iload_n 1, 1) := by decide +kernel
theorem dX3_setWindow_5 : decode cX3_setWindow 5 = .ok (.bipush 50, 2) := by decide +kernel
theorem dX3_setWindow_7 : decode cX3_setWindow 7 = .ok (.if_icmp .le 13, 3) := by decide +kernel
theorem dX3_setWindow_10 : decode cX3_setWindow 10 = .ok (.new 56, 3) := by decide +kernel
theorem dX3_setWindow_13 : decode cX3_setWindow 13 = .ok (.dup, 1) := by decide +kernel
theorem dX3_setWindow_14 : decode cX3_setWindow 14 = .ok (.ldc 78, 2) := by decide +kernel
theorem dX3_setWindow_16 : decode cX3_setWindow 16 = .ok (.invokespecial 60, 3) := by decide +kernel
theorem dX3_setWindow_19 : decode cX3_setWindow 19 = .ok (.athrow, 1) := by decide +kernel
theorem dX3_setWindow_20 : decode cX3_setWindow 20 = .ok (.aload_n 0, 1) := by decide +kernel
theorem dX3_setWindow_21 : decode cX3_setWindow 21 = .ok (.getfield 50, 3) := by decide +kernel
theorem dX3_setWindow_24 : decode cX3_setWindow 24 = .ok (.istore_n 2, 1) := by decide +kernel
theorem dX3_setWindow_25 : decode cX3_setWindow 25 = .ok (.aload_n 0, 1) := by decide +kernel
theorem dX3_setWindow_26 : decode cX3_setWindow 26 = .ok (.iload_n 1, 1) := by decide +kernel
theorem dX3_setWindow_27 : decode cX3_setWindow 27 = .ok (.putfield 50, 3) := by decide +kernel
theorem dX3_setWindow_30 : decode cX3_setWindow 30 = .ok (.iload_n 2, 1) := by decide +kernel
theorem dX3_setWindow_31 : decode cX3_setWindow 31 = .ok (.ireturn, 1) := by decide +kernel
theorem dX3_start_0 : decode cX3_start 0 = .ok (.aload_n 0, 1) := by decide +kernel
theorem dX3_start_1 : decode cX3_start 1 = .ok (.invokevirtual 80, 3) := by decide +kernel
theorem dX3_start_4 : decode cX3_start 4 = .ok (.aload_n 0, 1) := by decide +kernel
theorem dX3_start_5 : decode cX3_start 5 = .ok (.invokevirtual 83, 3) := by decide +kernel
theorem dX3_start_8 : decode cX3_start 8 = .ok (.ireturn, 1) := by decide +kernel
theorem dX3_fork_0 : decode cX3_fork 0 = .ok (.aload_n 0, 1) := by decide +kernel
theorem dX3_fork_1 : decode cX3_fork 1 = .ok (.iload_n 1, 1) := by decide +kernel
theorem dX3_fork_2 : decode cX3_fork 2 = .ok (.invokevirtual 86, 3) := by decide +kernel
theorem dX3_fork_5 : decode cX3_fork 5 = .ok (.aload_n 0, 1) := by decide +kernel
theorem dX3_fork_6 : decode cX3_fork 6 = .ok (.iload_n 1, 1) := by decide +kernel
theorem dX3_fork_7 : decode cX3_fork 7 = .ok (.invokevirtual 90, 3) := by decide +kernel
theorem dX3_fork_10 : decode cX3_fork 10 = .ok (.aload_n 0, 1) := by decide +kernel
theorem dX3_fork_11 : decode cX3_fork 11 = .ok (.invokevirtual 80, 3) := by decide +kernel
theorem dX3_fork_14 : decode cX3_fork 14 = .ok (.aload_n 0, 1) := by decide +kernel
theorem dX3_fork_15 : decode cX3_fork 15 = .ok (.invokevirtual 83, 3) := by decide +kernel
theorem dX3_fork_18 : decode cX3_fork 18 = .ok (.istore_n 2, 1) := by decide +kernel
theorem dX3_fork_19 : decode cX3_fork 19 = .ok (.iconst 0, 1) := by decide +kernel
theorem dX3_fork_20 : decode cX3_fork 20 = .ok (.istore_n 3, 1) := by decide +kernel
theorem dX3_fork_21 : decode cX3_fork 21 = .ok (.iload_n 3, 1) := by decide +kernel
theorem dX3_fork_22 : decode cX3_fork 22 = .ok (.bipush 16, 2) := by decide +kernel
theorem dX3_fork_24 : decode cX3_fork 24 = .ok (.if_icmp .ge 37, 3) := by decide +kernel
theorem dX3_fork_27 : decode cX3_fork 27 = .ok (.aload_n 0, 1) := by decide +kernel
theorem dX3_fork_28 : decode cX3_fork 28 = .ok (.getfield 11, 3) := by decide +kernel
theorem dX3_fork_31 : decode cX3_fork 31 = .ok (.iload_n 1, 1) := by decide +kernel
theorem dX3_fork_32 : decode cX3_fork 32 = .ok (.iload_n 3, 1) := by decide +kernel
theorem dX3_fork_33 : decode cX3_fork 33 = .ok (.invokestatic 93, 3) := by decide +kernel
theorem dX3_fork_36 : decode cX3_fork 36 = .ok (.aaload, 1) := by decide +kernel
theorem dX3_fork_37 : decode cX3_fork 37 = .ok (.astore 4, 2) := by decide +kernel
theorem dX3_fork_39 : decode cX3_fork 39 = .ok (.aload 4, 2) := by decide +kernel
theorem dX3_fork_41 : decode cX3_fork 41 = .ok (.ifnull 14, 3) := by decide +kernel
theorem dX3_fork_44 : decode cX3_fork 44 = .ok (.aload_n 0, 1) := by decide +kernel
theorem dX3_fork_45 : decode cX3_fork 45 = .ok (.iload_n 2, 1) := by decide +kernel
theorem dX3_fork_46 : decode cX3_fork 46 = .ok (.iload_n 3, 1) := by decide +kernel
theorem dX3_fork_47 : decode cX3_fork 47 = .ok (.invokestatic 93, 3) := by decide +kernel
theorem dX3_fork_50 : decode cX3_fork 50 = .ok (.aload 4, 2) := by decide +kernel
theorem dX3_fork_52 : decode cX3_fork 52 = .ok (.invokevirtual 97, 3) := by decide +kernel
theorem dX3_fork_55 : decode cX3_fork 55 = .ok (.iinc 3 1, 3) := by decide +kernel
theorem dX3_fork_58 : decode cX3_fork 58 = .ok (.goto (-37), 3) := by decide +kernel
theorem dX3_fork_61 : decode cX3_fork 61 = .ok (.iload_n 2, 1) := by decide +kernel
theorem dX3_fork_62 : decode cX3_fork 62 = .ok (.ireturn, 1) := by decide +kernel
theorem dX3_exit_0 : decode cX3_exit 0 = .ok (.aload_n 0, 1) := by decide +kernel
theorem dX3_exit_1 : decode cX3_exit 1 = .ok (.iload_n 1, 1) := by decide +kernel
theorem dX3_exit_2 : decode cX3_exit 2 = .ok (.invokevirtual 86, 3) := by decide +kernel
theorem dX3_exit_5 : decode cX3_exit 5 = .ok (.aload_n 0, 1) := by decide +kernel
theorem dX3_exit_6 : decode cX3_exit 6 = .ok (.iload_n 1, 1) := by decide +kernel
theorem dX3_exit_7 : decode cX3_exit 7 = .ok (.invokevirtual 90, 3) := by decide +kernel
theorem dX3_exit_10 : decode cX3_exit 10 = .ok (.iconst 0, 1) := by decide +kernel
theorem dX3_exit_11 : decode cX3_exit 11 = .ok (.istore_n 2, 1) := by decide +kernel
theorem dX3_exit_12 : decode cX3_exit 12 = .ok (.iconst 0, 1) := by decide +kernel
theorem dX3_exit_13 : decode cX3_exit 13 = .ok (.istore_n 3, 1) := by decide +kernel
theorem dX3_exit_14 : decode cX3_exit 14 = .ok (.iload_n 3, 1) := by decide +kernel
theorem dX3_exit_15 : decode cX3_exit 15 = .ok (.bipush 16, 2) := by decide +kernel
theorem dX3_exit_17 : decode cX3_exit 17 = .ok (.if_icmp .ge 24, 3) := by decide +kernel
theorem dX3_exit_20 : decode cX3_exit 20 = .ok (.aload_n 0, 1) := by decide +kernel
theorem dX3_exit_21 : decode cX3_exit 21 = .ok (.iload_n 1, 1) := by decide +kernel
theorem dX3_exit_22 : decode cX3_exit 22 = .ok (.iload_n 3, 1) := by decide +kernel
theorem dX3_exit_23 : decode cX3_exit 23 = .ok (.invokestatic 93, 3) := by decide +kernel
theorem dX3_exit_26 : decode cX3_exit 26 = .ok (.invokevirtual 101, 3) := by decide +kernel
theorem dX3_exit_29 : decode cX3_exit 29 = .ok (.ifCond .eq 6, 3) := by decide +kernel
theorem dX3_exit_32 : decode cX3_exit 32 = .ok (.iinc 2 1, 3) := by decide +kernel
theorem dX3_exit_35 : decode cX3_exit 35 = .ok (.iinc 3 1, 3) := by decide +kernel
theorem dX3_exit_38 : decode cX3_exit 38 = .ok (.goto (-24), 3) := by decide +kernel
theorem dX3_exit_41 : decode cX3_exit 41 = .ok (.aload_n 0, 1) := by decide +kernel
theorem dX3_exit_42 : decode cX3_exit 42 = .ok (.getfield 15, 3) := by decide +kernel
theorem dX3_exit_45 : decode cX3_exit 45 = .ok (.iload_n 1, 1) := by decide +kernel
theorem dX3_exit_46 : decode cX3_exit 46 = .ok (.iconst 0, 1) := by decide +kernel
theorem dX3_exit_47 : decode cX3_exit 47 = .ok (.bastore, 1) := by decide +kernel
theorem dX3_exit_48 : decode cX3_exit 48 = .ok (.iload_n 2, 1) := by decide +kernel
theorem dX3_exit_49 : decode cX3_exit 49 = .ok (.ireturn, 1) := by decide +kernel
theorem dX3_map_0 : decode cX3_map 0 = .ok (.aload_n 0, 1) := by decide +kernel
theorem dX3_map_1 : decode cX3_map 1 = .ok (.iload_n 1, 1) := by decide +kernel
theorem dX3_map_2 : decode cX3_map 2 = .ok (.iload_n 2, 1) := by decide +kernel
theorem dX3_map_3 : decode cX3_map 3 = .ok (.invokevirtual 105, 3) := by decide +kernel
theorem dX3_map_6 : decode cX3_map 6 = .ok (.aload_n 0, 1) := by decide +kernel
theorem dX3_map_7 : decode cX3_map 7 = .ok (.iload_n 1, 1) := by decide +kernel
theorem dX3_map_8 : decode cX3_map 8 = .ok (.invokevirtual 90, 3) := by decide +kernel
theorem dX3_map_11 : decode cX3_map 11 = .ok (.aload_n 0, 1) := by decide +kernel
theorem dX3_map_12 : decode cX3_map 12 = .ok (.iload_n 1, 1) := by decide +kernel
theorem dX3_map_13 : decode cX3_map 13 = .ok (.iload_n 2, 1) := by decide +kernel
theorem dX3_map_14 : decode cX3_map 14 = .ok (.invokevirtual 109, 3) := by decide +kernel
theorem dX3_map_17 : decode cX3_map 17 = .ok (.aload_n 0, 1) := by decide +kernel
theorem dX3_map_18 : decode cX3_map 18 = .ok (.iload_n 1, 1) := by decide +kernel
theorem dX3_map_19 : decode cX3_map 19 = .ok (.iload_n 2, 1) := by decide +kernel
theorem dX3_map_20 : decode cX3_map 20 = .ok (.invokestatic 93, 3) := by decide +kernel
theorem dX3_map_23 : decode cX3_map 23 = .ok (.new 9, 3) := by decide +kernel
theorem dX3_map_26 : decode cX3_map 26 = .ok (.dup, 1) := by decide +kernel
theorem dX3_map_27 : decode cX3_map 27 = .ok (.iconst (-1), 1) := by decide +kernel
theorem dX3_map_28 : decode cX3_map 28 = .ok (.invokespecial 112, 3) := by decide +kernel
theorem dX3_map_31 : decode cX3_map 31 = .ok (.invokevirtual 97, 3) := by decide +kernel
theorem dX3_map_34 : decode cX3_map 34 = .ok (.aload_n 0, 1) := by decide +kernel
theorem dX3_map_35 : decode cX3_map 35 = .ok (.iload_n 1, 1) := by decide +kernel
theorem dX3_map_36 : decode cX3_map 36 = .ok (.invokevirtual 114, 3) := by decide +kernel
theorem dX3_map_39 : decode cX3_map 39 = .ok (.ireturn, 1) := by decide +kernel
theorem dX3_createSegment_0 : decode cX3_createSegment 0 = .ok (.iload_n 1, 1) := by decide +kernel
theorem dX3_createSegment_1 : decode cX3_createSegment 1 = .ok (.iconst 1, 1) := by decide +kernel
theorem dX3_createSegment_2 : decode cX3_createSegment 2 = .ok (.if_icmp .lt 9, 3) := by decide +kernel
theorem dX3_createSegment_5 : decode cX3_createSegment 5 = .ok (.iload_n 1, 1) := by decide +kernel
theorem dX3_createSegment_6 : decode cX3_createSegment 6 = .ok (.bipush 6, 2) := by decide +kernel
theorem dX3_createSegment_8 : decode cX3_createSegment 8 = .ok (.if_icmp .le 13, 3) := by decide +kernel
theorem dX3_createSegment_11 : decode cX3_createSegment 11 = .ok (.new 56, 3) := by decide +kernel
theorem dX3_createSegment_14 : decode cX3_createSegment 14 = .ok (.dup, 1) := by decide +kernel
theorem dX3_createSegment_15 : decode cX3_createSegment 15 = .ok (.ldc 118, 2) := by decide +kernel
theorem dX3_createSegment_17 : decode cX3_createSegment 17 = .ok (.invokespecial 60, 3) := by decide +kernel
theorem dX3_createSegment_20 : decode cX3_createSegment 20 = .ok (.athrow, 1) := by decide +kernel
theorem dX3_createSegment_21 : decode cX3_createSegment 21 = .ok (.aload_n 0, 1) := by decide +kernel
theorem dX3_createSegment_22 : decode cX3_createSegment 22 = .ok (.getfield 47, 3) := by decide +kernel
theorem dX3_createSegment_25 : decode cX3_createSegment 25 = .ok (.iconst 4, 1) := by decide +kernel
theorem dX3_createSegment_26 : decode cX3_createSegment 26 = .ok (.if_icmp .lt 13, 3) := by decide +kernel
theorem dX3_createSegment_29 : decode cX3_createSegment 29 = .ok (.new 70, 3) := by decide +kernel
theorem dX3_createSegment_32 : decode cX3_createSegment 32 = .ok (.dup, 1) := by decide +kernel
theorem dX3_createSegment_33 : decode cX3_createSegment 33 = .ok (.ldc 120, 2) := by decide +kernel
theorem dX3_createSegment_35 : decode cX3_createSegment 35 = .ok (.invokespecial 74, 3) := by decide +kernel
theorem dX3_createSegment_38 : decode cX3_createSegment 38 = .ok (.athrow, 1) := by decide +kernel
theorem dX3_createSegment_39 : decode cX3_createSegment 39 = .ok (.aload_n 0, 1) := by decide +kernel
theorem dX3_createSegment_40 : decode cX3_createSegment 40 = .ok (.getfield 47, 3) := by decide +kernel
theorem dX3_createSegment_43 : decode cX3_createSegment 43 = .ok (.istore_n 2, 1) := by decide +kernel
theorem dX3_createSegment_44 : decode cX3_createSegment 44 = .ok (.iconst 0, 1) := by decide +kernel
theorem dX3_createSegment_45 : decode cX3_createSegment 45 = .ok (.istore_n 3, 1) := by decide +kernel
theorem dX3_createSegment_46 : decode cX3_createSegment 46 = .ok (.iload_n 3, 1) := by decide +kernel
theorem dX3_createSegment_47 : decode cX3_createSegment 47 = .ok (.iload_n 1, 1) := by decide +kernel
theorem dX3_createSegment_48 : decode cX3_createSegment 48 = .ok (.if_icmp .ge 33, 3) := by decide +kernel
theorem dX3_createSegment_51 : decode cX3_createSegment 51 = .ok (.iload_n 2, 1) := by decide +kernel
theorem dX3_createSegment_52 : decode cX3_createSegment 52 = .ok (.bipush 6, 2) := by decide +kernel
theorem dX3_createSegment_54 : decode cX3_createSegment 54 = .ok (.imul, 1) := by decide +kernel
theorem dX3_createSegment_55 : decode cX3_createSegment 55 = .ok (.iload_n 3, 1) := by decide +kernel
theorem dX3_createSegment_56 : decode cX3_createSegment 56 = .ok (.iadd, 1) := by decide +kernel
theorem dX3_createSegment_57 : decode cX3_createSegment 57 = .ok (.istore 4, 2) := by decide +kernel
theorem dX3_createSegment_59 : decode cX3_createSegment 59 = .ok (.aload_n 0, 1) := by decide +kernel
theorem dX3_createSegment_60 : decode cX3_createSegment 60 = .ok (.getfield 19, 3) := by decide +kernel
theorem dX3_createSegment_63 : decode cX3_createSegment 63 = .ok (.iload 4, 2) := by decide +kernel
theorem dX3_createSegment_65 : decode cX3_createSegment 65 = .ok (.new 9, 3) := by decide +kernel
theorem dX3_createSegment_68 : decode cX3_createSegment 68 = .ok (.dup, 1) := by decide +kernel
theorem dX3_createSegment_69 : decode cX3_createSegment 69 = .ok (.iload 4, 2) := by decide +kernel
theorem dX3_createSegment_71 : decode cX3_createSegment 71 = .ok (.invokespecial 112, 3) := by decide +kernel
theorem dX3_createSegment_74 : decode cX3_createSegment 74 = .ok (.aastore, 1) := by decide +kernel
theorem dX3_createSegment_75 : decode cX3_createSegment 75 = .ok (.iinc 3 1, 3) := by decide +kernel
theorem dX3_createSegment_78 : decode cX3_createSegment 78 = .ok (.goto (-32), 3) := by decide +kernel
theorem dX3_createSegment_81 : decode cX3_createSegment 81 = .ok (.aload_n 0, 1) := by decide +kernel
theorem dX3_createSegment_82 : decode cX3_createSegment 82 = .ok (.dup, 1) := by decide +kernel
theorem dX3_createSegment_83 : decode cX3_createSegment 83 = .ok (.getfield 47, 3) := by decide +kernel
theorem dX3_createSegment_86 : decode cX3_createSegment 86 = .ok (.iconst 1, 1) := by decide +kernel
theorem dX3_createSegment_87 : decode cX3_createSegment 87 = .ok (.iadd, 1) := by decide +kernel
theorem dX3_createSegment_88 : decode cX3_createSegment 88 = .ok (.putfield 47, 3) := by decide +kernel
theorem dX3_createSegment_91 : decode cX3_createSegment 91 = .ok (.iload_n 2, 1) := by decide +kernel
theorem dX3_createSegment_92 : decode cX3_createSegment 92 = .ok (.ireturn, 1) := by decide +kernel
theorem dX3_attach_0 : decode cX3_attach 0 = .ok (.aload_n 0, 1) := by decide +kernel
theorem dX3_attach_1 : decode cX3_attach 1 = .ok (.iload_n 1, 1) := by decide +kernel
theorem dX3_attach_2 : decode cX3_attach 2 = .ok (.iload_n 2, 1) := by decide +kernel
theorem dX3_attach_3 : decode cX3_attach 3 = .ok (.invokevirtual 105, 3) := by decide +kernel
theorem dX3_attach_6 : decode cX3_attach 6 = .ok (.aload_n 0, 1) := by decide +kernel
theorem dX3_attach_7 : decode cX3_attach 7 = .ok (.iload_n 3, 1) := by decide +kernel
theorem dX3_attach_8 : decode cX3_attach 8 = .ok (.iload 4, 2) := by decide +kernel
theorem dX3_attach_10 : decode cX3_attach 10 = .ok (.invokevirtual 122, 3) := by decide +kernel
theorem dX3_attach_13 : decode cX3_attach 13 = .ok (.astore 5, 2) := by decide +kernel
theorem dX3_attach_15 : decode cX3_attach 15 = .ok (.aload_n 0, 1) := by decide +kernel
theorem dX3_attach_16 : decode cX3_attach 16 = .ok (.iload_n 1, 1) := by decide +kernel
theorem dX3_attach_17 : decode cX3_attach 17 = .ok (.invokevirtual 90, 3) := by decide +kernel
theorem dX3_attach_20 : decode cX3_attach 20 = .ok (.aload_n 0, 1) := by decide +kernel
theorem dX3_attach_21 : decode cX3_attach 21 = .ok (.iload_n 1, 1) := by decide +kernel
theorem dX3_attach_22 : decode cX3_attach 22 = .ok (.iload_n 2, 1) := by decide +kernel
theorem dX3_attach_23 : decode cX3_attach 23 = .ok (.invokevirtual 109, 3) := by decide +kernel
theorem dX3_attach_26 : decode cX3_attach 26 = .ok (.aload_n 0, 1) := by decide +kernel
theorem dX3_attach_27 : decode cX3_attach 27 = .ok (.iload_n 1, 1) := by decide +kernel
theorem dX3_attach_28 : decode cX3_attach 28 = .ok (.iload_n 2, 1) := by decide +kernel
theorem dX3_attach_29 : decode cX3_attach 29 = .ok (.invokestatic 93, 3) := by decide +kernel
theorem dX3_attach_32 : decode cX3_attach 32 = .ok (.aload 5, 2) := by decide +kernel
theorem dX3_attach_34 : decode cX3_attach 34 = .ok (.invokevirtual 97, 3) := by decide +kernel
theorem dX3_attach_37 : decode cX3_attach 37 = .ok (.aload_n 0, 1) := by decide +kernel
theorem dX3_attach_38 : decode cX3_attach 38 = .ok (.iload_n 1, 1) := by decide +kernel
theorem dX3_attach_39 : decode cX3_attach 39 = .ok (.invokevirtual 114, 3) := by decide +kernel
theorem dX3_attach_42 : decode cX3_attach 42 = .ok (.ireturn, 1) := by decide +kernel
theorem dX3_unmap_0 : decode cX3_unmap 0 = .ok (.aload_n 0, 1) := by decide +kernel
theorem dX3_unmap_1 : decode cX3_unmap 1 = .ok (.iload_n 1, 1) := by decide +kernel
theorem dX3_unmap_2 : decode cX3_unmap 2 = .ok (.iload_n 2, 1) := by decide +kernel
theorem dX3_unmap_3 : decode cX3_unmap 3 = .ok (.invokevirtual 105, 3) := by decide +kernel
theorem dX3_unmap_6 : decode cX3_unmap 6 = .ok (.aload_n 0, 1) := by decide +kernel
theorem dX3_unmap_7 : decode cX3_unmap 7 = .ok (.iload_n 1, 1) := by decide +kernel
theorem dX3_unmap_8 : decode cX3_unmap 8 = .ok (.invokevirtual 90, 3) := by decide +kernel
theorem dX3_unmap_11 : decode cX3_unmap 11 = .ok (.aload_n 0, 1) := by decide +kernel
theorem dX3_unmap_12 : decode cX3_unmap 12 = .ok (.iload_n 1, 1) := by decide +kernel
theorem dX3_unmap_13 : decode cX3_unmap 13 = .ok (.iload_n 2, 1) := by decide +kernel
theorem dX3_unmap_14 : decode cX3_unmap 14 = .ok (.invokevirtual 126, 3) := by decide +kernel
theorem dX3_unmap_17 : decode cX3_unmap 17 = .ok (.pop, 1) := by decide +kernel
theorem dX3_unmap_18 : decode cX3_unmap 18 = .ok (.aload_n 0, 1) := by decide +kernel
theorem dX3_unmap_19 : decode cX3_unmap 19 = .ok (.iload_n 1, 1) := by decide +kernel
theorem dX3_unmap_20 : decode cX3_unmap 20 = .ok (.iload_n 2, 1) := by decide +kernel
theorem dX3_unmap_21 : decode cX3_unmap 21 = .ok (.invokestatic 93, 3) := by decide +kernel
theorem dX3_unmap_24 : decode cX3_unmap 24 = .ok (.invokevirtual 101, 3) := by decide +kernel
theorem dX3_unmap_27 : decode cX3_unmap 27 = .ok (.ireturn, 1) := by decide +kernel
theorem dX3_isLive_0 : decode cX3_isLive 0 = .ok (.aload_n 0, 1) := by decide +kernel
theorem dX3_isLive_1 : decode cX3_isLive 1 = .ok (.iload_n 1, 1) := by decide +kernel
theorem dX3_isLive_2 : decode cX3_isLive 2 = .ok (.invokevirtual 86, 3) := by decide +kernel
theorem dX3_isLive_5 : decode cX3_isLive 5 = .ok (.aload_n 0, 1) := by decide +kernel
theorem dX3_isLive_6 : decode cX3_isLive 6 = .ok (.getfield 15, 3) := by decide +kernel
theorem dX3_isLive_9 : decode cX3_isLive 9 = .ok (.iload_n 1, 1) := by decide +kernel
theorem dX3_isLive_10 : decode cX3_isLive 10 = .ok (.baload, 1) := by decide +kernel
theorem dX3_isLive_11 : decode cX3_isLive 11 = .ok (.ireturn, 1) := by decide +kernel
theorem dX3_mapping_0 : decode cX3_mapping 0 = .ok (.aload_n 0, 1) := by decide +kernel
theorem dX3_mapping_1 : decode cX3_mapping 1 = .ok (.iload_n 1, 1) := by decide +kernel
theorem dX3_mapping_2 : decode cX3_mapping 2 = .ok (.iload_n 2, 1) := by decide +kernel
theorem dX3_mapping_3 : decode cX3_mapping 3 = .ok (.invokevirtual 105, 3) := by decide +kernel
theorem dX3_mapping_6 : decode cX3_mapping 6 = .ok (.aload_n 0, 1) := by decide +kernel
theorem dX3_mapping_7 : decode cX3_mapping 7 = .ok (.getfield 11, 3) := by decide +kernel
theorem dX3_mapping_10 : decode cX3_mapping 10 = .ok (.iload_n 1, 1) := by decide +kernel
theorem dX3_mapping_11 : decode cX3_mapping 11 = .ok (.iload_n 2, 1) := by decide +kernel
theorem dX3_mapping_12 : decode cX3_mapping 12 = .ok (.invokestatic 93, 3) := by decide +kernel
theorem dX3_mapping_15 : decode cX3_mapping 15 = .ok (.aaload, 1) := by decide +kernel
theorem dX3_mapping_16 : decode cX3_mapping 16 = .ok (.astore_n 3, 1) := by decide +kernel
theorem dX3_mapping_17 : decode cX3_mapping 17 = .ok (.aload_n 3, 1) := by decide +kernel
theorem dX3_mapping_18 : decode cX3_mapping 18 = .ok (.ifnonnull 5, 3) := by decide +kernel
theorem dX3_mapping_21 : decode cX3_mapping 21 = .ok (.iconst 0, 1) := by decide +kernel
theorem dX3_mapping_22 : decode cX3_mapping 22 = .ok (.ireturn, 1) := by decide +kernel
theorem dX3_mapping_23 : decode cX3_mapping 23 = .ok (.aload_n 3, 1) := by decide +kernel
theorem dX3_mapping_24 : decode cX3_mapping 24 = .ok (.getfield 129, 3) := by decide +kernel
theorem dX3_mapping_27 : decode cX3_mapping 27 = .ok (.ifCond .eq 7, 3) := by decide +kernel
theorem dX3_mapping_30 : decode cX3_mapping 30 = .ok (.iconst 2, 1) := by decide +kernel
theorem dX3_mapping_31 : decode cX3_mapping 31 = .ok (.goto 4, 3) := by decide +kernel
theorem dX3_mapping_34 : decode cX3_mapping 34 = .ok (.iconst 1, 1) := by decide +kernel
theorem dX3_mapping_35 : decode cX3_mapping 35 = .ok (.ireturn, 1) := by decide +kernel
theorem dX3_read_0 : decode cX3_read 0 = .ok (.aload_n 0, 1) := by decide +kernel
theorem dX3_read_1 : decode cX3_read 1 = .ok (.iload_n 1, 1) := by decide +kernel
theorem dX3_read_2 : decode cX3_read 2 = .ok (.iload_n 2, 1) := by decide +kernel
theorem dX3_read_3 : decode cX3_read 3 = .ok (.invokevirtual 133, 3) := by decide +kernel
theorem dX3_read_6 : decode cX3_read 6 = .ok (.astore_n 3, 1) := by decide +kernel
theorem dX3_read_7 : decode cX3_read 7 = .ok (.aload_n 3, 1) := by decide +kernel
theorem dX3_read_8 : decode cX3_read 8 = .ok (.getfield 136, 3) := by decide +kernel
theorem dX3_read_11 : decode cX3_read 11 = .ok (.iconst (-1), 1) := by decide +kernel
theorem dX3_read_12 : decode cX3_read 12 = .ok (.if_icmp .ne 7, 3) := by decide +kernel
theorem dX3_read_15 : decode cX3_read 15 = .ok (.aload_n 0, 1) := by decide +kernel
theorem dX3_read_16 : decode cX3_read 16 = .ok (.invokevirtual 139, 3) := by decide +kernel
theorem dX3_read_19 : decode cX3_read 19 = .ok (.aload_n 0, 1) := by decide +kernel
theorem dX3_read_20 : decode cX3_read 20 = .ok (.dup, 1) := by decide +kernel
theorem dX3_read_21 : decode cX3_read 21 = .ok (.getfield 53, 3) := by decide +kernel
theorem dX3_read_24 : decode cX3_read 24 = .ok (.iconst 1, 1) := by decide +kernel
theorem dX3_read_25 : decode cX3_read 25 = .ok (.iadd, 1) := by decide +kernel
theorem dX3_read_26 : decode cX3_read 26 = .ok (.putfield 53, 3) := by decide +kernel
theorem dX3_read_29 : decode cX3_read 29 = .ok (.aload_n 0, 1) := by decide +kernel
theorem dX3_read_30 : decode cX3_read 30 = .ok (.aload_n 3, 1) := by decide +kernel
theorem dX3_read_31 : decode cX3_read 31 = .ok (.invokevirtual 142, 3) := by decide +kernel
theorem dX3_read_34 : decode cX3_read 34 = .ok (.aload_n 0, 1) := by decide +kernel
theorem dX3_read_35 : decode cX3_read 35 = .ok (.getfield 25, 3) := by decide +kernel
theorem dX3_read_38 : decode cX3_read 38 = .ok (.aload_n 3, 1) := by decide +kernel
theorem dX3_read_39 : decode cX3_read 39 = .ok (.getfield 136, 3) := by decide +kernel
theorem dX3_read_42 : decode cX3_read 42 = .ok (.aload_n 0, 1) := by decide +kernel
theorem dX3_read_43 : decode cX3_read 43 = .ok (.getfield 53, 3) := by decide +kernel
theorem dX3_read_46 : decode cX3_read 46 = .ok (.invokevirtual 146, 3) := by decide +kernel
theorem dX3_read_49 : decode cX3_read 49 = .ok (.aload_n 3, 1) := by decide +kernel
theorem dX3_read_50 : decode cX3_read 50 = .ok (.getfield 149, 3) := by decide +kernel
theorem dX3_read_53 : decode cX3_read 53 = .ok (.iload_n 2, 1) := by decide +kernel
theorem dX3_read_54 : decode cX3_read 54 = .ok (.iconst 4, 1) := by decide +kernel
theorem dX3_read_55 : decode cX3_read 55 = .ok (.irem, 1) := by decide +kernel
theorem dX3_read_56 : decode cX3_read 56 = .ok (.iaload, 1) := by decide +kernel
theorem dX3_read_57 : decode cX3_read 57 = .ok (.ireturn, 1) := by decide +kernel
theorem dX3_write_0 : decode cX3_write 0 = .ok (.aload_n 0, 1) := by decide +kernel
theorem dX3_write_1 : decode cX3_write 1 = .ok (.iload_n 1, 1) := by decide +kernel
theorem dX3_write_2 : decode cX3_write 2 = .ok (.iload_n 2, 1) := by decide +kernel
theorem dX3_write_3 : decode cX3_write 3 = .ok (.invokevirtual 133, 3) := by decide +kernel
theorem dX3_write_6 : decode cX3_write 6 = .ok (.astore 4, 2) := by decide +kernel
theorem dX3_write_8 : decode cX3_write 8 = .ok (.aload 4, 2) := by decide +kernel
theorem dX3_write_10 : decode cX3_write 10 = .ok (.getfield 129, 3) := by decide +kernel
theorem dX3_write_13 : decode cX3_write 13 = .ok (.ifCond .ne 16, 3) := by decide +kernel
theorem dX3_write_16 : decode cX3_write 16 = .ok (.aload 4, 2) := by decide +kernel
theorem dX3_write_18 : decode cX3_write 18 = .ok (.getfield 152, 3) := by decide +kernel
theorem dX3_write_21 : decode cX3_write 21 = .ok (.iconst 1, 1) := by decide +kernel
theorem dX3_write_22 : decode cX3_write 22 = .ok (.if_icmp .le 7, 3) := by decide +kernel
theorem dX3_write_25 : decode cX3_write 25 = .ok (.iconst 1, 1) := by decide +kernel
theorem dX3_write_26 : decode cX3_write 26 = .ok (.goto 4, 3) := by decide +kernel
theorem dX3_write_29 : decode cX3_write 29 = .ok (.iconst 0, 1) := by decide +kernel
theorem dX3_write_30 : decode cX3_write 30 = .ok (.istore 5, 2) := by decide +kernel
theorem dX3_write_32 : decode cX3_write 32 = .ok (.iload 5, 2) := by decide +kernel
theorem dX3_write_34 : decode cX3_write 34 = .ok (.ifCond .ne 12, 3) := by decide +kernel
theorem dX3_write_37 : decode cX3_write 37 = .ok (.aload 4, 2) := by decide +kernel
theorem dX3_write_39 : decode cX3_write 39 = .ok (.getfield 136, 3) := by decide +kernel
theorem dX3_write_42 : decode cX3_write 42 = .ok (.iconst (-1), 1) := by decide +kernel
theorem dX3_write_43 : decode cX3_write 43 = .ok (.if_icmp .ne 7, 3) := by decide +kernel
theorem dX3_write_46 : decode cX3_write 46 = .ok (.aload_n 0, 1) := by decide +kernel
theorem dX3_write_47 : decode cX3_write 47 = .ok (.invokevirtual 139, 3) := by decide +kernel
theorem dX3_write_50 : decode cX3_write 50 = .ok (.aload_n 0, 1) := by decide +kernel
theorem dX3_write_51 : decode cX3_write 51 = .ok (.dup, 1) := by decide +kernel
theorem dX3_write_52 : decode cX3_write 52 = .ok (.getfield 53, 3) := by decide +kernel
theorem dX3_write_55 : decode cX3_write 55 = .ok (.iconst 1, 1) := by decide +kernel
theorem dX3_write_56 : decode cX3_write 56 = .ok (.iadd, 1) := by decide +kernel
theorem dX3_write_57 : decode cX3_write 57 = .ok (.putfield 53, 3) := by decide +kernel
theorem dX3_write_60 : decode cX3_write 60 = .ok (.aload_n 0, 1) := by decide +kernel
theorem dX3_write_61 : decode cX3_write 61 = .ok (.aload 4, 2) := by decide +kernel
theorem dX3_write_63 : decode cX3_write 63 = .ok (.invokevirtual 142, 3) := by decide +kernel
theorem dX3_write_66 : decode cX3_write 66 = .ok (.iload 5, 2) := by decide +kernel
theorem dX3_write_68 : decode cX3_write 68 = .ok (.ifCond .eq 18, 3) := by decide +kernel
theorem dX3_write_71 : decode cX3_write 71 = .ok (.aload_n 0, 1) := by decide +kernel
theorem dX3_write_72 : decode cX3_write 72 = .ok (.iload_n 1, 1) := by decide +kernel
theorem dX3_write_73 : decode cX3_write 73 = .ok (.iload_n 2, 1) := by decide +kernel
theorem dX3_write_74 : decode cX3_write 74 = .ok (.iconst 4, 1) := by decide +kernel
theorem dX3_write_75 : decode cX3_write 75 = .ok (.idiv, 1) := by decide +kernel
theorem dX3_write_76 : decode cX3_write 76 = .ok (.invokestatic 93, 3) := by decide +kernel
theorem dX3_write_79 : decode cX3_write 79 = .ok (.aload 4, 2) := by decide +kernel
theorem dX3_write_81 : decode cX3_write 81 = .ok (.invokevirtual 155, 3) := by decide +kernel
theorem dX3_write_84 : decode cX3_write 84 = .ok (.astore 4, 2) := by decide +kernel
theorem dX3_write_86 : decode cX3_write 86 = .ok (.aload 4, 2) := by decide +kernel
theorem dX3_write_88 : decode cX3_write 88 = .ok (.getfield 149, 3) := by decide +kernel
theorem dX3_write_91 : decode cX3_write 91 = .ok (.iload_n 2, 1) := by decide +kernel
theorem dX3_write_92 : decode cX3_write 92 = .ok (.iconst 4, 1) := by decide +kernel
theorem dX3_write_93 : decode cX3_write 93 = .ok (.irem, 1) := by decide +kernel
theorem dX3_write_94 : decode cX3_write 94 = .ok (.iaload, 1) := by decide +kernel
theorem dX3_write_95 : decode cX3_write 95 = .ok (.istore 6, 2) := by decide +kernel
theorem dX3_write_97 : decode cX3_write 97 = .ok (.aload 4, 2) := by decide +kernel
theorem dX3_write_99 : decode cX3_write 99 = .ok (.getfield 149, 3) := by decide +kernel
theorem dX3_write_102 : decode cX3_write 102 = .ok (.iload_n 2, 1) := by decide +kernel
theorem dX3_write_103 : decode cX3_write 103 = .ok (.iconst 4, 1) := by decide +kernel
theorem dX3_write_104 : decode cX3_write 104 = .ok (.irem, 1) := by decide +kernel
theorem dX3_write_105 : decode cX3_write 105 = .ok (.iload_n 3, 1) := by decide +kernel
theorem dX3_write_106 : decode cX3_write 106 = .ok (.iastore, 1) := by decide +kernel
theorem dX3_write_107 : decode cX3_write 107 = .ok (.aload_n 0, 1) := by decide +kernel
theorem dX3_write_108 : decode cX3_write 108 = .ok (.getfield 32, 3) := by decide +kernel
theorem dX3_write_111 : decode cX3_write 111 = .ok (.aload 4, 2) := by decide +kernel
theorem dX3_write_113 : decode cX3_write 113 = .ok (.invokevirtual 159, 3) := by decide +kernel
theorem dX3_write_116 : decode cX3_write 116 = .ok (.aload 4, 2) := by decide +kernel
theorem dX3_write_118 : decode cX3_write 118 = .ok (.iconst 1, 1) := by decide +kernel
theorem dX3_write_119 : decode cX3_write 119 = .ok (.putfield 162, 3) := by decide +kernel
theorem dX3_write_122 : decode cX3_write 122 = .ok (.aload_n 0, 1) := by decide +kernel
theorem dX3_write_123 : decode cX3_write 123 = .ok (.getfield 25, 3) := by decide +kernel
theorem dX3_write_126 : decode cX3_write 126 = .ok (.aload 4, 2) := by decide +kernel
theorem dX3_write_128 : decode cX3_write 128 = .ok (.getfield 136, 3) := by decide +kernel
theorem dX3_write_131 : decode cX3_write 131 = .ok (.aload_n 0, 1) := by decide +kernel
theorem dX3_write_132 : decode cX3_write 132 = .ok (.getfield 53, 3) := by decide +kernel
theorem dX3_write_135 : decode cX3_write 135 = .ok (.invokevirtual 146, 3) := by decide +kernel
theorem dX3_write_138 : decode cX3_write 138 = .ok (.iload 6, 2) := by decide +kernel
theorem dX3_write_140 : decode cX3_write 140 = .ok (.ireturn, 1) := by decide +kernel
theorem dX3_sync_0 : decode cX3_sync 0 = .ok (.iconst 0, 1) := by decide +kernel
theorem dX3_sync_1 : decode cX3_sync 1 = .ok (.istore_n 1, 1) := by decide +kernel
theorem dX3_sync_2 : decode cX3_sync 2 = .ok (.iconst 0, 1) := by decide +kernel
theorem dX3_sync_3 : decode cX3_sync 3 = .ok (.istore_n 2, 1) := by decide +kernel
theorem dX3_sync_4 : decode cX3_sync 4 = .ok (.iload_n 2, 1) := by decide +kernel
theorem dX3_sync_5 : decode cX3_sync 5 = .ok (.aload_n 0, 1) := by decide +kernel
theorem dX3_sync_6 : decode cX3_sync 6 = .ok (.getfield 25, 3) := by decide +kernel
theorem dX3_sync_9 : decode cX3_sync 9 = .ok (.getfield 67, 3) := by decide +kernel
theorem dX3_sync_12 : decode cX3_sync 12 = .ok (.if_icmp .ge 38, 3) := by decide +kernel
theorem dX3_sync_15 : decode cX3_sync 15 = .ok (.aload_n 0, 1) := by decide +kernel
theorem dX3_sync_16 : decode cX3_sync 16 = .ok (.getfield 25, 3) := by decide +kernel
theorem dX3_sync_19 : decode cX3_sync 19 = .ok (.getfield 165, 3) := by decide +kernel
theorem dX3_sync_22 : decode cX3_sync 22 = .ok (.iload_n 2, 1) := by decide +kernel
theorem dX3_sync_23 : decode cX3_sync 23 = .ok (.aaload, 1) := by decide +kernel
theorem dX3_sync_24 : decode cX3_sync 24 = .ok (.astore_n 3, 1) := by decide +kernel
theorem dX3_sync_25 : decode cX3_sync 25 = .ok (.aload_n 3, 1) := by decide +kernel
theorem dX3_sync_26 : decode cX3_sync 26 = .ok (.ifnull 18, 3) := by decide +kernel
theorem dX3_sync_29 : decode cX3_sync 29 = .ok (.aload_n 3, 1) := by decide +kernel
theorem dX3_sync_30 : decode cX3_sync 30 = .ok (.getfield 162, 3) := by decide +kernel
theorem dX3_sync_33 : decode cX3_sync 33 = .ok (.ifCond .eq 11, 3) := by decide +kernel
theorem dX3_sync_36 : decode cX3_sync 36 = .ok (.iload_n 1, 1) := by decide +kernel
theorem dX3_sync_37 : decode cX3_sync 37 = .ok (.aload_n 0, 1) := by decide +kernel
theorem dX3_sync_38 : decode cX3_sync 38 = .ok (.aload_n 3, 1) := by decide +kernel
theorem dX3_sync_39 : decode cX3_sync 39 = .ok (.invokevirtual 168, 3) := by decide +kernel
theorem dX3_sync_42 : decode cX3_sync 42 = .ok (.iadd, 1) := by decide +kernel
theorem dX3_sync_43 : decode cX3_sync 43 = .ok (.istore_n 1, 1) := by decide +kernel
theorem dX3_sync_44 : decode cX3_sync 44 = .ok (.iinc 2 1, 3) := by decide +kernel
theorem dX3_sync_47 : decode cX3_sync 47 = .ok (.goto (-43), 3) := by decide +kernel
theorem dX3_sync_50 : decode cX3_sync 50 = .ok (.iload_n 1, 1) := by decide +kernel
theorem dX3_sync_51 : decode cX3_sync 51 = .ok (.ireturn, 1) := by decide +kernel
theorem dX3_time_0 : decode cX3_time 0 = .ok (.aload_n 0, 1) := by decide +kernel
theorem dX3_time_1 : decode cX3_time 1 = .ok (.getfield 53, 3) := by decide +kernel
theorem dX3_time_4 : decode cX3_time 4 = .ok (.ireturn, 1) := by decide +kernel
theorem dX3_hand_0 : decode cX3_hand 0 = .ok (.aload_n 0, 1) := by decide +kernel
theorem dX3_hand_1 : decode cX3_hand 1 = .ok (.getfield 25, 3) := by decide +kernel
theorem dX3_hand_4 : decode cX3_hand 4 = .ok (.getfield 75, 3) := by decide +kernel
theorem dX3_hand_7 : decode cX3_hand 7 = .ok (.ireturn, 1) := by decide +kernel
theorem dX3_frameOf_0 : decode cX3_frameOf 0 = .ok (.aload_n 0, 1) := by decide +kernel
theorem dX3_frameOf_1 : decode cX3_frameOf 1 = .ok (.iload_n 1, 1) := by decide +kernel
theorem dX3_frameOf_2 : decode cX3_frameOf 2 = .ok (.iload_n 2, 1) := by decide +kernel
theorem dX3_frameOf_3 : decode cX3_frameOf 3 = .ok (.invokevirtual 105, 3) := by decide +kernel
theorem dX3_frameOf_6 : decode cX3_frameOf 6 = .ok (.aload_n 0, 1) := by decide +kernel
theorem dX3_frameOf_7 : decode cX3_frameOf 7 = .ok (.getfield 11, 3) := by decide +kernel
theorem dX3_frameOf_10 : decode cX3_frameOf 10 = .ok (.iload_n 1, 1) := by decide +kernel
theorem dX3_frameOf_11 : decode cX3_frameOf 11 = .ok (.iload_n 2, 1) := by decide +kernel
theorem dX3_frameOf_12 : decode cX3_frameOf 12 = .ok (.invokestatic 93, 3) := by decide +kernel
theorem dX3_frameOf_15 : decode cX3_frameOf 15 = .ok (.aaload, 1) := by decide +kernel
theorem dX3_frameOf_16 : decode cX3_frameOf 16 = .ok (.astore_n 3, 1) := by decide +kernel
theorem dX3_frameOf_17 : decode cX3_frameOf 17 = .ok (.aload_n 3, 1) := by decide +kernel
theorem dX3_frameOf_18 : decode cX3_frameOf 18 = .ok (.ifnonnull 7, 3) := by decide +kernel
theorem dX3_frameOf_21 : decode cX3_frameOf 21 = .ok (.iconst (-1), 1) := by decide +kernel
theorem dX3_frameOf_22 : decode cX3_frameOf 22 = .ok (.goto 7, 3) := by decide +kernel
theorem dX3_frameOf_25 : decode cX3_frameOf 25 = .ok (.aload_n 3, 1) := by decide +kernel
theorem dX3_frameOf_26 : decode cX3_frameOf 26 = .ok (.getfield 136, 3) := by decide +kernel
theorem dX3_frameOf_29 : decode cX3_frameOf 29 = .ok (.ireturn, 1) := by decide +kernel
theorem dX3_slotOf_0 : decode cX3_slotOf 0 = .ok (.aload_n 0, 1) := by decide +kernel
theorem dX3_slotOf_1 : decode cX3_slotOf 1 = .ok (.iload_n 1, 1) := by decide +kernel
theorem dX3_slotOf_2 : decode cX3_slotOf 2 = .ok (.iload_n 2, 1) := by decide +kernel
theorem dX3_slotOf_3 : decode cX3_slotOf 3 = .ok (.invokevirtual 105, 3) := by decide +kernel
theorem dX3_slotOf_6 : decode cX3_slotOf 6 = .ok (.aload_n 0, 1) := by decide +kernel
theorem dX3_slotOf_7 : decode cX3_slotOf 7 = .ok (.getfield 11, 3) := by decide +kernel
theorem dX3_slotOf_10 : decode cX3_slotOf 10 = .ok (.iload_n 1, 1) := by decide +kernel
theorem dX3_slotOf_11 : decode cX3_slotOf 11 = .ok (.iload_n 2, 1) := by decide +kernel
theorem dX3_slotOf_12 : decode cX3_slotOf 12 = .ok (.invokestatic 93, 3) := by decide +kernel
theorem dX3_slotOf_15 : decode cX3_slotOf 15 = .ok (.aaload, 1) := by decide +kernel
theorem dX3_slotOf_16 : decode cX3_slotOf 16 = .ok (.astore_n 3, 1) := by decide +kernel
theorem dX3_slotOf_17 : decode cX3_slotOf 17 = .ok (.aload_n 3, 1) := by decide +kernel
theorem dX3_slotOf_18 : decode cX3_slotOf 18 = .ok (.ifnonnull 7, 3) := by decide +kernel
theorem dX3_slotOf_21 : decode cX3_slotOf 21 = .ok (.iconst (-1), 1) := by decide +kernel
theorem dX3_slotOf_22 : decode cX3_slotOf 22 = .ok (.goto 7, 3) := by decide +kernel
theorem dX3_slotOf_25 : decode cX3_slotOf 25 = .ok (.aload_n 3, 1) := by decide +kernel
theorem dX3_slotOf_26 : decode cX3_slotOf 26 = .ok (.getfield 172, 3) := by decide +kernel
theorem dX3_slotOf_29 : decode cX3_slotOf 29 = .ok (.ireturn, 1) := by decide +kernel
theorem dX3_sharersOf_0 : decode cX3_sharersOf 0 = .ok (.aload_n 0, 1) := by decide +kernel
theorem dX3_sharersOf_1 : decode cX3_sharersOf 1 = .ok (.iload_n 1, 1) := by decide +kernel
theorem dX3_sharersOf_2 : decode cX3_sharersOf 2 = .ok (.iload_n 2, 1) := by decide +kernel
theorem dX3_sharersOf_3 : decode cX3_sharersOf 3 = .ok (.invokevirtual 105, 3) := by decide +kernel
theorem dX3_sharersOf_6 : decode cX3_sharersOf 6 = .ok (.aload_n 0, 1) := by decide +kernel
theorem dX3_sharersOf_7 : decode cX3_sharersOf 7 = .ok (.getfield 11, 3) := by decide +kernel
theorem dX3_sharersOf_10 : decode cX3_sharersOf 10 = .ok (.iload_n 1, 1) := by decide +kernel
theorem dX3_sharersOf_11 : decode cX3_sharersOf 11 = .ok (.iload_n 2, 1) := by decide +kernel
theorem dX3_sharersOf_12 : decode cX3_sharersOf 12 = .ok (.invokestatic 93, 3) := by decide +kernel
theorem dX3_sharersOf_15 : decode cX3_sharersOf 15 = .ok (.aaload, 1) := by decide +kernel
theorem dX3_sharersOf_16 : decode cX3_sharersOf 16 = .ok (.astore_n 3, 1) := by decide +kernel
theorem dX3_sharersOf_17 : decode cX3_sharersOf 17 = .ok (.aload_n 3, 1) := by decide +kernel
theorem dX3_sharersOf_18 : decode cX3_sharersOf 18 = .ok (.ifnonnull 7, 3) := by decide +kernel
theorem dX3_sharersOf_21 : decode cX3_sharersOf 21 = .ok (.iconst 0, 1) := by decide +kernel
theorem dX3_sharersOf_22 : decode cX3_sharersOf 22 = .ok (.goto 7, 3) := by decide +kernel
theorem dX3_sharersOf_25 : decode cX3_sharersOf 25 = .ok (.aload_n 3, 1) := by decide +kernel
theorem dX3_sharersOf_26 : decode cX3_sharersOf 26 = .ok (.getfield 152, 3) := by decide +kernel
theorem dX3_sharersOf_29 : decode cX3_sharersOf 29 = .ok (.ireturn, 1) := by decide +kernel
theorem dX3_frameState_0 : decode cX3_frameState 0 = .ok (.aload_n 0, 1) := by decide +kernel
theorem dX3_frameState_1 : decode cX3_frameState 1 = .ok (.iload_n 1, 1) := by decide +kernel
theorem dX3_frameState_2 : decode cX3_frameState 2 = .ok (.invokevirtual 175, 3) := by decide +kernel
theorem dX3_frameState_5 : decode cX3_frameState 5 = .ok (.aload_n 0, 1) := by decide +kernel
theorem dX3_frameState_6 : decode cX3_frameState 6 = .ok (.getfield 25, 3) := by decide +kernel
theorem dX3_frameState_9 : decode cX3_frameState 9 = .ok (.getfield 165, 3) := by decide +kernel
theorem dX3_frameState_12 : decode cX3_frameState 12 = .ok (.iload_n 1, 1) := by decide +kernel
theorem dX3_frameState_13 : decode cX3_frameState 13 = .ok (.aaload, 1) := by decide +kernel
theorem dX3_frameState_14 : decode cX3_frameState 14 = .ok (.astore_n 2, 1) := by decide +kernel
theorem dX3_frameState_15 : decode cX3_frameState 15 = .ok (.aload_n 2, 1) := by decide +kernel
theorem dX3_frameState_16 : decode cX3_frameState 16 = .ok (.ifnonnull 5, 3) := by decide +kernel
theorem dX3_frameState_19 : decode cX3_frameState 19 = .ok (.iconst 0, 1) := by decide +kernel
theorem dX3_frameState_20 : decode cX3_frameState 20 = .ok (.ireturn, 1) := by decide +kernel
theorem dX3_frameState_21 : decode cX3_frameState 21 = .ok (.aload_n 2, 1) := by decide +kernel
theorem dX3_frameState_22 : decode cX3_frameState 22 = .ok (.getfield 162, 3) := by decide +kernel
theorem dX3_frameState_25 : decode cX3_frameState 25 = .ok (.ifCond .eq 7, 3) := by decide +kernel
theorem dX3_frameState_28 : decode cX3_frameState 28 = .ok (.iconst 2, 1) := by decide +kernel
theorem dX3_frameState_29 : decode cX3_frameState 29 = .ok (.goto 4, 3) := by decide +kernel
theorem dX3_frameState_32 : decode cX3_frameState 32 = .ok (.iconst 1, 1) := by decide +kernel
theorem dX3_frameState_33 : decode cX3_frameState 33 = .ok (.ireturn, 1) := by decide +kernel
theorem dX3_latestUse_0 : decode cX3_latestUse 0 = .ok (.aload_n 0, 1) := by decide +kernel
theorem dX3_latestUse_1 : decode cX3_latestUse 1 = .ok (.iload_n 1, 1) := by decide +kernel
theorem dX3_latestUse_2 : decode cX3_latestUse 2 = .ok (.invokevirtual 175, 3) := by decide +kernel
theorem dX3_latestUse_5 : decode cX3_latestUse 5 = .ok (.aload_n 0, 1) := by decide +kernel
theorem dX3_latestUse_6 : decode cX3_latestUse 6 = .ok (.getfield 25, 3) := by decide +kernel
theorem dX3_latestUse_9 : decode cX3_latestUse 9 = .ok (.getfield 178, 3) := by decide +kernel
theorem dX3_latestUse_12 : decode cX3_latestUse 12 = .ok (.iload_n 1, 1) := by decide +kernel
theorem dX3_latestUse_13 : decode cX3_latestUse 13 = .ok (.iaload, 1) := by decide +kernel
theorem dX3_latestUse_14 : decode cX3_latestUse 14 = .ok (.ireturn, 1) := by decide +kernel
theorem dX3_isReferenced_0 : decode cX3_isReferenced 0 = .ok (.aload_n 0, 1) := by decide +kernel
theorem dX3_isReferenced_1 : decode cX3_isReferenced 1 = .ok (.iload_n 1, 1) := by decide +kernel
theorem dX3_isReferenced_2 : decode cX3_isReferenced 2 = .ok (.invokevirtual 175, 3) := by decide +kernel
theorem dX3_isReferenced_5 : decode cX3_isReferenced 5 = .ok (.aload_n 0, 1) := by decide +kernel
theorem dX3_isReferenced_6 : decode cX3_isReferenced 6 = .ok (.getfield 25, 3) := by decide +kernel
theorem dX3_isReferenced_9 : decode cX3_isReferenced 9 = .ok (.getfield 181, 3) := by decide +kernel
theorem dX3_isReferenced_12 : decode cX3_isReferenced 12 = .ok (.iload_n 1, 1) := by decide +kernel
theorem dX3_isReferenced_13 : decode cX3_isReferenced 13 = .ok (.baload, 1) := by decide +kernel
theorem dX3_isReferenced_14 : decode cX3_isReferenced 14 = .ok (.ireturn, 1) := by decide +kernel
theorem dX3_freeFrames_0 : decode cX3_freeFrames 0 = .ok (.aload_n 0, 1) := by decide +kernel
theorem dX3_freeFrames_1 : decode cX3_freeFrames 1 = .ok (.getfield 25, 3) := by decide +kernel
theorem dX3_freeFrames_4 : decode cX3_freeFrames 4 = .ok (.invokevirtual 63, 3) := by decide +kernel
theorem dX3_freeFrames_7 : decode cX3_freeFrames 7 = .ok (.ireturn, 1) := by decide +kernel
theorem dX3_freeSlots_0 : decode cX3_freeSlots 0 = .ok (.aload_n 0, 1) := by decide +kernel
theorem dX3_freeSlots_1 : decode cX3_freeSlots 1 = .ok (.getfield 32, 3) := by decide +kernel
theorem dX3_freeSlots_4 : decode cX3_freeSlots 4 = .ok (.invokevirtual 184, 3) := by decide +kernel
theorem dX3_freeSlots_7 : decode cX3_freeSlots 7 = .ok (.ireturn, 1) := by decide +kernel
theorem dX3_workingSet_0 : decode cX3_workingSet 0 = .ok (.aload_n 0, 1) := by decide +kernel
theorem dX3_workingSet_1 : decode cX3_workingSet 1 = .ok (.iload_n 1, 1) := by decide +kernel
theorem dX3_workingSet_2 : decode cX3_workingSet 2 = .ok (.invokevirtual 86, 3) := by decide +kernel
theorem dX3_workingSet_5 : decode cX3_workingSet 5 = .ok (.iconst 0, 1) := by decide +kernel
theorem dX3_workingSet_6 : decode cX3_workingSet 6 = .ok (.istore_n 2, 1) := by decide +kernel
theorem dX3_workingSet_7 : decode cX3_workingSet 7 = .ok (.iconst 0, 1) := by decide +kernel
theorem dX3_workingSet_8 : decode cX3_workingSet 8 = .ok (.istore_n 3, 1) := by decide +kernel
theorem dX3_workingSet_9 : decode cX3_workingSet 9 = .ok (.iload_n 3, 1) := by decide +kernel
theorem dX3_workingSet_10 : decode cX3_workingSet 10 = .ok (.bipush 16, 2) := by decide +kernel
theorem dX3_workingSet_12 : decode cX3_workingSet 12 = .ok (.if_icmp .ge 50, 3) := by decide +kernel
theorem dX3_workingSet_15 : decode cX3_workingSet 15 = .ok (.aload_n 0, 1) := by decide +kernel
theorem dX3_workingSet_16 : decode cX3_workingSet 16 = .ok (.getfield 11, 3) := by decide +kernel
theorem dX3_workingSet_19 : decode cX3_workingSet 19 = .ok (.iload_n 1, 1) := by decide +kernel
theorem dX3_workingSet_20 : decode cX3_workingSet 20 = .ok (.iload_n 3, 1) := by decide +kernel
theorem dX3_workingSet_21 : decode cX3_workingSet 21 = .ok (.invokestatic 93, 3) := by decide +kernel
theorem dX3_workingSet_24 : decode cX3_workingSet 24 = .ok (.aaload, 1) := by decide +kernel
theorem dX3_workingSet_25 : decode cX3_workingSet 25 = .ok (.astore 4, 2) := by decide +kernel
theorem dX3_workingSet_27 : decode cX3_workingSet 27 = .ok (.aload 4, 2) := by decide +kernel
theorem dX3_workingSet_29 : decode cX3_workingSet 29 = .ok (.ifnull 27, 3) := by decide +kernel
theorem dX3_workingSet_32 : decode cX3_workingSet 32 = .ok (.aload 4, 2) := by decide +kernel
theorem dX3_workingSet_34 : decode cX3_workingSet 34 = .ok (.getfield 136, 3) := by decide +kernel
theorem dX3_workingSet_37 : decode cX3_workingSet 37 = .ok (.iconst (-1), 1) := by decide +kernel
theorem dX3_workingSet_38 : decode cX3_workingSet 38 = .ok (.if_icmp .eq 18, 3) := by decide +kernel
theorem dX3_workingSet_41 : decode cX3_workingSet 41 = .ok (.aload_n 0, 1) := by decide +kernel
theorem dX3_workingSet_42 : decode cX3_workingSet 42 = .ok (.aload 4, 2) := by decide +kernel
theorem dX3_workingSet_44 : decode cX3_workingSet 44 = .ok (.getfield 136, 3) := by decide +kernel
theorem dX3_workingSet_47 : decode cX3_workingSet 47 = .ok (.invokevirtual 185, 3) := by decide +kernel
theorem dX3_workingSet_50 : decode cX3_workingSet 50 = .ok (.ifCond .ne 6, 3) := by decide +kernel
theorem dX3_workingSet_53 : decode cX3_workingSet 53 = .ok (.iinc 2 1, 3) := by decide +kernel
theorem dX3_workingSet_56 : decode cX3_workingSet 56 = .ok (.iinc 3 1, 3) := by decide +kernel
theorem dX3_workingSet_59 : decode cX3_workingSet 59 = .ok (.goto (-50), 3) := by decide +kernel
theorem dX3_workingSet_62 : decode cX3_workingSet 62 = .ok (.iload_n 2, 1) := by decide +kernel
theorem dX3_workingSet_63 : decode cX3_workingSet 63 = .ok (.ireturn, 1) := by decide +kernel
theorem dX3_count_0 : decode cX3_count 0 = .ok (.iload_n 1, 1) := by decide +kernel
theorem dX3_count_1 : decode cX3_count 1 = .ok (.ifCond .lt 9, 3) := by decide +kernel
theorem dX3_count_4 : decode cX3_count 4 = .ok (.iload_n 1, 1) := by decide +kernel
theorem dX3_count_5 : decode cX3_count 5 = .ok (.bipush 6, 2) := by decide +kernel
theorem dX3_count_7 : decode cX3_count 7 = .ok (.if_icmp .lt 13, 3) := by decide +kernel
theorem dX3_count_10 : decode cX3_count 10 = .ok (.new 188, 3) := by decide +kernel
theorem dX3_count_13 : decode cX3_count 13 = .ok (.dup, 1) := by decide +kernel
theorem dX3_count_14 : decode cX3_count 14 = .ok (.ldc 190, 2) := by decide +kernel
theorem dX3_count_16 : decode cX3_count 16 = .ok (.invokespecial 192, 3) := by decide +kernel
theorem dX3_count_19 : decode cX3_count 19 = .ok (.athrow, 1) := by decide +kernel
theorem dX3_count_20 : decode cX3_count 20 = .ok (.aload_n 0, 1) := by decide +kernel
theorem dX3_count_21 : decode cX3_count 21 = .ok (.getfield 39, 3) := by decide +kernel
theorem dX3_count_24 : decode cX3_count 24 = .ok (.iload_n 1, 1) := by decide +kernel
theorem dX3_count_25 : decode cX3_count 25 = .ok (.iaload, 1) := by decide +kernel
theorem dX3_count_26 : decode cX3_count 26 = .ok (.ireturn, 1) := by decide +kernel
theorem dX3_swapRate_0 : decode cX3_swapRate 0 = .ok (.aload_n 0, 1) := by decide +kernel
theorem dX3_swapRate_1 : decode cX3_swapRate 1 = .ok (.getfield 53, 3) := by decide +kernel
theorem dX3_swapRate_4 : decode cX3_swapRate 4 = .ok (.ifCond .ne 5, 3) := by decide +kernel
theorem dX3_swapRate_7 : decode cX3_swapRate 7 = .ok (.dconst 0, 1) := by decide +kernel
theorem dX3_swapRate_8 : decode cX3_swapRate 8 = .ok (.dreturn, 1) := by decide +kernel
theorem dX3_swapRate_9 : decode cX3_swapRate 9 = .ok (.aload_n 0, 1) := by decide +kernel
theorem dX3_swapRate_10 : decode cX3_swapRate 10 = .ok (.getfield 39, 3) := by decide +kernel
theorem dX3_swapRate_13 : decode cX3_swapRate 13 = .ok (.iconst 1, 1) := by decide +kernel
theorem dX3_swapRate_14 : decode cX3_swapRate 14 = .ok (.iaload, 1) := by decide +kernel
theorem dX3_swapRate_15 : decode cX3_swapRate 15 = .ok (.i2d, 1) := by decide +kernel
theorem dX3_swapRate_16 : decode cX3_swapRate 16 = .ok (.aload_n 0, 1) := by decide +kernel
theorem dX3_swapRate_17 : decode cX3_swapRate 17 = .ok (.getfield 53, 3) := by decide +kernel
theorem dX3_swapRate_20 : decode cX3_swapRate 20 = .ok (.i2d, 1) := by decide +kernel
theorem dX3_swapRate_21 : decode cX3_swapRate 21 = .ok (.ddiv, 1) := by decide +kernel
theorem dX3_swapRate_22 : decode cX3_swapRate 22 = .ok (.dreturn, 1) := by decide +kernel
theorem dX3_digest_0 : decode cX3_digest 0 = .ok (.ldc2_w 193, 3) := by decide +kernel
theorem dX3_digest_3 : decode cX3_digest 3 = .ok (.lstore_n 1, 1) := by decide +kernel
theorem dX3_digest_4 : decode cX3_digest 4 = .ok (.lload_n 1, 1) := by decide +kernel
theorem dX3_digest_5 : decode cX3_digest 5 = .ok (.aload_n 0, 1) := by decide +kernel
theorem dX3_digest_6 : decode cX3_digest 6 = .ok (.getfield 53, 3) := by decide +kernel
theorem dX3_digest_9 : decode cX3_digest 9 = .ok (.i2l, 1) := by decide +kernel
theorem dX3_digest_10 : decode cX3_digest 10 = .ok (.invokestatic 195, 3) := by decide +kernel
theorem dX3_digest_13 : decode cX3_digest 13 = .ok (.lstore_n 1, 1) := by decide +kernel
theorem dX3_digest_14 : decode cX3_digest 14 = .ok (.lload_n 1, 1) := by decide +kernel
theorem dX3_digest_15 : decode cX3_digest 15 = .ok (.aload_n 0, 1) := by decide +kernel
theorem dX3_digest_16 : decode cX3_digest 16 = .ok (.getfield 25, 3) := by decide +kernel
theorem dX3_digest_19 : decode cX3_digest 19 = .ok (.getfield 75, 3) := by decide +kernel
theorem dX3_digest_22 : decode cX3_digest 22 = .ok (.i2l, 1) := by decide +kernel
theorem dX3_digest_23 : decode cX3_digest 23 = .ok (.invokestatic 195, 3) := by decide +kernel
theorem dX3_digest_26 : decode cX3_digest 26 = .ok (.lstore_n 1, 1) := by decide +kernel
theorem dX3_digest_27 : decode cX3_digest 27 = .ok (.lload_n 1, 1) := by decide +kernel
theorem dX3_digest_28 : decode cX3_digest 28 = .ok (.aload_n 0, 1) := by decide +kernel
theorem dX3_digest_29 : decode cX3_digest 29 = .ok (.getfield 43, 3) := by decide +kernel
theorem dX3_digest_32 : decode cX3_digest 32 = .ok (.i2l, 1) := by decide +kernel
theorem dX3_digest_33 : decode cX3_digest 33 = .ok (.invokestatic 195, 3) := by decide +kernel
theorem dX3_digest_36 : decode cX3_digest 36 = .ok (.lstore_n 1, 1) := by decide +kernel
theorem dX3_digest_37 : decode cX3_digest 37 = .ok (.iconst 0, 1) := by decide +kernel
theorem dX3_digest_38 : decode cX3_digest 38 = .ok (.istore_n 3, 1) := by decide +kernel
theorem dX3_digest_39 : decode cX3_digest 39 = .ok (.iload_n 3, 1) := by decide +kernel
theorem dX3_digest_40 : decode cX3_digest 40 = .ok (.aload_n 0, 1) := by decide +kernel
theorem dX3_digest_41 : decode cX3_digest 41 = .ok (.getfield 43, 3) := by decide +kernel
theorem dX3_digest_44 : decode cX3_digest 44 = .ok (.if_icmp .ge 83, 3) := by decide +kernel
theorem dX3_digest_47 : decode cX3_digest 47 = .ok (.lload_n 1, 1) := by decide +kernel
theorem dX3_digest_48 : decode cX3_digest 48 = .ok (.aload_n 0, 1) := by decide +kernel
theorem dX3_digest_49 : decode cX3_digest 49 = .ok (.getfield 15, 3) := by decide +kernel
theorem dX3_digest_52 : decode cX3_digest 52 = .ok (.iload_n 3, 1) := by decide +kernel
theorem dX3_digest_53 : decode cX3_digest 53 = .ok (.baload, 1) := by decide +kernel
theorem dX3_digest_54 : decode cX3_digest 54 = .ok (.ifCond .eq 7, 3) := by decide +kernel
theorem dX3_digest_57 : decode cX3_digest 57 = .ok (.lconst 1, 1) := by decide +kernel
theorem dX3_digest_58 : decode cX3_digest 58 = .ok (.goto 4, 3) := by decide +kernel
theorem dX3_digest_61 : decode cX3_digest 61 = .ok (.lconst 0, 1) := by decide +kernel
theorem dX3_digest_62 : decode cX3_digest 62 = .ok (.invokestatic 195, 3) := by decide +kernel
theorem dX3_digest_65 : decode cX3_digest 65 = .ok (.lstore_n 1, 1) := by decide +kernel
theorem dX3_digest_66 : decode cX3_digest 66 = .ok (.iconst 0, 1) := by decide +kernel
theorem dX3_digest_67 : decode cX3_digest 67 = .ok (.istore 4, 2) := by decide +kernel
theorem dX3_digest_69 : decode cX3_digest 69 = .ok (.iload 4, 2) := by decide +kernel
theorem dX3_digest_71 : decode cX3_digest 71 = .ok (.bipush 16, 2) := by decide +kernel
theorem dX3_digest_73 : decode cX3_digest 73 = .ok (.if_icmp .ge 48, 3) := by decide +kernel
theorem dX3_digest_76 : decode cX3_digest 76 = .ok (.lload_n 1, 1) := by decide +kernel
theorem dX3_digest_77 : decode cX3_digest 77 = .ok (.aload_n 0, 1) := by decide +kernel
theorem dX3_digest_78 : decode cX3_digest 78 = .ok (.iload_n 3, 1) := by decide +kernel
theorem dX3_digest_79 : decode cX3_digest 79 = .ok (.iload 4, 2) := by decide +kernel
theorem dX3_digest_81 : decode cX3_digest 81 = .ok (.invokevirtual 199, 3) := by decide +kernel
theorem dX3_digest_84 : decode cX3_digest 84 = .ok (.i2l, 1) := by decide +kernel
theorem dX3_digest_85 : decode cX3_digest 85 = .ok (.invokestatic 195, 3) := by decide +kernel
theorem dX3_digest_88 : decode cX3_digest 88 = .ok (.lstore_n 1, 1) := by decide +kernel
theorem dX3_digest_89 : decode cX3_digest 89 = .ok (.lload_n 1, 1) := by decide +kernel
theorem dX3_digest_90 : decode cX3_digest 90 = .ok (.aload_n 0, 1) := by decide +kernel
theorem dX3_digest_91 : decode cX3_digest 91 = .ok (.iload_n 3, 1) := by decide +kernel
theorem dX3_digest_92 : decode cX3_digest 92 = .ok (.iload 4, 2) := by decide +kernel
theorem dX3_digest_94 : decode cX3_digest 94 = .ok (.invokevirtual 202, 3) := by decide +kernel
theorem dX3_digest_97 : decode cX3_digest 97 = .ok (.i2l, 1) := by decide +kernel
theorem dX3_digest_98 : decode cX3_digest 98 = .ok (.invokestatic 195, 3) := by decide +kernel
theorem dX3_digest_101 : decode cX3_digest 101 = .ok (.lstore_n 1, 1) := by decide +kernel
theorem dX3_digest_102 : decode cX3_digest 102 = .ok (.lload_n 1, 1) := by decide +kernel
theorem dX3_digest_103 : decode cX3_digest 103 = .ok (.aload_n 0, 1) := by decide +kernel
theorem dX3_digest_104 : decode cX3_digest 104 = .ok (.iload_n 3, 1) := by decide +kernel
theorem dX3_digest_105 : decode cX3_digest 105 = .ok (.iload 4, 2) := by decide +kernel
theorem dX3_digest_107 : decode cX3_digest 107 = .ok (.invokevirtual 205, 3) := by decide +kernel
theorem dX3_digest_110 : decode cX3_digest 110 = .ok (.i2l, 1) := by decide +kernel
theorem dX3_digest_111 : decode cX3_digest 111 = .ok (.invokestatic 195, 3) := by decide +kernel
theorem dX3_digest_114 : decode cX3_digest 114 = .ok (.lstore_n 1, 1) := by decide +kernel
theorem dX3_digest_115 : decode cX3_digest 115 = .ok (.iinc 4 1, 3) := by decide +kernel
theorem dX3_digest_118 : decode cX3_digest 118 = .ok (.goto (-49), 3) := by decide +kernel
theorem dX3_digest_121 : decode cX3_digest 121 = .ok (.iinc 3 1, 3) := by decide +kernel
theorem dX3_digest_124 : decode cX3_digest 124 = .ok (.goto (-85), 3) := by decide +kernel
theorem dX3_digest_127 : decode cX3_digest 127 = .ok (.iconst 0, 1) := by decide +kernel
theorem dX3_digest_128 : decode cX3_digest 128 = .ok (.istore_n 3, 1) := by decide +kernel
theorem dX3_digest_129 : decode cX3_digest 129 = .ok (.iload_n 3, 1) := by decide +kernel
theorem dX3_digest_130 : decode cX3_digest 130 = .ok (.aload_n 0, 1) := by decide +kernel
theorem dX3_digest_131 : decode cX3_digest 131 = .ok (.getfield 25, 3) := by decide +kernel
theorem dX3_digest_134 : decode cX3_digest 134 = .ok (.getfield 67, 3) := by decide +kernel
theorem dX3_digest_137 : decode cX3_digest 137 = .ok (.if_icmp .ge 49, 3) := by decide +kernel
theorem dX3_digest_140 : decode cX3_digest 140 = .ok (.lload_n 1, 1) := by decide +kernel
theorem dX3_digest_141 : decode cX3_digest 141 = .ok (.aload_n 0, 1) := by decide +kernel
theorem dX3_digest_142 : decode cX3_digest 142 = .ok (.iload_n 3, 1) := by decide +kernel
theorem dX3_digest_143 : decode cX3_digest 143 = .ok (.invokevirtual 208, 3) := by decide +kernel
theorem dX3_digest_146 : decode cX3_digest 146 = .ok (.i2l, 1) := by decide +kernel
theorem dX3_digest_147 : decode cX3_digest 147 = .ok (.invokestatic 195, 3) := by decide +kernel
theorem dX3_digest_150 : decode cX3_digest 150 = .ok (.lstore_n 1, 1) := by decide +kernel
theorem dX3_digest_151 : decode cX3_digest 151 = .ok (.lload_n 1, 1) := by decide +kernel
theorem dX3_digest_152 : decode cX3_digest 152 = .ok (.aload_n 0, 1) := by decide +kernel
theorem dX3_digest_153 : decode cX3_digest 153 = .ok (.iload_n 3, 1) := by decide +kernel
theorem dX3_digest_154 : decode cX3_digest 154 = .ok (.invokevirtual 211, 3) := by decide +kernel
theorem dX3_digest_157 : decode cX3_digest 157 = .ok (.i2l, 1) := by decide +kernel
theorem dX3_digest_158 : decode cX3_digest 158 = .ok (.invokestatic 195, 3) := by decide +kernel
theorem dX3_digest_161 : decode cX3_digest 161 = .ok (.lstore_n 1, 1) := by decide +kernel
theorem dX3_digest_162 : decode cX3_digest 162 = .ok (.lload_n 1, 1) := by decide +kernel
theorem dX3_digest_163 : decode cX3_digest 163 = .ok (.aload_n 0, 1) := by decide +kernel
theorem dX3_digest_164 : decode cX3_digest 164 = .ok (.iload_n 3, 1) := by decide +kernel
theorem dX3_digest_165 : decode cX3_digest 165 = .ok (.invokevirtual 214, 3) := by decide +kernel
theorem dX3_digest_168 : decode cX3_digest 168 = .ok (.ifCond .eq 7, 3) := by decide +kernel
theorem dX3_digest_171 : decode cX3_digest 171 = .ok (.lconst 1, 1) := by decide +kernel
theorem dX3_digest_172 : decode cX3_digest 172 = .ok (.goto 4, 3) := by decide +kernel
theorem dX3_digest_175 : decode cX3_digest 175 = .ok (.lconst 0, 1) := by decide +kernel
theorem dX3_digest_176 : decode cX3_digest 176 = .ok (.invokestatic 195, 3) := by decide +kernel
theorem dX3_digest_179 : decode cX3_digest 179 = .ok (.lstore_n 1, 1) := by decide +kernel
theorem dX3_digest_180 : decode cX3_digest 180 = .ok (.iinc 3 1, 3) := by decide +kernel
theorem dX3_digest_183 : decode cX3_digest 183 = .ok (.goto (-54), 3) := by decide +kernel
theorem dX3_digest_186 : decode cX3_digest 186 = .ok (.lload_n 1, 1) := by decide +kernel
theorem dX3_digest_187 : decode cX3_digest 187 = .ok (.aload_n 0, 1) := by decide +kernel
theorem dX3_digest_188 : decode cX3_digest 188 = .ok (.getfield 32, 3) := by decide +kernel
theorem dX3_digest_191 : decode cX3_digest 191 = .ok (.invokevirtual 184, 3) := by decide +kernel
theorem dX3_digest_194 : decode cX3_digest 194 = .ok (.i2l, 1) := by decide +kernel
theorem dX3_digest_195 : decode cX3_digest 195 = .ok (.invokestatic 195, 3) := by decide +kernel
theorem dX3_digest_198 : decode cX3_digest 198 = .ok (.lstore_n 1, 1) := by decide +kernel
theorem dX3_digest_199 : decode cX3_digest 199 = .ok (.iconst 0, 1) := by decide +kernel
theorem dX3_digest_200 : decode cX3_digest 200 = .ok (.istore_n 3, 1) := by decide +kernel
theorem dX3_digest_201 : decode cX3_digest 201 = .ok (.iload_n 3, 1) := by decide +kernel
theorem dX3_digest_202 : decode cX3_digest 202 = .ok (.bipush 6, 2) := by decide +kernel
theorem dX3_digest_204 : decode cX3_digest 204 = .ok (.if_icmp .ge 21, 3) := by decide +kernel
theorem dX3_digest_207 : decode cX3_digest 207 = .ok (.lload_n 1, 1) := by decide +kernel
theorem dX3_digest_208 : decode cX3_digest 208 = .ok (.aload_n 0, 1) := by decide +kernel
theorem dX3_digest_209 : decode cX3_digest 209 = .ok (.getfield 39, 3) := by decide +kernel
theorem dX3_digest_212 : decode cX3_digest 212 = .ok (.iload_n 3, 1) := by decide +kernel
theorem dX3_digest_213 : decode cX3_digest 213 = .ok (.iaload, 1) := by decide +kernel
theorem dX3_digest_214 : decode cX3_digest 214 = .ok (.i2l, 1) := by decide +kernel
theorem dX3_digest_215 : decode cX3_digest 215 = .ok (.invokestatic 195, 3) := by decide +kernel
theorem dX3_digest_218 : decode cX3_digest 218 = .ok (.lstore_n 1, 1) := by decide +kernel
theorem dX3_digest_219 : decode cX3_digest 219 = .ok (.iinc 3 1, 3) := by decide +kernel
theorem dX3_digest_222 : decode cX3_digest 222 = .ok (.goto (-21), 3) := by decide +kernel
theorem dX3_digest_225 : decode cX3_digest 225 = .ok (.lload_n 1, 1) := by decide +kernel
theorem dX3_digest_226 : decode cX3_digest 226 = .ok (.lreturn, 1) := by decide +kernel
theorem dX3_mix_0 : decode cX3_mix 0 = .ok (.lload_n 0, 1) := by decide +kernel
theorem dX3_mix_1 : decode cX3_mix 1 = .ok (.ldc2_w 217, 3) := by decide +kernel
theorem dX3_mix_4 : decode cX3_mix 4 = .ok (.lmul, 1) := by decide +kernel
theorem dX3_mix_5 : decode cX3_mix 5 = .ok (.lload_n 2, 1) := by decide +kernel
theorem dX3_mix_6 : decode cX3_mix 6 = .ok (.ladd, 1) := by decide +kernel
theorem dX3_mix_7 : decode cX3_mix 7 = .ok (.lreturn, 1) := by decide +kernel
theorem dX3_requireProcess_0 : decode cX3_requireProcess 0 = .ok (.iload_n 1, 1) := by decide +kernel
theorem dX3_requireProcess_1 : decode cX3_requireProcess 1 = .ok (.ifCond .lt 11, 3) := by decide +kernel
theorem dX3_requireProcess_4 : decode cX3_requireProcess 4 = .ok (.iload_n 1, 1) := by decide +kernel
theorem dX3_requireProcess_5 : decode cX3_requireProcess 5 = .ok (.aload_n 0, 1) := by decide +kernel
theorem dX3_requireProcess_6 : decode cX3_requireProcess 6 = .ok (.getfield 43, 3) := by decide +kernel
theorem dX3_requireProcess_9 : decode cX3_requireProcess 9 = .ok (.if_icmp .lt 13, 3) := by decide +kernel
theorem dX3_requireProcess_12 : decode cX3_requireProcess 12 = .ok (.new 188, 3) := by decide +kernel
theorem dX3_requireProcess_15 : decode cX3_requireProcess 15 = .ok (.dup, 1) := by decide +kernel
theorem dX3_requireProcess_16 : decode cX3_requireProcess 16 = .ok (.ldc 219, 2) := by decide +kernel
theorem dX3_requireProcess_18 : decode cX3_requireProcess 18 = .ok (.invokespecial 192, 3) := by decide +kernel
theorem dX3_requireProcess_21 : decode cX3_requireProcess 21 = .ok (.athrow, 1) := by decide +kernel
theorem dX3_requireProcess_22 : decode cX3_requireProcess 22 = .ok (.return_, 1) := by decide +kernel
theorem dX3_requirePage_0 : decode cX3_requirePage 0 = .ok (.aload_n 0, 1) := by decide +kernel
theorem dX3_requirePage_1 : decode cX3_requirePage 1 = .ok (.iload_n 1, 1) := by decide +kernel
theorem dX3_requirePage_2 : decode cX3_requirePage 2 = .ok (.invokevirtual 86, 3) := by decide +kernel
theorem dX3_requirePage_5 : decode cX3_requirePage 5 = .ok (.iload_n 2, 1) := by decide +kernel
theorem dX3_requirePage_6 : decode cX3_requirePage 6 = .ok (.ifCond .lt 9, 3) := by decide +kernel
theorem dX3_requirePage_9 : decode cX3_requirePage 9 = .ok (.iload_n 2, 1) := by decide +kernel
theorem dX3_requirePage_10 : decode cX3_requirePage 10 = .ok (.bipush 16, 2) := by decide +kernel
theorem dX3_requirePage_12 : decode cX3_requirePage 12 = .ok (.if_icmp .lt 13, 3) := by decide +kernel
theorem dX3_requirePage_15 : decode cX3_requirePage 15 = .ok (.new 188, 3) := by decide +kernel
theorem dX3_requirePage_18 : decode cX3_requirePage 18 = .ok (.dup, 1) := by decide +kernel
theorem dX3_requirePage_19 : decode cX3_requirePage 19 = .ok (.ldc 221, 2) := by decide +kernel
theorem dX3_requirePage_21 : decode cX3_requirePage 21 = .ok (.invokespecial 192, 3) := by decide +kernel
theorem dX3_requirePage_24 : decode cX3_requirePage 24 = .ok (.athrow, 1) := by decide +kernel
theorem dX3_requirePage_25 : decode cX3_requirePage 25 = .ok (.return_, 1) := by decide +kernel
theorem dX3_requireFrame_0 : decode cX3_requireFrame 0 = .ok (.iload_n 1, 1) := by decide +kernel
theorem dX3_requireFrame_1 : decode cX3_requireFrame 1 = .ok (.ifCond .lt 14, 3) := by decide +kernel
theorem dX3_requireFrame_4 : decode cX3_requireFrame 4 = .ok (.iload_n 1, 1) := by decide +kernel
theorem dX3_requireFrame_5 : decode cX3_requireFrame 5 = .ok (.aload_n 0, 1) := by decide +kernel
theorem dX3_requireFrame_6 : decode cX3_requireFrame 6 = .ok (.getfield 25, 3) := by decide +kernel
theorem dX3_requireFrame_9 : decode cX3_requireFrame 9 = .ok (.getfield 67, 3) := by decide +kernel
theorem dX3_requireFrame_12 : decode cX3_requireFrame 12 = .ok (.if_icmp .lt 13, 3) := by decide +kernel
theorem dX3_requireFrame_15 : decode cX3_requireFrame 15 = .ok (.new 188, 3) := by decide +kernel
theorem dX3_requireFrame_18 : decode cX3_requireFrame 18 = .ok (.dup, 1) := by decide +kernel
theorem dX3_requireFrame_19 : decode cX3_requireFrame 19 = .ok (.ldc 223, 2) := by decide +kernel
theorem dX3_requireFrame_21 : decode cX3_requireFrame 21 = .ok (.invokespecial 192, 3) := by decide +kernel
theorem dX3_requireFrame_24 : decode cX3_requireFrame 24 = .ok (.athrow, 1) := by decide +kernel
theorem dX3_requireFrame_25 : decode cX3_requireFrame 25 = .ok (.return_, 1) := by decide +kernel
theorem dX3_requireLive_0 : decode cX3_requireLive 0 = .ok (.aload_n 0, 1) := by decide +kernel
theorem dX3_requireLive_1 : decode cX3_requireLive 1 = .ok (.getfield 15, 3) := by decide +kernel
theorem dX3_requireLive_4 : decode cX3_requireLive 4 = .ok (.iload_n 1, 1) := by decide +kernel
theorem dX3_requireLive_5 : decode cX3_requireLive 5 = .ok (.baload, 1) := by decide +kernel
theorem dX3_requireLive_6 : decode cX3_requireLive 6 = .ok (.ifCond .ne 13, 3) := by decide +kernel
theorem dX3_requireLive_9 : decode cX3_requireLive 9 = .ok (.new 225, 3) := by decide +kernel
theorem dX3_requireLive_12 : decode cX3_requireLive 12 = .ok (.dup, 1) := by decide +kernel
theorem dX3_requireLive_13 : decode cX3_requireLive 13 = .ok (.ldc 227, 2) := by decide +kernel
theorem dX3_requireLive_15 : decode cX3_requireLive 15 = .ok (.invokespecial 229, 3) := by decide +kernel
theorem dX3_requireLive_18 : decode cX3_requireLive 18 = .ok (.athrow, 1) := by decide +kernel
theorem dX3_requireLive_19 : decode cX3_requireLive 19 = .ok (.return_, 1) := by decide +kernel
theorem dX3_requireRoomForProcess_0 : decode cX3_requireRoomForProcess 0 = .ok (.aload_n 0, 1) := by decide +kernel
theorem dX3_requireRoomForProcess_1 : decode cX3_requireRoomForProcess 1 = .ok (.getfield 43, 3) := by decide +kernel
theorem dX3_requireRoomForProcess_4 : decode cX3_requireRoomForProcess 4 = .ok (.bipush 10, 2) := by decide +kernel
theorem dX3_requireRoomForProcess_6 : decode cX3_requireRoomForProcess 6 = .ok (.if_icmp .lt 13, 3) := by decide +kernel
theorem dX3_requireRoomForProcess_9 : decode cX3_requireRoomForProcess 9 = .ok (.new 70, 3) := by decide +kernel
theorem dX3_requireRoomForProcess_12 : decode cX3_requireRoomForProcess 12 = .ok (.dup, 1) := by decide +kernel
theorem dX3_requireRoomForProcess_13 : decode cX3_requireRoomForProcess 13 = .ok (.ldc 230, 2) := by decide +kernel
theorem dX3_requireRoomForProcess_15 : decode cX3_requireRoomForProcess 15 = .ok (.invokespecial 74, 3) := by decide +kernel
theorem dX3_requireRoomForProcess_18 : decode cX3_requireRoomForProcess 18 = .ok (.athrow, 1) := by decide +kernel
theorem dX3_requireRoomForProcess_19 : decode cX3_requireRoomForProcess 19 = .ok (.return_, 1) := by decide +kernel
theorem dX3_requireUnmapped_0 : decode cX3_requireUnmapped 0 = .ok (.aload_n 0, 1) := by decide +kernel
theorem dX3_requireUnmapped_1 : decode cX3_requireUnmapped 1 = .ok (.getfield 11, 3) := by decide +kernel
theorem dX3_requireUnmapped_4 : decode cX3_requireUnmapped 4 = .ok (.iload_n 1, 1) := by decide +kernel
theorem dX3_requireUnmapped_5 : decode cX3_requireUnmapped 5 = .ok (.iload_n 2, 1) := by decide +kernel
theorem dX3_requireUnmapped_6 : decode cX3_requireUnmapped 6 = .ok (.invokestatic 93, 3) := by decide +kernel
theorem dX3_requireUnmapped_9 : decode cX3_requireUnmapped 9 = .ok (.aaload, 1) := by decide +kernel
theorem dX3_requireUnmapped_10 : decode cX3_requireUnmapped 10 = .ok (.ifnull 13, 3) := by decide +kernel
theorem dX3_requireUnmapped_13 : decode cX3_requireUnmapped 13 = .ok (.new 56, 3) := by decide +kernel
theorem dX3_requireUnmapped_16 : decode cX3_requireUnmapped 16 = .ok (.dup, 1) := by decide +kernel
theorem dX3_requireUnmapped_17 : decode cX3_requireUnmapped 17 = .ok (.ldc 232, 2) := by decide +kernel
theorem dX3_requireUnmapped_19 : decode cX3_requireUnmapped 19 = .ok (.invokespecial 60, 3) := by decide +kernel
theorem dX3_requireUnmapped_22 : decode cX3_requireUnmapped 22 = .ok (.athrow, 1) := by decide +kernel
theorem dX3_requireUnmapped_23 : decode cX3_requireUnmapped 23 = .ok (.return_, 1) := by decide +kernel
theorem dX3_requireMapped_0 : decode cX3_requireMapped 0 = .ok (.aload_n 0, 1) := by decide +kernel
theorem dX3_requireMapped_1 : decode cX3_requireMapped 1 = .ok (.getfield 11, 3) := by decide +kernel
theorem dX3_requireMapped_4 : decode cX3_requireMapped 4 = .ok (.iload_n 1, 1) := by decide +kernel
theorem dX3_requireMapped_5 : decode cX3_requireMapped 5 = .ok (.iload_n 2, 1) := by decide +kernel
theorem dX3_requireMapped_6 : decode cX3_requireMapped 6 = .ok (.invokestatic 93, 3) := by decide +kernel
theorem dX3_requireMapped_9 : decode cX3_requireMapped 9 = .ok (.aaload, 1) := by decide +kernel
theorem dX3_requireMapped_10 : decode cX3_requireMapped 10 = .ok (.astore_n 3, 1) := by decide +kernel
theorem dX3_requireMapped_11 : decode cX3_requireMapped 11 = .ok (.aload_n 3, 1) := by decide +kernel
theorem dX3_requireMapped_12 : decode cX3_requireMapped 12 = .ok (.ifnonnull 13, 3) := by decide +kernel
theorem dX3_requireMapped_15 : decode cX3_requireMapped 15 = .ok (.new 56, 3) := by decide +kernel
theorem dX3_requireMapped_18 : decode cX3_requireMapped 18 = .ok (.dup, 1) := by decide +kernel
theorem dX3_requireMapped_19 : decode cX3_requireMapped 19 = .ok (.ldc 234, 2) := by decide +kernel
theorem dX3_requireMapped_21 : decode cX3_requireMapped 21 = .ok (.invokespecial 60, 3) := by decide +kernel
theorem dX3_requireMapped_24 : decode cX3_requireMapped 24 = .ok (.athrow, 1) := by decide +kernel
theorem dX3_requireMapped_25 : decode cX3_requireMapped 25 = .ok (.aload_n 3, 1) := by decide +kernel
theorem dX3_requireMapped_26 : decode cX3_requireMapped 26 = .ok (.areturn, 1) := by decide +kernel
theorem dX3_requireSegmentContent_0 : decode cX3_requireSegmentContent 0 = .ok (.iload_n 1, 1) := by decide +kernel
theorem dX3_requireSegmentContent_1 : decode cX3_requireSegmentContent 1 = .ok (.ifCond .lt 11, 3) := by decide +kernel
theorem dX3_requireSegmentContent_4 : decode cX3_requireSegmentContent 4 = .ok (.iload_n 1, 1) := by decide +kernel
theorem dX3_requireSegmentContent_5 : decode cX3_requireSegmentContent 5 = .ok (.aload_n 0, 1) := by decide +kernel
theorem dX3_requireSegmentContent_6 : decode cX3_requireSegmentContent 6 = .ok (.getfield 47, 3) := by decide +kernel
theorem dX3_requireSegmentContent_9 : decode cX3_requireSegmentContent 9 = .ok (.if_icmp .lt 13, 3) := by decide +kernel
theorem dX3_requireSegmentContent_12 : decode cX3_requireSegmentContent 12 = .ok (.new 188, 3) := by decide +kernel
theorem dX3_requireSegmentContent_15 : decode cX3_requireSegmentContent 15 = .ok (.dup, 1) := by decide +kernel
theorem dX3_requireSegmentContent_16 : decode cX3_requireSegmentContent 16 = .ok (.ldc 236, 2) := by decide +kernel
theorem dX3_requireSegmentContent_18 : decode cX3_requireSegmentContent 18 = .ok (.invokespecial 192, 3) := by decide +kernel
theorem dX3_requireSegmentContent_21 : decode cX3_requireSegmentContent 21 = .ok (.athrow, 1) := by decide +kernel
theorem dX3_requireSegmentContent_22 : decode cX3_requireSegmentContent 22 = .ok (.iload_n 2, 1) := by decide +kernel
theorem dX3_requireSegmentContent_23 : decode cX3_requireSegmentContent 23 = .ok (.ifCond .lt 9, 3) := by decide +kernel
theorem dX3_requireSegmentContent_26 : decode cX3_requireSegmentContent 26 = .ok (.iload_n 2, 1) := by decide +kernel
theorem dX3_requireSegmentContent_27 : decode cX3_requireSegmentContent 27 = .ok (.bipush 6, 2) := by decide +kernel
theorem dX3_requireSegmentContent_29 : decode cX3_requireSegmentContent 29 = .ok (.if_icmp .lt 13, 3) := by decide +kernel
theorem dX3_requireSegmentContent_32 : decode cX3_requireSegmentContent 32 = .ok (.new 188, 3) := by decide +kernel
theorem dX3_requireSegmentContent_35 : decode cX3_requireSegmentContent 35 = .ok (.dup, 1) := by decide +kernel
theorem dX3_requireSegmentContent_36 : decode cX3_requireSegmentContent 36 = .ok (.ldc 238, 2) := by decide +kernel
theorem dX3_requireSegmentContent_38 : decode cX3_requireSegmentContent 38 = .ok (.invokespecial 192, 3) := by decide +kernel
theorem dX3_requireSegmentContent_41 : decode cX3_requireSegmentContent 41 = .ok (.athrow, 1) := by decide +kernel
theorem dX3_requireSegmentContent_42 : decode cX3_requireSegmentContent 42 = .ok (.aload_n 0, 1) := by decide +kernel
theorem dX3_requireSegmentContent_43 : decode cX3_requireSegmentContent 43 = .ok (.getfield 19, 3) := by decide +kernel
theorem dX3_requireSegmentContent_46 : decode cX3_requireSegmentContent 46 = .ok (.iload_n 1, 1) := by decide +kernel
theorem dX3_requireSegmentContent_47 : decode cX3_requireSegmentContent 47 = .ok (.bipush 6, 2) := by decide +kernel
theorem dX3_requireSegmentContent_49 : decode cX3_requireSegmentContent 49 = .ok (.imul, 1) := by decide +kernel
theorem dX3_requireSegmentContent_50 : decode cX3_requireSegmentContent 50 = .ok (.iload_n 2, 1) := by decide +kernel
theorem dX3_requireSegmentContent_51 : decode cX3_requireSegmentContent 51 = .ok (.iadd, 1) := by decide +kernel
theorem dX3_requireSegmentContent_52 : decode cX3_requireSegmentContent 52 = .ok (.aaload, 1) := by decide +kernel
theorem dX3_requireSegmentContent_53 : decode cX3_requireSegmentContent 53 = .ok (.astore_n 3, 1) := by decide +kernel
theorem dX3_requireSegmentContent_54 : decode cX3_requireSegmentContent 54 = .ok (.aload_n 3, 1) := by decide +kernel
theorem dX3_requireSegmentContent_55 : decode cX3_requireSegmentContent 55 = .ok (.ifnonnull 13, 3) := by decide +kernel
theorem dX3_requireSegmentContent_58 : decode cX3_requireSegmentContent 58 = .ok (.new 188, 3) := by decide +kernel
theorem dX3_requireSegmentContent_61 : decode cX3_requireSegmentContent 61 = .ok (.dup, 1) := by decide +kernel
theorem dX3_requireSegmentContent_62 : decode cX3_requireSegmentContent 62 = .ok (.ldc 240, 2) := by decide +kernel
theorem dX3_requireSegmentContent_64 : decode cX3_requireSegmentContent 64 = .ok (.invokespecial 192, 3) := by decide +kernel
theorem dX3_requireSegmentContent_67 : decode cX3_requireSegmentContent 67 = .ok (.athrow, 1) := by decide +kernel
theorem dX3_requireSegmentContent_68 : decode cX3_requireSegmentContent 68 = .ok (.aload_n 3, 1) := by decide +kernel
theorem dX3_requireSegmentContent_69 : decode cX3_requireSegmentContent 69 = .ok (.areturn, 1) := by decide +kernel
theorem dX3_requireAddressed_0 : decode cX3_requireAddressed 0 = .ok (.aload_n 0, 1) := by decide +kernel
theorem dX3_requireAddressed_1 : decode cX3_requireAddressed 1 = .ok (.iload_n 1, 1) := by decide +kernel
theorem dX3_requireAddressed_2 : decode cX3_requireAddressed 2 = .ok (.invokevirtual 86, 3) := by decide +kernel
theorem dX3_requireAddressed_5 : decode cX3_requireAddressed 5 = .ok (.iload_n 2, 1) := by decide +kernel
theorem dX3_requireAddressed_6 : decode cX3_requireAddressed 6 = .ok (.ifCond .lt 9, 3) := by decide +kernel
theorem dX3_requireAddressed_9 : decode cX3_requireAddressed 9 = .ok (.iload_n 2, 1) := by decide +kernel
theorem dX3_requireAddressed_10 : decode cX3_requireAddressed 10 = .ok (.bipush 64, 2) := by decide +kernel
theorem dX3_requireAddressed_12 : decode cX3_requireAddressed 12 = .ok (.if_icmp .lt 13, 3) := by decide +kernel
theorem dX3_requireAddressed_15 : decode cX3_requireAddressed 15 = .ok (.new 188, 3) := by decide +kernel
theorem dX3_requireAddressed_18 : decode cX3_requireAddressed 18 = .ok (.dup, 1) := by decide +kernel
theorem dX3_requireAddressed_19 : decode cX3_requireAddressed 19 = .ok (.ldc 242, 2) := by decide +kernel
theorem dX3_requireAddressed_21 : decode cX3_requireAddressed 21 = .ok (.invokespecial 192, 3) := by decide +kernel
theorem dX3_requireAddressed_24 : decode cX3_requireAddressed 24 = .ok (.athrow, 1) := by decide +kernel
theorem dX3_requireAddressed_25 : decode cX3_requireAddressed 25 = .ok (.aload_n 0, 1) := by decide +kernel
theorem dX3_requireAddressed_26 : decode cX3_requireAddressed 26 = .ok (.iload_n 1, 1) := by decide +kernel
theorem dX3_requireAddressed_27 : decode cX3_requireAddressed 27 = .ok (.invokevirtual 90, 3) := by decide +kernel
theorem dX3_requireAddressed_30 : decode cX3_requireAddressed 30 = .ok (.aload_n 0, 1) := by decide +kernel
theorem dX3_requireAddressed_31 : decode cX3_requireAddressed 31 = .ok (.iload_n 1, 1) := by decide +kernel
theorem dX3_requireAddressed_32 : decode cX3_requireAddressed 32 = .ok (.iload_n 2, 1) := by decide +kernel
theorem dX3_requireAddressed_33 : decode cX3_requireAddressed 33 = .ok (.iconst 4, 1) := by decide +kernel
theorem dX3_requireAddressed_34 : decode cX3_requireAddressed 34 = .ok (.idiv, 1) := by decide +kernel
theorem dX3_requireAddressed_35 : decode cX3_requireAddressed 35 = .ok (.invokevirtual 126, 3) := by decide +kernel
theorem dX3_requireAddressed_38 : decode cX3_requireAddressed 38 = .ok (.areturn, 1) := by decide +kernel
theorem dX3_requireObtainableFrame_0 : decode cX3_requireObtainableFrame 0 = .ok (.aload_n 0, 1) := by decide +kernel
theorem dX3_requireObtainableFrame_1 : decode cX3_requireObtainableFrame 1 = .ok (.getfield 25, 3) := by decide +kernel
theorem dX3_requireObtainableFrame_4 : decode cX3_requireObtainableFrame 4 = .ok (.invokevirtual 244, 3) := by decide +kernel
theorem dX3_requireObtainableFrame_7 : decode cX3_requireObtainableFrame 7 = .ok (.iconst (-1), 1) := by decide +kernel
theorem dX3_requireObtainableFrame_8 : decode cX3_requireObtainableFrame 8 = .ok (.if_icmp .ne 34, 3) := by decide +kernel
theorem dX3_requireObtainableFrame_11 : decode cX3_requireObtainableFrame 11 = .ok (.aload_n 0, 1) := by decide +kernel
theorem dX3_requireObtainableFrame_12 : decode cX3_requireObtainableFrame 12 = .ok (.getfield 25, 3) := by decide +kernel
theorem dX3_requireObtainableFrame_15 : decode cX3_requireObtainableFrame 15 = .ok (.invokevirtual 247, 3) := by decide +kernel
theorem dX3_requireObtainableFrame_18 : decode cX3_requireObtainableFrame 18 = .ok (.iconst (-1), 1) := by decide +kernel
theorem dX3_requireObtainableFrame_19 : decode cX3_requireObtainableFrame 19 = .ok (.if_icmp .ne 23, 3) := by decide +kernel
theorem dX3_requireObtainableFrame_22 : decode cX3_requireObtainableFrame 22 = .ok (.aload_n 0, 1) := by decide +kernel
theorem dX3_requireObtainableFrame_23 : decode cX3_requireObtainableFrame 23 = .ok (.getfield 32, 3) := by decide +kernel
theorem dX3_requireObtainableFrame_26 : decode cX3_requireObtainableFrame 26 = .ok (.invokevirtual 184, 3) := by decide +kernel
theorem dX3_requireObtainableFrame_29 : decode cX3_requireObtainableFrame 29 = .ok (.ifCond .ne 13, 3) := by decide +kernel
theorem dX3_requireObtainableFrame_32 : decode cX3_requireObtainableFrame 32 = .ok (.new 70, 3) := by decide +kernel
theorem dX3_requireObtainableFrame_35 : decode cX3_requireObtainableFrame 35 = .ok (.dup, 1) := by decide +kernel
theorem dX3_requireObtainableFrame_36 : decode cX3_requireObtainableFrame 36 = .ok (.ldc 250, 2) := by decide +kernel
theorem dX3_requireObtainableFrame_38 : decode cX3_requireObtainableFrame 38 = .ok (.invokespecial 74, 3) := by decide +kernel
theorem dX3_requireObtainableFrame_41 : decode cX3_requireObtainableFrame 41 = .ok (.athrow, 1) := by decide +kernel
theorem dX3_requireObtainableFrame_42 : decode cX3_requireObtainableFrame 42 = .ok (.return_, 1) := by decide +kernel
theorem dX3_placeOf_0 : decode cX3_placeOf 0 = .ok (.iload_n 0, 1) := by decide +kernel
theorem dX3_placeOf_1 : decode cX3_placeOf 1 = .ok (.bipush 16, 2) := by decide +kernel
theorem dX3_placeOf_3 : decode cX3_placeOf 3 = .ok (.imul, 1) := by decide +kernel
theorem dX3_placeOf_4 : decode cX3_placeOf 4 = .ok (.iload_n 1, 1) := by decide +kernel
theorem dX3_placeOf_5 : decode cX3_placeOf 5 = .ok (.iadd, 1) := by decide +kernel
theorem dX3_placeOf_6 : decode cX3_placeOf 6 = .ok (.ireturn, 1) := by decide +kernel
theorem dX3_createProcess_0 : decode cX3_createProcess 0 = .ok (.aload_n 0, 1) := by decide +kernel
theorem dX3_createProcess_1 : decode cX3_createProcess 1 = .ok (.getfield 43, 3) := by decide +kernel
theorem dX3_createProcess_4 : decode cX3_createProcess 4 = .ok (.istore_n 1, 1) := by decide +kernel
theorem dX3_createProcess_5 : decode cX3_createProcess 5 = .ok (.aload_n 0, 1) := by decide +kernel
theorem dX3_createProcess_6 : decode cX3_createProcess 6 = .ok (.getfield 15, 3) := by decide +kernel
theorem dX3_createProcess_9 : decode cX3_createProcess 9 = .ok (.iload_n 1, 1) := by decide +kernel
theorem dX3_createProcess_10 : decode cX3_createProcess 10 = .ok (.iconst 1, 1) := by decide +kernel
theorem dX3_createProcess_11 : decode cX3_createProcess 11 = .ok (.bastore, 1) := by decide +kernel
theorem dX3_createProcess_12 : decode cX3_createProcess 12 = .ok (.aload_n 0, 1) := by decide +kernel
theorem dX3_createProcess_13 : decode cX3_createProcess 13 = .ok (.dup, 1) := by decide +kernel
theorem dX3_createProcess_14 : decode cX3_createProcess 14 = .ok (.getfield 43, 3) := by decide +kernel
theorem dX3_createProcess_17 : decode cX3_createProcess 17 = .ok (.iconst 1, 1) := by decide +kernel
theorem dX3_createProcess_18 : decode cX3_createProcess 18 = .ok (.iadd, 1) := by decide +kernel
theorem dX3_createProcess_19 : decode cX3_createProcess 19 = .ok (.putfield 43, 3) := by decide +kernel
theorem dX3_createProcess_22 : decode cX3_createProcess 22 = .ok (.iload_n 1, 1) := by decide +kernel
theorem dX3_createProcess_23 : decode cX3_createProcess 23 = .ok (.ireturn, 1) := by decide +kernel
theorem dX3_mappedPages_0 : decode cX3_mappedPages 0 = .ok (.iconst 0, 1) := by decide +kernel
theorem dX3_mappedPages_1 : decode cX3_mappedPages 1 = .ok (.istore_n 2, 1) := by decide +kernel
theorem dX3_mappedPages_2 : decode cX3_mappedPages 2 = .ok (.iconst 0, 1) := by decide +kernel
theorem dX3_mappedPages_3 : decode cX3_mappedPages 3 = .ok (.istore_n 3, 1) := by decide +kernel
theorem dX3_mappedPages_4 : decode cX3_mappedPages 4 = .ok (.iload_n 3, 1) := by decide +kernel
theorem dX3_mappedPages_5 : decode cX3_mappedPages 5 = .ok (.bipush 16, 2) := by decide +kernel
theorem dX3_mappedPages_7 : decode cX3_mappedPages 7 = .ok (.if_icmp .ge 25, 3) := by decide +kernel
theorem dX3_mappedPages_10 : decode cX3_mappedPages 10 = .ok (.aload_n 0, 1) := by decide +kernel
theorem dX3_mappedPages_11 : decode cX3_mappedPages 11 = .ok (.getfield 11, 3) := by decide +kernel
theorem dX3_mappedPages_14 : decode cX3_mappedPages 14 = .ok (.iload_n 1, 1) := by decide +kernel
theorem dX3_mappedPages_15 : decode cX3_mappedPages 15 = .ok (.iload_n 3, 1) := by decide +kernel
theorem dX3_mappedPages_16 : decode cX3_mappedPages 16 = .ok (.invokestatic 93, 3) := by decide +kernel
theorem dX3_mappedPages_19 : decode cX3_mappedPages 19 = .ok (.aaload, 1) := by decide +kernel
theorem dX3_mappedPages_20 : decode cX3_mappedPages 20 = .ok (.ifnull 6, 3) := by decide +kernel
theorem dX3_mappedPages_23 : decode cX3_mappedPages 23 = .ok (.iinc 2 1, 3) := by decide +kernel
theorem dX3_mappedPages_26 : decode cX3_mappedPages 26 = .ok (.iinc 3 1, 3) := by decide +kernel
theorem dX3_mappedPages_29 : decode cX3_mappedPages 29 = .ok (.goto (-25), 3) := by decide +kernel
theorem dX3_mappedPages_32 : decode cX3_mappedPages 32 = .ok (.iload_n 2, 1) := by decide +kernel
theorem dX3_mappedPages_33 : decode cX3_mappedPages 33 = .ok (.ireturn, 1) := by decide +kernel
theorem dX3_refer_0 : decode cX3_refer 0 = .ok (.aload_n 0, 1) := by decide +kernel
theorem dX3_refer_1 : decode cX3_refer 1 = .ok (.getfield 11, 3) := by decide +kernel
theorem dX3_refer_4 : decode cX3_refer 4 = .ok (.iload_n 1, 1) := by decide +kernel
theorem dX3_refer_5 : decode cX3_refer 5 = .ok (.aload_n 2, 1) := by decide +kernel
