theorem dX4_mapping_19 : decode cX4_mapping 19 = .ok (.goto 4, 3) := by decide +kernel
theorem dX4_mapping_22 : decode cX4_mapping 22 = .ok (.iconst 0, 1) := by decide +kernel
theorem dX4_mapping_23 : decode cX4_mapping 23 = .ok (.ireturn, 1) := by decide +kernel
theorem dX4_findCluster_0 : decode cX4_findCluster 0 = .ok (.aload_n 0, 1) := by decide +kernel
theorem dX4_findCluster_1 : decode cX4_findCluster 1 = .ok (.getfield 57, 3) := by decide +kernel
theorem dX4_findCluster_4 : decode cX4_findCluster 4 = .ok (.iconst 0, 1) := by decide +kernel
theorem dX4_findCluster_5 : decode cX4_findCluster 5 = .ok (.iload_n 1, 1) := by decide +kernel
theorem dX4_findCluster_6 : decode cX4_findCluster 6 = .ok (.iastore, 1) := by decide +kernel
theorem dX4_findCluster_7 : decode cX4_findCluster 7 = .ok (.aload_n 0, 1) := by decide +kernel
theorem dX4_findCluster_8 : decode cX4_findCluster 8 = .ok (.iload_n 1, 1) := by decide +kernel
theorem dX4_findCluster_9 : decode cX4_findCluster 9 = .ok (.invokevirtual 70, 3) := by decide +kernel
theorem dX4_findCluster_12 : decode cX4_findCluster 12 = .ok (.istore_n 2, 1) := by decide +kernel
theorem dX4_findCluster_13 : decode cX4_findCluster 13 = .ok (.iconst 0, 1) := by decide +kernel
theorem dX4_findCluster_14 : decode cX4_findCluster 14 = .ok (.istore_n 3, 1) := by decide +kernel
theorem dX4_findCluster_15 : decode cX4_findCluster 15 = .ok (.iload_n 2, 1) := by decide +kernel
theorem dX4_findCluster_16 : decode cX4_findCluster 16 = .ok (.iconst (-1), 1) := by decide +kernel
theorem dX4_findCluster_17 : decode cX4_findCluster 17 = .ok (.if_icmp .ne 34, 3) := by decide +kernel
theorem dX4_findCluster_20 : decode cX4_findCluster 20 = .ok (.aload_n 0, 1) := by decide +kernel
theorem dX4_findCluster_21 : decode cX4_findCluster 21 = .ok (.getfield 42, 3) := by decide +kernel
theorem dX4_findCluster_24 : decode cX4_findCluster 24 = .ok (.iload_n 3, 1) := by decide +kernel
theorem dX4_findCluster_25 : decode cX4_findCluster 25 = .ok (.iaload, 1) := by decide +kernel
theorem dX4_findCluster_26 : decode cX4_findCluster 26 = .ok (.iconst 1, 1) := by decide +kernel
theorem dX4_findCluster_27 : decode cX4_findCluster 27 = .ok (.if_icmp .ne 13, 3) := by decide +kernel
theorem dX4_findCluster_30 : decode cX4_findCluster 30 = .ok (.aload_n 0, 1) := by decide +kernel
theorem dX4_findCluster_31 : decode cX4_findCluster 31 = .ok (.getfield 45, 3) := by decide +kernel
theorem dX4_findCluster_34 : decode cX4_findCluster 34 = .ok (.iload_n 3, 1) := by decide +kernel
theorem dX4_findCluster_35 : decode cX4_findCluster 35 = .ok (.iaload, 1) := by decide +kernel
theorem dX4_findCluster_36 : decode cX4_findCluster 36 = .ok (.iload_n 1, 1) := by decide +kernel
theorem dX4_findCluster_37 : decode cX4_findCluster 37 = .ok (.if_icmp .eq 9, 3) := by decide +kernel
theorem dX4_findCluster_40 : decode cX4_findCluster 40 = .ok (.iinc 3 1, 3) := by decide +kernel
theorem dX4_findCluster_43 : decode cX4_findCluster 43 = .ok (.goto (-23), 3) := by decide +kernel
theorem dX4_findCluster_46 : decode cX4_findCluster 46 = .ok (.iload_n 3, 1) := by decide +kernel
theorem dX4_findCluster_47 : decode cX4_findCluster 47 = .ok (.istore_n 2, 1) := by decide +kernel
theorem dX4_findCluster_48 : decode cX4_findCluster 48 = .ok (.goto 5, 3) := by decide +kernel
theorem dX4_findCluster_51 : decode cX4_findCluster 51 = .ok (.iconst (-1), 1) := by decide +kernel
theorem dX4_findCluster_52 : decode cX4_findCluster 52 = .ok (.istore_n 3, 1) := by decide +kernel
theorem dX4_findCluster_53 : decode cX4_findCluster 53 = .ok (.iconst 1, 1) := by decide +kernel
theorem dX4_findCluster_54 : decode cX4_findCluster 54 = .ok (.istore 4, 2) := by decide +kernel
theorem dX4_findCluster_56 : decode cX4_findCluster 56 = .ok (.iconst 1, 1) := by decide +kernel
theorem dX4_findCluster_57 : decode cX4_findCluster 57 = .ok (.istore 5, 2) := by decide +kernel
theorem dX4_findCluster_59 : decode cX4_findCluster 59 = .ok (.iconst 1, 1) := by decide +kernel
theorem dX4_findCluster_60 : decode cX4_findCluster 60 = .ok (.istore 6, 2) := by decide +kernel
theorem dX4_findCluster_62 : decode cX4_findCluster 62 = .ok (.iload 6, 2) := by decide +kernel
theorem dX4_findCluster_64 : decode cX4_findCluster 64 = .ok (.iconst 4, 1) := by decide +kernel
theorem dX4_findCluster_65 : decode cX4_findCluster 65 = .ok (.if_icmp .ge 128, 3) := by decide +kernel
theorem dX4_findCluster_68 : decode cX4_findCluster 68 = .ok (.iload 5, 2) := by decide +kernel
theorem dX4_findCluster_70 : decode cX4_findCluster 70 = .ok (.ifCond .eq 123, 3) := by decide +kernel
theorem dX4_findCluster_73 : decode cX4_findCluster 73 = .ok (.iload_n 3, 1) := by decide +kernel
theorem dX4_findCluster_74 : decode cX4_findCluster 74 = .ok (.iconst (-1), 1) := by decide +kernel
theorem dX4_findCluster_75 : decode cX4_findCluster 75 = .ok (.if_icmp .ne 13, 3) := by decide +kernel
theorem dX4_findCluster_78 : decode cX4_findCluster 78 = .ok (.aload_n 0, 1) := by decide +kernel
theorem dX4_findCluster_79 : decode cX4_findCluster 79 = .ok (.iload_n 2, 1) := by decide +kernel
theorem dX4_findCluster_80 : decode cX4_findCluster 80 = .ok (.iload 6, 2) := by decide +kernel
theorem dX4_findCluster_82 : decode cX4_findCluster 82 = .ok (.invokevirtual 129, 3) := by decide +kernel
theorem dX4_findCluster_85 : decode cX4_findCluster 85 = .ok (.goto 10, 3) := by decide +kernel
theorem dX4_findCluster_88 : decode cX4_findCluster 88 = .ok (.aload_n 0, 1) := by decide +kernel
theorem dX4_findCluster_89 : decode cX4_findCluster 89 = .ok (.iload_n 2, 1) := by decide +kernel
theorem dX4_findCluster_90 : decode cX4_findCluster 90 = .ok (.iload 6, 2) := by decide +kernel
theorem dX4_findCluster_92 : decode cX4_findCluster 92 = .ok (.invokevirtual 132, 3) := by decide +kernel
theorem dX4_findCluster_95 : decode cX4_findCluster 95 = .ok (.istore 7, 2) := by decide +kernel
theorem dX4_findCluster_97 : decode cX4_findCluster 97 = .ok (.iload 7, 2) := by decide +kernel
theorem dX4_findCluster_99 : decode cX4_findCluster 99 = .ok (.iconst (-1), 1) := by decide +kernel
theorem dX4_findCluster_100 : decode cX4_findCluster 100 = .ok (.if_icmp .eq 26, 3) := by decide +kernel
theorem dX4_findCluster_103 : decode cX4_findCluster 103 = .ok (.aload_n 0, 1) := by decide +kernel
theorem dX4_findCluster_104 : decode cX4_findCluster 104 = .ok (.iload 7, 2) := by decide +kernel
theorem dX4_findCluster_106 : decode cX4_findCluster 106 = .ok (.invokevirtual 83, 3) := by decide +kernel
theorem dX4_findCluster_109 : decode cX4_findCluster 109 = .ok (.iconst (-1), 1) := by decide +kernel
theorem dX4_findCluster_110 : decode cX4_findCluster 110 = .ok (.if_icmp .eq 16, 3) := by decide +kernel
theorem dX4_findCluster_113 : decode cX4_findCluster 113 = .ok (.aload_n 0, 1) := by decide +kernel
theorem dX4_findCluster_114 : decode cX4_findCluster 114 = .ok (.iload 7, 2) := by decide +kernel
theorem dX4_findCluster_116 : decode cX4_findCluster 116 = .ok (.invokevirtual 135, 3) := by decide +kernel
theorem dX4_findCluster_119 : decode cX4_findCluster 119 = .ok (.ifCond .eq 7, 3) := by decide +kernel
theorem dX4_findCluster_122 : decode cX4_findCluster 122 = .ok (.iconst 1, 1) := by decide +kernel
theorem dX4_findCluster_123 : decode cX4_findCluster 123 = .ok (.goto 4, 3) := by decide +kernel
theorem dX4_findCluster_126 : decode cX4_findCluster 126 = .ok (.iconst 0, 1) := by decide +kernel
theorem dX4_findCluster_127 : decode cX4_findCluster 127 = .ok (.istore 5, 2) := by decide +kernel
theorem dX4_findCluster_129 : decode cX4_findCluster 129 = .ok (.iconst 0, 1) := by decide +kernel
theorem dX4_findCluster_130 : decode cX4_findCluster 130 = .ok (.istore 8, 2) := by decide +kernel
theorem dX4_findCluster_132 : decode cX4_findCluster 132 = .ok (.iload 8, 2) := by decide +kernel
theorem dX4_findCluster_134 : decode cX4_findCluster 134 = .ok (.iload 4, 2) := by decide +kernel
theorem dX4_findCluster_136 : decode cX4_findCluster 136 = .ok (.if_icmp .ge 31, 3) := by decide +kernel
theorem dX4_findCluster_139 : decode cX4_findCluster 139 = .ok (.iload 5, 2) := by decide +kernel
theorem dX4_findCluster_141 : decode cX4_findCluster 141 = .ok (.aload_n 0, 1) := by decide +kernel
theorem dX4_findCluster_142 : decode cX4_findCluster 142 = .ok (.getfield 57, 3) := by decide +kernel
theorem dX4_findCluster_145 : decode cX4_findCluster 145 = .ok (.iload 8, 2) := by decide +kernel
theorem dX4_findCluster_147 : decode cX4_findCluster 147 = .ok (.iaload, 1) := by decide +kernel
theorem dX4_findCluster_148 : decode cX4_findCluster 148 = .ok (.iload 7, 2) := by decide +kernel
theorem dX4_findCluster_150 : decode cX4_findCluster 150 = .ok (.if_icmp .eq 7, 3) := by decide +kernel
theorem dX4_findCluster_153 : decode cX4_findCluster 153 = .ok (.iconst 1, 1) := by decide +kernel
theorem dX4_findCluster_154 : decode cX4_findCluster 154 = .ok (.goto 4, 3) := by decide +kernel
theorem dX4_findCluster_157 : decode cX4_findCluster 157 = .ok (.iconst 0, 1) := by decide +kernel
theorem dX4_findCluster_158 : decode cX4_findCluster 158 = .ok (.iand, 1) := by decide +kernel
theorem dX4_findCluster_159 : decode cX4_findCluster 159 = .ok (.istore 5, 2) := by decide +kernel
theorem dX4_findCluster_161 : decode cX4_findCluster 161 = .ok (.iinc 8 1, 3) := by decide +kernel
theorem dX4_findCluster_164 : decode cX4_findCluster 164 = .ok (.goto (-32), 3) := by decide +kernel
theorem dX4_findCluster_167 : decode cX4_findCluster 167 = .ok (.iload 5, 2) := by decide +kernel
theorem dX4_findCluster_169 : decode cX4_findCluster 169 = .ok (.ifCond .ne 6, 3) := by decide +kernel
theorem dX4_findCluster_172 : decode cX4_findCluster 172 = .ok (.goto 15, 3) := by decide +kernel
theorem dX4_findCluster_175 : decode cX4_findCluster 175 = .ok (.aload_n 0, 1) := by decide +kernel
theorem dX4_findCluster_176 : decode cX4_findCluster 176 = .ok (.getfield 57, 3) := by decide +kernel
theorem dX4_findCluster_179 : decode cX4_findCluster 179 = .ok (.iload 4, 2) := by decide +kernel
theorem dX4_findCluster_181 : decode cX4_findCluster 181 = .ok (.iload 7, 2) := by decide +kernel
theorem dX4_findCluster_183 : decode cX4_findCluster 183 = .ok (.iastore, 1) := by decide +kernel
theorem dX4_findCluster_184 : decode cX4_findCluster 184 = .ok (.iinc 4 1, 3) := by decide +kernel
theorem dX4_findCluster_187 : decode cX4_findCluster 187 = .ok (.iinc 6 1, 3) := by decide +kernel
theorem dX4_findCluster_190 : decode cX4_findCluster 190 = .ok (.goto (-128), 3) := by decide +kernel
theorem dX4_findCluster_193 : decode cX4_findCluster 193 = .ok (.iload 4, 2) := by decide +kernel
theorem dX4_findCluster_195 : decode cX4_findCluster 195 = .ok (.ireturn, 1) := by decide +kernel
theorem dX4_nextInSegment_0 : decode cX4_nextInSegment 0 = .ok (.iload_n 1, 1) := by decide +kernel
theorem dX4_nextInSegment_1 : decode cX4_nextInSegment 1 = .ok (.bipush 6, 2) := by decide +kernel
theorem dX4_nextInSegment_3 : decode cX4_nextInSegment 3 = .ok (.idiv, 1) := by decide +kernel
theorem dX4_nextInSegment_4 : decode cX4_nextInSegment 4 = .ok (.istore_n 3, 1) := by decide +kernel
theorem dX4_nextInSegment_5 : decode cX4_nextInSegment 5 = .ok (.iload_n 1, 1) := by decide +kernel
theorem dX4_nextInSegment_6 : decode cX4_nextInSegment 6 = .ok (.bipush 6, 2) := by decide +kernel
theorem dX4_nextInSegment_8 : decode cX4_nextInSegment 8 = .ok (.irem, 1) := by decide +kernel
theorem dX4_nextInSegment_9 : decode cX4_nextInSegment 9 = .ok (.iload_n 2, 1) := by decide +kernel
theorem dX4_nextInSegment_10 : decode cX4_nextInSegment 10 = .ok (.iadd, 1) := by decide +kernel
theorem dX4_nextInSegment_11 : decode cX4_nextInSegment 11 = .ok (.istore 4, 2) := by decide +kernel
theorem dX4_nextInSegment_13 : decode cX4_nextInSegment 13 = .ok (.iload 4, 2) := by decide +kernel
theorem dX4_nextInSegment_15 : decode cX4_nextInSegment 15 = .ok (.aload_n 0, 1) := by decide +kernel
theorem dX4_nextInSegment_16 : decode cX4_nextInSegment 16 = .ok (.getfield 48, 3) := by decide +kernel
theorem dX4_nextInSegment_19 : decode cX4_nextInSegment 19 = .ok (.iload_n 3, 1) := by decide +kernel
theorem dX4_nextInSegment_20 : decode cX4_nextInSegment 20 = .ok (.iaload, 1) := by decide +kernel
theorem dX4_nextInSegment_21 : decode cX4_nextInSegment 21 = .ok (.if_icmp .ge 18, 3) := by decide +kernel
theorem dX4_nextInSegment_24 : decode cX4_nextInSegment 24 = .ok (.aload_n 0, 1) := by decide +kernel
theorem dX4_nextInSegment_25 : decode cX4_nextInSegment 25 = .ok (.getfield 51, 3) := by decide +kernel
theorem dX4_nextInSegment_28 : decode cX4_nextInSegment 28 = .ok (.bipush 6, 2) := by decide +kernel
theorem dX4_nextInSegment_30 : decode cX4_nextInSegment 30 = .ok (.iload_n 3, 1) := by decide +kernel
theorem dX4_nextInSegment_31 : decode cX4_nextInSegment 31 = .ok (.imul, 1) := by decide +kernel
theorem dX4_nextInSegment_32 : decode cX4_nextInSegment 32 = .ok (.iload 4, 2) := by decide +kernel
theorem dX4_nextInSegment_34 : decode cX4_nextInSegment 34 = .ok (.iadd, 1) := by decide +kernel
theorem dX4_nextInSegment_35 : decode cX4_nextInSegment 35 = .ok (.iaload, 1) := by decide +kernel
theorem dX4_nextInSegment_36 : decode cX4_nextInSegment 36 = .ok (.goto 4, 3) := by decide +kernel
theorem dX4_nextInSegment_39 : decode cX4_nextInSegment 39 = .ok (.iconst (-1), 1) := by decide +kernel
theorem dX4_nextInSegment_40 : decode cX4_nextInSegment 40 = .ok (.ireturn, 1) := by decide +kernel
theorem dX4_nextOfProcess_0 : decode cX4_nextOfProcess 0 = .ok (.iload_n 1, 1) := by decide +kernel
theorem dX4_nextOfProcess_1 : decode cX4_nextOfProcess 1 = .ok (.bipush 16, 2) := by decide +kernel
theorem dX4_nextOfProcess_3 : decode cX4_nextOfProcess 3 = .ok (.irem, 1) := by decide +kernel
theorem dX4_nextOfProcess_4 : decode cX4_nextOfProcess 4 = .ok (.iload_n 2, 1) := by decide +kernel
theorem dX4_nextOfProcess_5 : decode cX4_nextOfProcess 5 = .ok (.iadd, 1) := by decide +kernel
theorem dX4_nextOfProcess_6 : decode cX4_nextOfProcess 6 = .ok (.bipush 16, 2) := by decide +kernel
theorem dX4_nextOfProcess_8 : decode cX4_nextOfProcess 8 = .ok (.if_icmp .ge 26, 3) := by decide +kernel
theorem dX4_nextOfProcess_11 : decode cX4_nextOfProcess 11 = .ok (.aload_n 0, 1) := by decide +kernel
theorem dX4_nextOfProcess_12 : decode cX4_nextOfProcess 12 = .ok (.getfield 42, 3) := by decide +kernel
theorem dX4_nextOfProcess_15 : decode cX4_nextOfProcess 15 = .ok (.iload_n 1, 1) := by decide +kernel
theorem dX4_nextOfProcess_16 : decode cX4_nextOfProcess 16 = .ok (.iload_n 2, 1) := by decide +kernel
theorem dX4_nextOfProcess_17 : decode cX4_nextOfProcess 17 = .ok (.iadd, 1) := by decide +kernel
theorem dX4_nextOfProcess_18 : decode cX4_nextOfProcess 18 = .ok (.iaload, 1) := by decide +kernel
theorem dX4_nextOfProcess_19 : decode cX4_nextOfProcess 19 = .ok (.iconst 1, 1) := by decide +kernel
theorem dX4_nextOfProcess_20 : decode cX4_nextOfProcess 20 = .ok (.if_icmp .ne 14, 3) := by decide +kernel
theorem dX4_nextOfProcess_23 : decode cX4_nextOfProcess 23 = .ok (.aload_n 0, 1) := by decide +kernel
theorem dX4_nextOfProcess_24 : decode cX4_nextOfProcess 24 = .ok (.getfield 45, 3) := by decide +kernel
theorem dX4_nextOfProcess_27 : decode cX4_nextOfProcess 27 = .ok (.iload_n 1, 1) := by decide +kernel
theorem dX4_nextOfProcess_28 : decode cX4_nextOfProcess 28 = .ok (.iload_n 2, 1) := by decide +kernel
theorem dX4_nextOfProcess_29 : decode cX4_nextOfProcess 29 = .ok (.iadd, 1) := by decide +kernel
theorem dX4_nextOfProcess_30 : decode cX4_nextOfProcess 30 = .ok (.iaload, 1) := by decide +kernel
theorem dX4_nextOfProcess_31 : decode cX4_nextOfProcess 31 = .ok (.goto 4, 3) := by decide +kernel
theorem dX4_nextOfProcess_34 : decode cX4_nextOfProcess 34 = .ok (.iconst (-1), 1) := by decide +kernel
theorem dX4_nextOfProcess_35 : decode cX4_nextOfProcess 35 = .ok (.ireturn, 1) := by decide +kernel
theorem dX4_room_0 : decode cX4_room 0 = .ok (.iconst 0, 1) := by decide +kernel
theorem dX4_room_1 : decode cX4_room 1 = .ok (.istore_n 2, 1) := by decide +kernel
theorem dX4_room_2 : decode cX4_room 2 = .ok (.iconst 0, 1) := by decide +kernel
theorem dX4_room_3 : decode cX4_room 3 = .ok (.istore_n 3, 1) := by decide +kernel
theorem dX4_room_4 : decode cX4_room 4 = .ok (.iload_n 3, 1) := by decide +kernel
theorem dX4_room_5 : decode cX4_room 5 = .ok (.bipush 24, 2) := by decide +kernel
theorem dX4_room_7 : decode cX4_room 7 = .ok (.if_icmp .ge 38, 3) := by decide +kernel
theorem dX4_room_10 : decode cX4_room 10 = .ok (.aload_n 0, 1) := by decide +kernel
theorem dX4_room_11 : decode cX4_room 11 = .ok (.getfield 27, 3) := by decide +kernel
theorem dX4_room_14 : decode cX4_room 14 = .ok (.iload_n 3, 1) := by decide +kernel
theorem dX4_room_15 : decode cX4_room 15 = .ok (.iaload, 1) := by decide +kernel
theorem dX4_room_16 : decode cX4_room 16 = .ok (.iconst (-1), 1) := by decide +kernel
theorem dX4_room_17 : decode cX4_room 17 = .ok (.if_icmp .ne 9, 3) := by decide +kernel
theorem dX4_room_20 : decode cX4_room 20 = .ok (.iload_n 2, 1) := by decide +kernel
theorem dX4_room_21 : decode cX4_room 21 = .ok (.iconst 1, 1) := by decide +kernel
theorem dX4_room_22 : decode cX4_room 22 = .ok (.iadd, 1) := by decide +kernel
theorem dX4_room_23 : decode cX4_room 23 = .ok (.goto 4, 3) := by decide +kernel
theorem dX4_room_26 : decode cX4_room 26 = .ok (.iconst 0, 1) := by decide +kernel
theorem dX4_room_27 : decode cX4_room 27 = .ok (.istore_n 2, 1) := by decide +kernel
theorem dX4_room_28 : decode cX4_room 28 = .ok (.iload_n 2, 1) := by decide +kernel
theorem dX4_room_29 : decode cX4_room 29 = .ok (.iload_n 1, 1) := by decide +kernel
theorem dX4_room_30 : decode cX4_room 30 = .ok (.if_icmp .ne 9, 3) := by decide +kernel
theorem dX4_room_33 : decode cX4_room 33 = .ok (.iload_n 3, 1) := by decide +kernel
theorem dX4_room_34 : decode cX4_room 34 = .ok (.iload_n 1, 1) := by decide +kernel
theorem dX4_room_35 : decode cX4_room 35 = .ok (.isub, 1) := by decide +kernel
theorem dX4_room_36 : decode cX4_room 36 = .ok (.iconst 1, 1) := by decide +kernel
theorem dX4_room_37 : decode cX4_room 37 = .ok (.iadd, 1) := by decide +kernel
theorem dX4_room_38 : decode cX4_room 38 = .ok (.ireturn, 1) := by decide +kernel
theorem dX4_room_39 : decode cX4_room 39 = .ok (.iinc 3 1, 3) := by decide +kernel
theorem dX4_room_42 : decode cX4_room 42 = .ok (.goto (-38), 3) := by decide +kernel
theorem dX4_room_45 : decode cX4_room 45 = .ok (.iconst (-1), 1) := by decide +kernel
theorem dX4_room_46 : decode cX4_room 46 = .ok (.ireturn, 1) := by decide +kernel
theorem dX4_writeOut_0 : decode cX4_writeOut 0 = .ok (.aload_n 0, 1) := by decide +kernel
theorem dX4_writeOut_1 : decode cX4_writeOut 1 = .ok (.iload_n 1, 1) := by decide +kernel
theorem dX4_writeOut_2 : decode cX4_writeOut 2 = .ok (.invokevirtual 138, 3) := by decide +kernel
theorem dX4_writeOut_5 : decode cX4_writeOut 5 = .ok (.istore_n 2, 1) := by decide +kernel
theorem dX4_writeOut_6 : decode cX4_writeOut 6 = .ok (.iload_n 2, 1) := by decide +kernel
theorem dX4_writeOut_7 : decode cX4_writeOut 7 = .ok (.ifCond .le 18, 3) := by decide +kernel
theorem dX4_writeOut_10 : decode cX4_writeOut 10 = .ok (.aload_n 0, 1) := by decide +kernel
theorem dX4_writeOut_11 : decode cX4_writeOut 11 = .ok (.iload_n 2, 1) := by decide +kernel
theorem dX4_writeOut_12 : decode cX4_writeOut 12 = .ok (.invokevirtual 141, 3) := by decide +kernel
theorem dX4_writeOut_15 : decode cX4_writeOut 15 = .ok (.iconst (-1), 1) := by decide +kernel
theorem dX4_writeOut_16 : decode cX4_writeOut 16 = .ok (.if_icmp .ne 9, 3) := by decide +kernel
theorem dX4_writeOut_19 : decode cX4_writeOut 19 = .ok (.iinc 2 (-1), 3) := by decide +kernel
theorem dX4_writeOut_22 : decode cX4_writeOut 22 = .ok (.goto (-16), 3) := by decide +kernel
theorem dX4_writeOut_25 : decode cX4_writeOut 25 = .ok (.iload_n 2, 1) := by decide +kernel
theorem dX4_writeOut_26 : decode cX4_writeOut 26 = .ok (.ifCond .le 11, 3) := by decide +kernel
theorem dX4_writeOut_29 : decode cX4_writeOut 29 = .ok (.aload_n 0, 1) := by decide +kernel
theorem dX4_writeOut_30 : decode cX4_writeOut 30 = .ok (.iload_n 2, 1) := by decide +kernel
theorem dX4_writeOut_31 : decode cX4_writeOut 31 = .ok (.invokevirtual 141, 3) := by decide +kernel
theorem dX4_writeOut_34 : decode cX4_writeOut 34 = .ok (.goto 4, 3) := by decide +kernel
theorem dX4_writeOut_37 : decode cX4_writeOut 37 = .ok (.iconst 0, 1) := by decide +kernel
theorem dX4_writeOut_38 : decode cX4_writeOut 38 = .ok (.istore_n 3, 1) := by decide +kernel
theorem dX4_writeOut_39 : decode cX4_writeOut 39 = .ok (.iconst 0, 1) := by decide +kernel
theorem dX4_writeOut_40 : decode cX4_writeOut 40 = .ok (.istore 4, 2) := by decide +kernel
theorem dX4_writeOut_42 : decode cX4_writeOut 42 = .ok (.iload 4, 2) := by decide +kernel
theorem dX4_writeOut_44 : decode cX4_writeOut 44 = .ok (.iload_n 2, 1) := by decide +kernel
theorem dX4_writeOut_45 : decode cX4_writeOut 45 = .ok (.if_icmp .ge 25, 3) := by decide +kernel
theorem dX4_writeOut_48 : decode cX4_writeOut 48 = .ok (.aload_n 0, 1) := by decide +kernel
theorem dX4_writeOut_49 : decode cX4_writeOut 49 = .ok (.getfield 27, 3) := by decide +kernel
theorem dX4_writeOut_52 : decode cX4_writeOut 52 = .ok (.iload_n 3, 1) := by decide +kernel
theorem dX4_writeOut_53 : decode cX4_writeOut 53 = .ok (.iload 4, 2) := by decide +kernel
theorem dX4_writeOut_55 : decode cX4_writeOut 55 = .ok (.iadd, 1) := by decide +kernel
theorem dX4_writeOut_56 : decode cX4_writeOut 56 = .ok (.aload_n 0, 1) := by decide +kernel
theorem dX4_writeOut_57 : decode cX4_writeOut 57 = .ok (.getfield 57, 3) := by decide +kernel
theorem dX4_writeOut_60 : decode cX4_writeOut 60 = .ok (.iload 4, 2) := by decide +kernel
theorem dX4_writeOut_62 : decode cX4_writeOut 62 = .ok (.iaload, 1) := by decide +kernel
theorem dX4_writeOut_63 : decode cX4_writeOut 63 = .ok (.iastore, 1) := by decide +kernel
theorem dX4_writeOut_64 : decode cX4_writeOut 64 = .ok (.iinc 4 1, 3) := by decide +kernel
theorem dX4_writeOut_67 : decode cX4_writeOut 67 = .ok (.goto (-25), 3) := by decide +kernel
theorem dX4_writeOut_70 : decode cX4_writeOut 70 = .ok (.aload_n 0, 1) := by decide +kernel
theorem dX4_writeOut_71 : decode cX4_writeOut 71 = .ok (.getfield 54, 3) := by decide +kernel
theorem dX4_writeOut_74 : decode cX4_writeOut 74 = .ok (.iconst 5, 1) := by decide +kernel
theorem dX4_writeOut_75 : decode cX4_writeOut 75 = .ok (.dup2, 1) := by decide +kernel
theorem dX4_writeOut_76 : decode cX4_writeOut 76 = .ok (.iaload, 1) := by decide +kernel
theorem dX4_writeOut_77 : decode cX4_writeOut 77 = .ok (.iload_n 2, 1) := by decide +kernel
theorem dX4_writeOut_78 : decode cX4_writeOut 78 = .ok (.iadd, 1) := by decide +kernel
theorem dX4_writeOut_79 : decode cX4_writeOut 79 = .ok (.iastore, 1) := by decide +kernel
theorem dX4_writeOut_80 : decode cX4_writeOut 80 = .ok (.iload_n 2, 1) := by decide +kernel
theorem dX4_writeOut_81 : decode cX4_writeOut 81 = .ok (.ireturn, 1) := by decide +kernel
theorem dX4_evict_0 : decode cX4_evict 0 = .ok (.aload_n 0, 1) := by decide +kernel
theorem dX4_evict_1 : decode cX4_evict 1 = .ok (.getfield 16, 3) := by decide +kernel
theorem dX4_evict_4 : decode cX4_evict 4 = .ok (.iload_n 1, 1) := by decide +kernel
theorem dX4_evict_5 : decode cX4_evict 5 = .ok (.iaload, 1) := by decide +kernel
theorem dX4_evict_6 : decode cX4_evict 6 = .ok (.istore_n 2, 1) := by decide +kernel
theorem dX4_evict_7 : decode cX4_evict 7 = .ok (.aload_n 0, 1) := by decide +kernel
theorem dX4_evict_8 : decode cX4_evict 8 = .ok (.getfield 16, 3) := by decide +kernel
theorem dX4_evict_11 : decode cX4_evict 11 = .ok (.iload_n 1, 1) := by decide +kernel
theorem dX4_evict_12 : decode cX4_evict 12 = .ok (.iconst (-1), 1) := by decide +kernel
theorem dX4_evict_13 : decode cX4_evict 13 = .ok (.iastore, 1) := by decide +kernel
theorem dX4_evict_14 : decode cX4_evict 14 = .ok (.aload_n 0, 1) := by decide +kernel
theorem dX4_evict_15 : decode cX4_evict 15 = .ok (.getfield 23, 3) := by decide +kernel
theorem dX4_evict_18 : decode cX4_evict 18 = .ok (.iload_n 1, 1) := by decide +kernel
theorem dX4_evict_19 : decode cX4_evict 19 = .ok (.iconst 0, 1) := by decide +kernel
theorem dX4_evict_20 : decode cX4_evict 20 = .ok (.bastore, 1) := by decide +kernel
theorem dX4_evict_21 : decode cX4_evict 21 = .ok (.aload_n 0, 1) := by decide +kernel
theorem dX4_evict_22 : decode cX4_evict 22 = .ok (.getfield 54, 3) := by decide +kernel
theorem dX4_evict_25 : decode cX4_evict 25 = .ok (.iconst 4, 1) := by decide +kernel
theorem dX4_evict_26 : decode cX4_evict 26 = .ok (.dup2, 1) := by decide +kernel
theorem dX4_evict_27 : decode cX4_evict 27 = .ok (.iaload, 1) := by decide +kernel
theorem dX4_evict_28 : decode cX4_evict 28 = .ok (.iconst 1, 1) := by decide +kernel
theorem dX4_evict_29 : decode cX4_evict 29 = .ok (.iadd, 1) := by decide +kernel
theorem dX4_evict_30 : decode cX4_evict 30 = .ok (.iastore, 1) := by decide +kernel
theorem dX4_evict_31 : decode cX4_evict 31 = .ok (.aload_n 0, 1) := by decide +kernel
theorem dX4_evict_32 : decode cX4_evict 32 = .ok (.iload_n 1, 1) := by decide +kernel
theorem dX4_evict_33 : decode cX4_evict 33 = .ok (.iconst 1, 1) := by decide +kernel
theorem dX4_evict_34 : decode cX4_evict 34 = .ok (.iadd, 1) := by decide +kernel
theorem dX4_evict_35 : decode cX4_evict 35 = .ok (.aload_n 0, 1) := by decide +kernel
theorem dX4_evict_36 : decode cX4_evict 36 = .ok (.getfield 13, 3) := by decide +kernel
theorem dX4_evict_39 : decode cX4_evict 39 = .ok (.irem, 1) := by decide +kernel
theorem dX4_evict_40 : decode cX4_evict 40 = .ok (.putfield 93, 3) := by decide +kernel
theorem dX4_evict_43 : decode cX4_evict 43 = .ok (.aload_n 0, 1) := by decide +kernel
theorem dX4_evict_44 : decode cX4_evict 44 = .ok (.iload_n 2, 1) := by decide +kernel
theorem dX4_evict_45 : decode cX4_evict 45 = .ok (.invokevirtual 63, 3) := by decide +kernel
theorem dX4_evict_48 : decode cX4_evict 48 = .ok (.iconst (-1), 1) := by decide +kernel
theorem dX4_evict_49 : decode cX4_evict 49 = .ok (.if_icmp .ne 10, 3) := by decide +kernel
theorem dX4_evict_52 : decode cX4_evict 52 = .ok (.aload_n 0, 1) := by decide +kernel
theorem dX4_evict_53 : decode cX4_evict 53 = .ok (.getfield 33, 3) := by decide +kernel
theorem dX4_evict_56 : decode cX4_evict 56 = .ok (.iload_n 2, 1) := by decide +kernel
theorem dX4_evict_57 : decode cX4_evict 57 = .ok (.iconst 0, 1) := by decide +kernel
theorem dX4_evict_58 : decode cX4_evict 58 = .ok (.bastore, 1) := by decide +kernel
theorem dX4_evict_59 : decode cX4_evict 59 = .ok (.return_, 1) := by decide +kernel
theorem dX4_take_0 : decode cX4_take 0 = .ok (.aload_n 0, 1) := by decide +kernel
theorem dX4_take_1 : decode cX4_take 1 = .ok (.iconst (-1), 1) := by decide +kernel
theorem dX4_take_2 : decode cX4_take 2 = .ok (.invokevirtual 83, 3) := by decide +kernel
theorem dX4_take_5 : decode cX4_take 5 = .ok (.istore_n 3, 1) := by decide +kernel
theorem dX4_take_6 : decode cX4_take 6 = .ok (.iload_n 3, 1) := by decide +kernel
theorem dX4_take_7 : decode cX4_take 7 = .ok (.iconst (-1), 1) := by decide +kernel
theorem dX4_take_8 : decode cX4_take 8 = .ok (.if_icmp .ne 8, 3) := by decide +kernel
theorem dX4_take_11 : decode cX4_take 11 = .ok (.aload_n 0, 1) := by decide +kernel
theorem dX4_take_12 : decode cX4_take 12 = .ok (.invokevirtual 144, 3) := by decide +kernel
theorem dX4_take_15 : decode cX4_take 15 = .ok (.istore_n 3, 1) := by decide +kernel
theorem dX4_take_16 : decode cX4_take 16 = .ok (.aload_n 0, 1) := by decide +kernel
theorem dX4_take_17 : decode cX4_take 17 = .ok (.getfield 16, 3) := by decide +kernel
theorem dX4_take_20 : decode cX4_take 20 = .ok (.iload_n 3, 1) := by decide +kernel
theorem dX4_take_21 : decode cX4_take 21 = .ok (.iload_n 1, 1) := by decide +kernel
theorem dX4_take_22 : decode cX4_take 22 = .ok (.iastore, 1) := by decide +kernel
theorem dX4_take_23 : decode cX4_take 23 = .ok (.aload_n 0, 1) := by decide +kernel
theorem dX4_take_24 : decode cX4_take 24 = .ok (.getfield 20, 3) := by decide +kernel
theorem dX4_take_27 : decode cX4_take 27 = .ok (.iload_n 3, 1) := by decide +kernel
theorem dX4_take_28 : decode cX4_take 28 = .ok (.aload_n 0, 1) := by decide +kernel
theorem dX4_take_29 : decode cX4_take 29 = .ok (.getfield 147, 3) := by decide +kernel
theorem dX4_take_32 : decode cX4_take 32 = .ok (.iastore, 1) := by decide +kernel
theorem dX4_take_33 : decode cX4_take 33 = .ok (.aload_n 0, 1) := by decide +kernel
theorem dX4_take_34 : decode cX4_take 34 = .ok (.getfield 23, 3) := by decide +kernel
theorem dX4_take_37 : decode cX4_take 37 = .ok (.iload_n 3, 1) := by decide +kernel
theorem dX4_take_38 : decode cX4_take 38 = .ok (.iconst 0, 1) := by decide +kernel
theorem dX4_take_39 : decode cX4_take 39 = .ok (.bastore, 1) := by decide +kernel
theorem dX4_take_40 : decode cX4_take 40 = .ok (.aload_n 0, 1) := by decide +kernel
theorem dX4_take_41 : decode cX4_take 41 = .ok (.getfield 54, 3) := by decide +kernel
theorem dX4_take_44 : decode cX4_take 44 = .ok (.iload_n 2, 1) := by decide +kernel
theorem dX4_take_45 : decode cX4_take 45 = .ok (.dup2, 1) := by decide +kernel
theorem dX4_take_46 : decode cX4_take 46 = .ok (.iaload, 1) := by decide +kernel
theorem dX4_take_47 : decode cX4_take 47 = .ok (.iconst 1, 1) := by decide +kernel
theorem dX4_take_48 : decode cX4_take 48 = .ok (.iadd, 1) := by decide +kernel
theorem dX4_take_49 : decode cX4_take 49 = .ok (.iastore, 1) := by decide +kernel
theorem dX4_take_50 : decode cX4_take 50 = .ok (.return_, 1) := by decide +kernel
theorem dX4_freed_0 : decode cX4_freed 0 = .ok (.iconst 0, 1) := by decide +kernel
theorem dX4_freed_1 : decode cX4_freed 1 = .ok (.istore_n 1, 1) := by decide +kernel
theorem dX4_freed_2 : decode cX4_freed 2 = .ok (.iload_n 1, 1) := by decide +kernel
theorem dX4_freed_3 : decode cX4_freed 3 = .ok (.iconst 2, 1) := by decide +kernel
theorem dX4_freed_4 : decode cX4_freed 4 = .ok (.aload_n 0, 1) := by decide +kernel
theorem dX4_freed_5 : decode cX4_freed 5 = .ok (.getfield 13, 3) := by decide +kernel
theorem dX4_freed_8 : decode cX4_freed 8 = .ok (.imul, 1) := by decide +kernel
theorem dX4_freed_9 : decode cX4_freed 9 = .ok (.if_icmp .ge 107, 3) := by decide +kernel
theorem dX4_freed_12 : decode cX4_freed 12 = .ok (.aload_n 0, 1) := by decide +kernel
theorem dX4_freed_13 : decode cX4_freed 13 = .ok (.getfield 93, 3) := by decide +kernel
theorem dX4_freed_16 : decode cX4_freed 16 = .ok (.istore_n 2, 1) := by decide +kernel
theorem dX4_freed_17 : decode cX4_freed 17 = .ok (.aload_n 0, 1) := by decide +kernel
theorem dX4_freed_18 : decode cX4_freed 18 = .ok (.getfield 23, 3) := by decide +kernel
theorem dX4_freed_21 : decode cX4_freed 21 = .ok (.iload_n 2, 1) := by decide +kernel
theorem dX4_freed_22 : decode cX4_freed 22 = .ok (.baload, 1) := by decide +kernel
theorem dX4_freed_23 : decode cX4_freed 23 = .ok (.ifCond .eq 23, 3) := by decide +kernel
theorem dX4_freed_26 : decode cX4_freed 26 = .ok (.aload_n 0, 1) := by decide +kernel
theorem dX4_freed_27 : decode cX4_freed 27 = .ok (.getfield 23, 3) := by decide +kernel
theorem dX4_freed_30 : decode cX4_freed 30 = .ok (.iload_n 2, 1) := by decide +kernel
theorem dX4_freed_31 : decode cX4_freed 31 = .ok (.iconst 0, 1) := by decide +kernel
theorem dX4_freed_32 : decode cX4_freed 32 = .ok (.bastore, 1) := by decide +kernel
theorem dX4_freed_33 : decode cX4_freed 33 = .ok (.aload_n 0, 1) := by decide +kernel
theorem dX4_freed_34 : decode cX4_freed 34 = .ok (.getfield 20, 3) := by decide +kernel
theorem dX4_freed_37 : decode cX4_freed 37 = .ok (.iload_n 2, 1) := by decide +kernel
theorem dX4_freed_38 : decode cX4_freed 38 = .ok (.aload_n 0, 1) := by decide +kernel
theorem dX4_freed_39 : decode cX4_freed 39 = .ok (.getfield 147, 3) := by decide +kernel
theorem dX4_freed_42 : decode cX4_freed 42 = .ok (.iastore, 1) := by decide +kernel
theorem dX4_freed_43 : decode cX4_freed 43 = .ok (.goto 52, 3) := by decide +kernel
theorem dX4_freed_46 : decode cX4_freed 46 = .ok (.aload_n 0, 1) := by decide +kernel
theorem dX4_freed_47 : decode cX4_freed 47 = .ok (.getfield 147, 3) := by decide +kernel
theorem dX4_freed_50 : decode cX4_freed 50 = .ok (.aload_n 0, 1) := by decide +kernel
theorem dX4_freed_51 : decode cX4_freed 51 = .ok (.getfield 20, 3) := by decide +kernel
theorem dX4_freed_54 : decode cX4_freed 54 = .ok (.iload_n 2, 1) := by decide +kernel
theorem dX4_freed_55 : decode cX4_freed 55 = .ok (.iaload, 1) := by decide +kernel
theorem dX4_freed_56 : decode cX4_freed 56 = .ok (.isub, 1) := by decide +kernel
theorem dX4_freed_57 : decode cX4_freed 57 = .ok (.aload_n 0, 1) := by decide +kernel
theorem dX4_freed_58 : decode cX4_freed 58 = .ok (.getfield 7, 3) := by decide +kernel
theorem dX4_freed_61 : decode cX4_freed 61 = .ok (.if_icmp .le 34, 3) := by decide +kernel
theorem dX4_freed_64 : decode cX4_freed 64 = .ok (.aload_n 0, 1) := by decide +kernel
theorem dX4_freed_65 : decode cX4_freed 65 = .ok (.aload_n 0, 1) := by decide +kernel
theorem dX4_freed_66 : decode cX4_freed 66 = .ok (.getfield 16, 3) := by decide +kernel
theorem dX4_freed_69 : decode cX4_freed 69 = .ok (.iload_n 2, 1) := by decide +kernel
theorem dX4_freed_70 : decode cX4_freed 70 = .ok (.iaload, 1) := by decide +kernel
theorem dX4_freed_71 : decode cX4_freed 71 = .ok (.invokevirtual 135, 3) := by decide +kernel
theorem dX4_freed_74 : decode cX4_freed 74 = .ok (.ifCond .ne 10, 3) := by decide +kernel
theorem dX4_freed_77 : decode cX4_freed 77 = .ok (.aload_n 0, 1) := by decide +kernel
theorem dX4_freed_78 : decode cX4_freed 78 = .ok (.iload_n 2, 1) := by decide +kernel
theorem dX4_freed_79 : decode cX4_freed 79 = .ok (.invokevirtual 150, 3) := by decide +kernel
theorem dX4_freed_82 : decode cX4_freed 82 = .ok (.iload_n 2, 1) := by decide +kernel
theorem dX4_freed_83 : decode cX4_freed 83 = .ok (.ireturn, 1) := by decide +kernel
theorem dX4_freed_84 : decode cX4_freed 84 = .ok (.aload_n 0, 1) := by decide +kernel
theorem dX4_freed_85 : decode cX4_freed 85 = .ok (.aload_n 0, 1) := by decide +kernel
theorem dX4_freed_86 : decode cX4_freed 86 = .ok (.getfield 16, 3) := by decide +kernel
theorem dX4_freed_89 : decode cX4_freed 89 = .ok (.iload_n 2, 1) := by decide +kernel
theorem dX4_freed_90 : decode cX4_freed 90 = .ok (.iaload, 1) := by decide +kernel
theorem dX4_freed_91 : decode cX4_freed 91 = .ok (.invokevirtual 154, 3) := by decide +kernel
theorem dX4_freed_94 : decode cX4_freed 94 = .ok (.pop, 1) := by decide +kernel
theorem dX4_freed_95 : decode cX4_freed 95 = .ok (.aload_n 0, 1) := by decide +kernel
theorem dX4_freed_96 : decode cX4_freed 96 = .ok (.aload_n 0, 1) := by decide +kernel
theorem dX4_freed_97 : decode cX4_freed 97 = .ok (.getfield 93, 3) := by decide +kernel
theorem dX4_freed_100 : decode cX4_freed 100 = .ok (.iconst 1, 1) := by decide +kernel
theorem dX4_freed_101 : decode cX4_freed 101 = .ok (.iadd, 1) := by decide +kernel
theorem dX4_freed_102 : decode cX4_freed 102 = .ok (.aload_n 0, 1) := by decide +kernel
theorem dX4_freed_103 : decode cX4_freed 103 = .ok (.getfield 13, 3) := by decide +kernel
theorem dX4_freed_106 : decode cX4_freed 106 = .ok (.irem, 1) := by decide +kernel
theorem dX4_freed_107 : decode cX4_freed 107 = .ok (.putfield 93, 3) := by decide +kernel
theorem dX4_freed_110 : decode cX4_freed 110 = .ok (.iinc 1 1, 3) := by decide +kernel
theorem dX4_freed_113 : decode cX4_freed 113 = .ok (.goto (-111), 3) := by decide +kernel
theorem dX4_freed_116 : decode cX4_freed 116 = .ok (.iconst 0, 1) := by decide +kernel
theorem dX4_freed_117 : decode cX4_freed 117 = .ok (.istore_n 1, 1) := by decide +kernel
theorem dX4_freed_118 : decode cX4_freed 118 = .ok (.iconst 0, 1) := by decide +kernel
theorem dX4_freed_119 : decode cX4_freed 119 = .ok (.istore_n 2, 1) := by decide +kernel
theorem dX4_freed_120 : decode cX4_freed 120 = .ok (.iload_n 2, 1) := by decide +kernel
theorem dX4_freed_121 : decode cX4_freed 121 = .ok (.aload_n 0, 1) := by decide +kernel
theorem dX4_freed_122 : decode cX4_freed 122 = .ok (.getfield 13, 3) := by decide +kernel
theorem dX4_freed_125 : decode cX4_freed 125 = .ok (.if_icmp .ge 30, 3) := by decide +kernel
theorem dX4_freed_128 : decode cX4_freed 128 = .ok (.iload_n 1, 1) := by decide +kernel
theorem dX4_freed_129 : decode cX4_freed 129 = .ok (.aload_n 0, 1) := by decide +kernel
theorem dX4_freed_130 : decode cX4_freed 130 = .ok (.aload_n 0, 1) := by decide +kernel
theorem dX4_freed_131 : decode cX4_freed 131 = .ok (.getfield 16, 3) := by decide +kernel
theorem dX4_freed_134 : decode cX4_freed 134 = .ok (.iload_n 2, 1) := by decide +kernel
theorem dX4_freed_135 : decode cX4_freed 135 = .ok (.iaload, 1) := by decide +kernel
theorem dX4_freed_136 : decode cX4_freed 136 = .ok (.invokevirtual 135, 3) := by decide +kernel
theorem dX4_freed_139 : decode cX4_freed 139 = .ok (.ifCond .ne 7, 3) := by decide +kernel
theorem dX4_freed_142 : decode cX4_freed 142 = .ok (.iconst 1, 1) := by decide +kernel
theorem dX4_freed_143 : decode cX4_freed 143 = .ok (.goto 4, 3) := by decide +kernel
theorem dX4_freed_146 : decode cX4_freed 146 = .ok (.iconst 0, 1) := by decide +kernel
theorem dX4_freed_147 : decode cX4_freed 147 = .ok (.ior, 1) := by decide +kernel
theorem dX4_freed_148 : decode cX4_freed 148 = .ok (.istore_n 1, 1) := by decide +kernel
theorem dX4_freed_149 : decode cX4_freed 149 = .ok (.iinc 2 1, 3) := by decide +kernel
theorem dX4_freed_152 : decode cX4_freed 152 = .ok (.goto (-32), 3) := by decide +kernel
theorem dX4_freed_155 : decode cX4_freed 155 = .ok (.iconst (-1), 1) := by decide +kernel
theorem dX4_freed_156 : decode cX4_freed 156 = .ok (.istore_n 2, 1) := by decide +kernel
theorem dX4_freed_157 : decode cX4_freed 157 = .ok (.iconst 0, 1) := by decide +kernel
theorem dX4_freed_158 : decode cX4_freed 158 = .ok (.istore_n 3, 1) := by decide +kernel
theorem dX4_freed_159 : decode cX4_freed 159 = .ok (.iload_n 3, 1) := by decide +kernel
theorem dX4_freed_160 : decode cX4_freed 160 = .ok (.aload_n 0, 1) := by decide +kernel
theorem dX4_freed_161 : decode cX4_freed 161 = .ok (.getfield 13, 3) := by decide +kernel
theorem dX4_freed_164 : decode cX4_freed 164 = .ok (.if_icmp .ge 48, 3) := by decide +kernel
theorem dX4_freed_167 : decode cX4_freed 167 = .ok (.iload_n 1, 1) := by decide +kernel
theorem dX4_freed_168 : decode cX4_freed 168 = .ok (.ifCond .eq 16, 3) := by decide +kernel
theorem dX4_freed_171 : decode cX4_freed 171 = .ok (.aload_n 0, 1) := by decide +kernel
theorem dX4_freed_172 : decode cX4_freed 172 = .ok (.aload_n 0, 1) := by decide +kernel
theorem dX4_freed_173 : decode cX4_freed 173 = .ok (.getfield 16, 3) := by decide +kernel
theorem dX4_freed_176 : decode cX4_freed 176 = .ok (.iload_n 3, 1) := by decide +kernel
theorem dX4_freed_177 : decode cX4_freed 177 = .ok (.iaload, 1) := by decide +kernel
theorem dX4_freed_178 : decode cX4_freed 178 = .ok (.invokevirtual 135, 3) := by decide +kernel
theorem dX4_freed_181 : decode cX4_freed 181 = .ok (.ifCond .ne 25, 3) := by decide +kernel
theorem dX4_freed_184 : decode cX4_freed 184 = .ok (.iload_n 2, 1) := by decide +kernel
theorem dX4_freed_185 : decode cX4_freed 185 = .ok (.iconst (-1), 1) := by decide +kernel
theorem dX4_freed_186 : decode cX4_freed 186 = .ok (.if_icmp .eq 18, 3) := by decide +kernel
theorem dX4_freed_189 : decode cX4_freed 189 = .ok (.aload_n 0, 1) := by decide +kernel
theorem dX4_freed_190 : decode cX4_freed 190 = .ok (.getfield 20, 3) := by decide +kernel
theorem dX4_freed_193 : decode cX4_freed 193 = .ok (.iload_n 3, 1) := by decide +kernel
theorem dX4_freed_194 : decode cX4_freed 194 = .ok (.iaload, 1) := by decide +kernel
theorem dX4_freed_195 : decode cX4_freed 195 = .ok (.aload_n 0, 1) := by decide +kernel
theorem dX4_freed_196 : decode cX4_freed 196 = .ok (.getfield 20, 3) := by decide +kernel
theorem dX4_freed_199 : decode cX4_freed 199 = .ok (.iload_n 2, 1) := by decide +kernel
theorem dX4_freed_200 : decode cX4_freed 200 = .ok (.iaload, 1) := by decide +kernel
theorem dX4_freed_201 : decode cX4_freed 201 = .ok (.if_icmp .ge 5, 3) := by decide +kernel
theorem dX4_freed_204 : decode cX4_freed 204 = .ok (.iload_n 3, 1) := by decide +kernel
theorem dX4_freed_205 : decode cX4_freed 205 = .ok (.istore_n 2, 1) := by decide +kernel
theorem dX4_freed_206 : decode cX4_freed 206 = .ok (.iinc 3 1, 3) := by decide +kernel
theorem dX4_freed_209 : decode cX4_freed 209 = .ok (.goto (-50), 3) := by decide +kernel
theorem dX4_freed_212 : decode cX4_freed 212 = .ok (.iload_n 1, 1) := by decide +kernel
theorem dX4_freed_213 : decode cX4_freed 213 = .ok (.ifCond .ne 14, 3) := by decide +kernel
theorem dX4_freed_216 : decode cX4_freed 216 = .ok (.aload_n 0, 1) := by decide +kernel
theorem dX4_freed_217 : decode cX4_freed 217 = .ok (.aload_n 0, 1) := by decide +kernel
theorem dX4_freed_218 : decode cX4_freed 218 = .ok (.getfield 16, 3) := by decide +kernel
theorem dX4_freed_221 : decode cX4_freed 221 = .ok (.iload_n 2, 1) := by decide +kernel
theorem dX4_freed_222 : decode cX4_freed 222 = .ok (.iaload, 1) := by decide +kernel
theorem dX4_freed_223 : decode cX4_freed 223 = .ok (.invokevirtual 154, 3) := by decide +kernel
theorem dX4_freed_226 : decode cX4_freed 226 = .ok (.pop, 1) := by decide +kernel
theorem dX4_freed_227 : decode cX4_freed 227 = .ok (.aload_n 0, 1) := by decide +kernel
theorem dX4_freed_228 : decode cX4_freed 228 = .ok (.iload_n 2, 1) := by decide +kernel
theorem dX4_freed_229 : decode cX4_freed 229 = .ok (.invokevirtual 150, 3) := by decide +kernel
theorem dX4_freed_232 : decode cX4_freed 232 = .ok (.iload_n 2, 1) := by decide +kernel
theorem dX4_freed_233 : decode cX4_freed 233 = .ok (.ireturn, 1) := by decide +kernel
theorem dX4_bring_0 : decode cX4_bring 0 = .ok (.aload_n 0, 1) := by decide +kernel
theorem dX4_bring_1 : decode cX4_bring 1 = .ok (.iload_n 1, 1) := by decide +kernel
theorem dX4_bring_2 : decode cX4_bring 2 = .ok (.invokevirtual 83, 3) := by decide +kernel
theorem dX4_bring_5 : decode cX4_bring 5 = .ok (.iconst (-1), 1) := by decide +kernel
theorem dX4_bring_6 : decode cX4_bring 6 = .ok (.if_icmp .eq 4, 3) := by decide +kernel
theorem dX4_bring_9 : decode cX4_bring 9 = .ok (.return_, 1) := by decide +kernel
theorem dX4_bring_10 : decode cX4_bring 10 = .ok (.aload_n 0, 1) := by decide +kernel
theorem dX4_bring_11 : decode cX4_bring 11 = .ok (.iload_n 1, 1) := by decide +kernel
theorem dX4_bring_12 : decode cX4_bring 12 = .ok (.invokevirtual 63, 3) := by decide +kernel
theorem dX4_bring_15 : decode cX4_bring 15 = .ok (.istore_n 2, 1) := by decide +kernel
theorem dX4_bring_16 : decode cX4_bring 16 = .ok (.aload_n 0, 1) := by decide +kernel
theorem dX4_bring_17 : decode cX4_bring 17 = .ok (.iload_n 1, 1) := by decide +kernel
theorem dX4_bring_18 : decode cX4_bring 18 = .ok (.iload_n 2, 1) := by decide +kernel
theorem dX4_bring_19 : decode cX4_bring 19 = .ok (.iconst (-1), 1) := by decide +kernel
theorem dX4_bring_20 : decode cX4_bring 20 = .ok (.if_icmp .ne 7, 3) := by decide +kernel
theorem dX4_bring_23 : decode cX4_bring 23 = .ok (.iconst 0, 1) := by decide +kernel
theorem dX4_bring_24 : decode cX4_bring 24 = .ok (.goto 4, 3) := by decide +kernel
theorem dX4_bring_27 : decode cX4_bring 27 = .ok (.iconst 1, 1) := by decide +kernel
theorem dX4_bring_28 : decode cX4_bring 28 = .ok (.invokevirtual 157, 3) := by decide +kernel
theorem dX4_bring_31 : decode cX4_bring 31 = .ok (.iconst 1, 1) := by decide +kernel
theorem dX4_bring_32 : decode cX4_bring 32 = .ok (.istore_n 3, 1) := by decide +kernel
theorem dX4_bring_33 : decode cX4_bring 33 = .ok (.iload_n 3, 1) := by decide +kernel
theorem dX4_bring_34 : decode cX4_bring 34 = .ok (.iconst 3, 1) := by decide +kernel
theorem dX4_bring_35 : decode cX4_bring 35 = .ok (.if_icmp .gt 64, 3) := by decide +kernel
theorem dX4_bring_38 : decode cX4_bring 38 = .ok (.iload_n 2, 1) := by decide +kernel
theorem dX4_bring_39 : decode cX4_bring 39 = .ok (.iconst (-1), 1) := by decide +kernel
theorem dX4_bring_40 : decode cX4_bring 40 = .ok (.if_icmp .eq 59, 3) := by decide +kernel
theorem dX4_bring_43 : decode cX4_bring 43 = .ok (.iload_n 2, 1) := by decide +kernel
theorem dX4_bring_44 : decode cX4_bring 44 = .ok (.iload_n 3, 1) := by decide +kernel
theorem dX4_bring_45 : decode cX4_bring 45 = .ok (.iadd, 1) := by decide +kernel
theorem dX4_bring_46 : decode cX4_bring 46 = .ok (.bipush 24, 2) := by decide +kernel
theorem dX4_bring_48 : decode cX4_bring 48 = .ok (.if_icmp .ge 51, 3) := by decide +kernel
theorem dX4_bring_51 : decode cX4_bring 51 = .ok (.aload_n 0, 1) := by decide +kernel
theorem dX4_bring_52 : decode cX4_bring 52 = .ok (.getfield 27, 3) := by decide +kernel
theorem dX4_bring_55 : decode cX4_bring 55 = .ok (.iload_n 2, 1) := by decide +kernel
theorem dX4_bring_56 : decode cX4_bring 56 = .ok (.iload_n 3, 1) := by decide +kernel
theorem dX4_bring_57 : decode cX4_bring 57 = .ok (.iadd, 1) := by decide +kernel
theorem dX4_bring_58 : decode cX4_bring 58 = .ok (.iaload, 1) := by decide +kernel
theorem dX4_bring_59 : decode cX4_bring 59 = .ok (.istore 4, 2) := by decide +kernel
theorem dX4_bring_61 : decode cX4_bring 61 = .ok (.iload 4, 2) := by decide +kernel
theorem dX4_bring_63 : decode cX4_bring 63 = .ok (.iconst (-1), 1) := by decide +kernel
theorem dX4_bring_64 : decode cX4_bring 64 = .ok (.if_icmp .eq 29, 3) := by decide +kernel
theorem dX4_bring_67 : decode cX4_bring 67 = .ok (.aload_n 0, 1) := by decide +kernel
theorem dX4_bring_68 : decode cX4_bring 68 = .ok (.iload 4, 2) := by decide +kernel
theorem dX4_bring_70 : decode cX4_bring 70 = .ok (.invokevirtual 83, 3) := by decide +kernel
theorem dX4_bring_73 : decode cX4_bring 73 = .ok (.iconst (-1), 1) := by decide +kernel
theorem dX4_bring_74 : decode cX4_bring 74 = .ok (.if_icmp .ne 19, 3) := by decide +kernel
theorem dX4_bring_77 : decode cX4_bring 77 = .ok (.aload_n 0, 1) := by decide +kernel
theorem dX4_bring_78 : decode cX4_bring 78 = .ok (.iconst (-1), 1) := by decide +kernel
theorem dX4_bring_79 : decode cX4_bring 79 = .ok (.invokevirtual 83, 3) := by decide +kernel
theorem dX4_bring_82 : decode cX4_bring 82 = .ok (.iconst (-1), 1) := by decide +kernel
theorem dX4_bring_83 : decode cX4_bring 83 = .ok (.if_icmp .eq 10, 3) := by decide +kernel
theorem dX4_bring_86 : decode cX4_bring 86 = .ok (.aload_n 0, 1) := by decide +kernel
theorem dX4_bring_87 : decode cX4_bring 87 = .ok (.iload 4, 2) := by decide +kernel
theorem dX4_bring_89 : decode cX4_bring 89 = .ok (.iconst 3, 1) := by decide +kernel
theorem dX4_bring_90 : decode cX4_bring 90 = .ok (.invokevirtual 157, 3) := by decide +kernel
theorem dX4_bring_93 : decode cX4_bring 93 = .ok (.iinc 3 1, 3) := by decide +kernel
theorem dX4_bring_96 : decode cX4_bring 96 = .ok (.goto (-63), 3) := by decide +kernel
theorem dX4_bring_99 : decode cX4_bring 99 = .ok (.return_, 1) := by decide +kernel
theorem dX4_isPossible_0 : decode cX4_isPossible 0 = .ok (.iload_n 1, 1) := by decide +kernel
theorem dX4_isPossible_1 : decode cX4_isPossible 1 = .ok (.ifCond .eq 21, 3) := by decide +kernel
theorem dX4_isPossible_4 : decode cX4_isPossible 4 = .ok (.aload_n 0, 1) := by decide +kernel
theorem dX4_isPossible_5 : decode cX4_isPossible 5 = .ok (.iconst (-1), 1) := by decide +kernel
theorem dX4_isPossible_6 : decode cX4_isPossible 6 = .ok (.invokevirtual 83, 3) := by decide +kernel
theorem dX4_isPossible_9 : decode cX4_isPossible 9 = .ok (.iconst (-1), 1) := by decide +kernel
theorem dX4_isPossible_10 : decode cX4_isPossible 10 = .ok (.if_icmp .ne 12, 3) := by decide +kernel
theorem dX4_isPossible_13 : decode cX4_isPossible 13 = .ok (.aload_n 0, 1) := by decide +kernel
theorem dX4_isPossible_14 : decode cX4_isPossible 14 = .ok (.iconst 1, 1) := by decide +kernel
theorem dX4_isPossible_15 : decode cX4_isPossible 15 = .ok (.invokevirtual 141, 3) := by decide +kernel
theorem dX4_isPossible_18 : decode cX4_isPossible 18 = .ok (.iconst (-1), 1) := by decide +kernel
theorem dX4_isPossible_19 : decode cX4_isPossible 19 = .ok (.if_icmp .eq 7, 3) := by decide +kernel
theorem dX4_isPossible_22 : decode cX4_isPossible 22 = .ok (.iconst 1, 1) := by decide +kernel
theorem dX4_isPossible_23 : decode cX4_isPossible 23 = .ok (.goto 4, 3) := by decide +kernel
theorem dX4_isPossible_26 : decode cX4_isPossible 26 = .ok (.iconst 0, 1) := by decide +kernel
theorem dX4_isPossible_27 : decode cX4_isPossible 27 = .ok (.istore_n 2, 1) := by decide +kernel
theorem dX4_isPossible_28 : decode cX4_isPossible 28 = .ok (.iconst 0, 1) := by decide +kernel
theorem dX4_isPossible_29 : decode cX4_isPossible 29 = .ok (.istore_n 3, 1) := by decide +kernel
theorem dX4_isPossible_30 : decode cX4_isPossible 30 = .ok (.iload_n 3, 1) := by decide +kernel
theorem dX4_isPossible_31 : decode cX4_isPossible 31 = .ok (.aload_n 0, 1) := by decide +kernel
theorem dX4_isPossible_32 : decode cX4_isPossible 32 = .ok (.getfield 13, 3) := by decide +kernel
theorem dX4_isPossible_35 : decode cX4_isPossible 35 = .ok (.if_icmp .ge 40, 3) := by decide +kernel
theorem dX4_isPossible_38 : decode cX4_isPossible 38 = .ok (.iload_n 2, 1) := by decide +kernel
theorem dX4_isPossible_39 : decode cX4_isPossible 39 = .ok (.aload_n 0, 1) := by decide +kernel
theorem dX4_isPossible_40 : decode cX4_isPossible 40 = .ok (.getfield 16, 3) := by decide +kernel
theorem dX4_isPossible_43 : decode cX4_isPossible 43 = .ok (.iload_n 3, 1) := by decide +kernel
theorem dX4_isPossible_44 : decode cX4_isPossible 44 = .ok (.iaload, 1) := by decide +kernel
theorem dX4_isPossible_45 : decode cX4_isPossible 45 = .ok (.iconst (-1), 1) := by decide +kernel
theorem dX4_isPossible_46 : decode cX4_isPossible 46 = .ok (.if_icmp .eq 20, 3) := by decide +kernel
theorem dX4_isPossible_49 : decode cX4_isPossible 49 = .ok (.aload_n 0, 1) := by decide +kernel
theorem dX4_isPossible_50 : decode cX4_isPossible 50 = .ok (.aload_n 0, 1) := by decide +kernel
theorem dX4_isPossible_51 : decode cX4_isPossible 51 = .ok (.getfield 16, 3) := by decide +kernel
theorem dX4_isPossible_54 : decode cX4_isPossible 54 = .ok (.iload_n 3, 1) := by decide +kernel
theorem dX4_isPossible_55 : decode cX4_isPossible 55 = .ok (.iaload, 1) := by decide +kernel
theorem dX4_isPossible_56 : decode cX4_isPossible 56 = .ok (.invokevirtual 135, 3) := by decide +kernel
theorem dX4_isPossible_59 : decode cX4_isPossible 59 = .ok (.ifCond .ne 7, 3) := by decide +kernel
theorem dX4_isPossible_62 : decode cX4_isPossible 62 = .ok (.iconst 1, 1) := by decide +kernel
theorem dX4_isPossible_63 : decode cX4_isPossible 63 = .ok (.goto 4, 3) := by decide +kernel
theorem dX4_isPossible_66 : decode cX4_isPossible 66 = .ok (.iconst 0, 1) := by decide +kernel
theorem dX4_isPossible_67 : decode cX4_isPossible 67 = .ok (.ior, 1) := by decide +kernel
theorem dX4_isPossible_68 : decode cX4_isPossible 68 = .ok (.istore_n 2, 1) := by decide +kernel
theorem dX4_isPossible_69 : decode cX4_isPossible 69 = .ok (.iinc 3 1, 3) := by decide +kernel
theorem dX4_isPossible_72 : decode cX4_isPossible 72 = .ok (.goto (-42), 3) := by decide +kernel
theorem dX4_isPossible_75 : decode cX4_isPossible 75 = .ok (.iload_n 2, 1) := by decide +kernel
theorem dX4_isPossible_76 : decode cX4_isPossible 76 = .ok (.ireturn, 1) := by decide +kernel
theorem dX4_begins_0 : decode cX4_begins 0 = .ok (.aload_n 0, 1) := by decide +kernel
theorem dX4_begins_1 : decode cX4_begins 1 = .ok (.aload_n 0, 1) := by decide +kernel
theorem dX4_begins_2 : decode cX4_begins 2 = .ok (.iload_n 1, 1) := by decide +kernel
theorem dX4_begins_3 : decode cX4_begins 3 = .ok (.invokevirtual 100, 3) := by decide +kernel
theorem dX4_begins_6 : decode cX4_begins 6 = .ok (.ifCond .eq 13, 3) := by decide +kernel
theorem dX4_begins_9 : decode cX4_begins 9 = .ok (.iload_n 2, 1) := by decide +kernel
theorem dX4_begins_10 : decode cX4_begins 10 = .ok (.ifCond .lt 9, 3) := by decide +kernel
theorem dX4_begins_13 : decode cX4_begins 13 = .ok (.iload_n 2, 1) := by decide +kernel
theorem dX4_begins_14 : decode cX4_begins 14 = .ok (.bipush 64, 2) := by decide +kernel
theorem dX4_begins_16 : decode cX4_begins 16 = .ok (.if_icmp .lt 7, 3) := by decide +kernel
theorem dX4_begins_19 : decode cX4_begins 19 = .ok (.iconst 1, 1) := by decide +kernel
theorem dX4_begins_20 : decode cX4_begins 20 = .ok (.goto 36, 3) := by decide +kernel
theorem dX4_begins_23 : decode cX4_begins 23 = .ok (.aload_n 0, 1) := by decide +kernel
theorem dX4_begins_24 : decode cX4_begins 24 = .ok (.getfield 39, 3) := by decide +kernel
theorem dX4_begins_27 : decode cX4_begins 27 = .ok (.iload_n 1, 1) := by decide +kernel
theorem dX4_begins_28 : decode cX4_begins 28 = .ok (.baload, 1) := by decide +kernel
theorem dX4_begins_29 : decode cX4_begins 29 = .ok (.ifCond .ne 7, 3) := by decide +kernel
theorem dX4_begins_32 : decode cX4_begins 32 = .ok (.iconst 2, 1) := by decide +kernel
theorem dX4_begins_33 : decode cX4_begins 33 = .ok (.goto 23, 3) := by decide +kernel
theorem dX4_begins_36 : decode cX4_begins 36 = .ok (.aload_n 0, 1) := by decide +kernel
theorem dX4_begins_37 : decode cX4_begins 37 = .ok (.getfield 42, 3) := by decide +kernel
theorem dX4_begins_40 : decode cX4_begins 40 = .ok (.iload_n 1, 1) := by decide +kernel
theorem dX4_begins_41 : decode cX4_begins 41 = .ok (.iload_n 2, 1) := by decide +kernel
theorem dX4_begins_42 : decode cX4_begins 42 = .ok (.iconst 4, 1) := by decide +kernel
theorem dX4_begins_43 : decode cX4_begins 43 = .ok (.idiv, 1) := by decide +kernel
theorem dX4_begins_44 : decode cX4_begins 44 = .ok (.invokestatic 96, 3) := by decide +kernel
theorem dX4_begins_47 : decode cX4_begins 47 = .ok (.iaload, 1) := by decide +kernel
theorem dX4_begins_48 : decode cX4_begins 48 = .ok (.ifCond .ne 7, 3) := by decide +kernel
theorem dX4_begins_51 : decode cX4_begins 51 = .ok (.iconst 3, 1) := by decide +kernel
theorem dX4_begins_52 : decode cX4_begins 52 = .ok (.goto 4, 3) := by decide +kernel
theorem dX4_begins_55 : decode cX4_begins 55 = .ok (.iconst 0, 1) := by decide +kernel
theorem dX4_begins_56 : decode cX4_begins 56 = .ok (.putfield 60, 3) := by decide +kernel
theorem dX4_begins_59 : decode cX4_begins 59 = .ok (.aload_n 0, 1) := by decide +kernel
theorem dX4_begins_60 : decode cX4_begins 60 = .ok (.getfield 60, 3) := by decide +kernel
theorem dX4_begins_63 : decode cX4_begins 63 = .ok (.ifCond .le 5, 3) := by decide +kernel
theorem dX4_begins_66 : decode cX4_begins 66 = .ok (.iconst 0, 1) := by decide +kernel
theorem dX4_begins_67 : decode cX4_begins 67 = .ok (.ireturn, 1) := by decide +kernel
theorem dX4_begins_68 : decode cX4_begins 68 = .ok (.aload_n 0, 1) := by decide +kernel
theorem dX4_begins_69 : decode cX4_begins 69 = .ok (.getfield 45, 3) := by decide +kernel
theorem dX4_begins_72 : decode cX4_begins 72 = .ok (.iload_n 1, 1) := by decide +kernel
theorem dX4_begins_73 : decode cX4_begins 73 = .ok (.iload_n 2, 1) := by decide +kernel
theorem dX4_begins_74 : decode cX4_begins 74 = .ok (.iconst 4, 1) := by decide +kernel
theorem dX4_begins_75 : decode cX4_begins 75 = .ok (.idiv, 1) := by decide +kernel
theorem dX4_begins_76 : decode cX4_begins 76 = .ok (.invokestatic 96, 3) := by decide +kernel
theorem dX4_begins_79 : decode cX4_begins 79 = .ok (.iaload, 1) := by decide +kernel
theorem dX4_begins_80 : decode cX4_begins 80 = .ok (.istore 4, 2) := by decide +kernel
theorem dX4_begins_82 : decode cX4_begins 82 = .ok (.iload_n 3, 1) := by decide +kernel
theorem dX4_begins_83 : decode cX4_begins 83 = .ok (.ifCond .eq 33, 3) := by decide +kernel
theorem dX4_begins_86 : decode cX4_begins 86 = .ok (.aload_n 0, 1) := by decide +kernel
theorem dX4_begins_87 : decode cX4_begins 87 = .ok (.getfield 42, 3) := by decide +kernel
theorem dX4_begins_90 : decode cX4_begins 90 = .ok (.iload_n 1, 1) := by decide +kernel
theorem dX4_begins_91 : decode cX4_begins 91 = .ok (.iload_n 2, 1) := by decide +kernel
theorem dX4_begins_92 : decode cX4_begins 92 = .ok (.iconst 4, 1) := by decide +kernel
theorem dX4_begins_93 : decode cX4_begins 93 = .ok (.idiv, 1) := by decide +kernel
theorem dX4_begins_94 : decode cX4_begins 94 = .ok (.invokestatic 96, 3) := by decide +kernel
theorem dX4_begins_97 : decode cX4_begins 97 = .ok (.iaload, 1) := by decide +kernel
theorem dX4_begins_98 : decode cX4_begins 98 = .ok (.iconst 1, 1) := by decide +kernel
theorem dX4_begins_99 : decode cX4_begins 99 = .ok (.if_icmp .ne 17, 3) := by decide +kernel
theorem dX4_begins_102 : decode cX4_begins 102 = .ok (.aload_n 0, 1) := by decide +kernel
theorem dX4_begins_103 : decode cX4_begins 103 = .ok (.iload 4, 2) := by decide +kernel
theorem dX4_begins_105 : decode cX4_begins 105 = .ok (.invokevirtual 76, 3) := by decide +kernel
theorem dX4_begins_108 : decode cX4_begins 108 = .ok (.iconst 1, 1) := by decide +kernel
theorem dX4_begins_109 : decode cX4_begins 109 = .ok (.if_icmp .le 7, 3) := by decide +kernel
theorem dX4_begins_112 : decode cX4_begins 112 = .ok (.iconst 1, 1) := by decide +kernel
theorem dX4_begins_113 : decode cX4_begins 113 = .ok (.goto 4, 3) := by decide +kernel
theorem dX4_begins_116 : decode cX4_begins 116 = .ok (.iconst 0, 1) := by decide +kernel
theorem dX4_begins_117 : decode cX4_begins 117 = .ok (.istore 5, 2) := by decide +kernel
theorem dX4_begins_119 : decode cX4_begins 119 = .ok (.aload_n 0, 1) := by decide +kernel
theorem dX4_begins_120 : decode cX4_begins 120 = .ok (.iload 5, 2) := by decide +kernel
theorem dX4_begins_122 : decode cX4_begins 122 = .ok (.ifCond .ne 13, 3) := by decide +kernel
theorem dX4_begins_125 : decode cX4_begins 125 = .ok (.aload_n 0, 1) := by decide +kernel
theorem dX4_begins_126 : decode cX4_begins 126 = .ok (.iload 4, 2) := by decide +kernel
theorem dX4_begins_128 : decode cX4_begins 128 = .ok (.invokevirtual 83, 3) := by decide +kernel
theorem dX4_begins_131 : decode cX4_begins 131 = .ok (.iconst (-1), 1) := by decide +kernel
theorem dX4_begins_132 : decode cX4_begins 132 = .ok (.if_icmp .ne 7, 3) := by decide +kernel
theorem dX4_begins_135 : decode cX4_begins 135 = .ok (.iconst 1, 1) := by decide +kernel
theorem dX4_begins_136 : decode cX4_begins 136 = .ok (.goto 4, 3) := by decide +kernel
theorem dX4_begins_139 : decode cX4_begins 139 = .ok (.iconst 0, 1) := by decide +kernel
theorem dX4_begins_140 : decode cX4_begins 140 = .ok (.invokevirtual 161, 3) := by decide +kernel
theorem dX4_begins_143 : decode cX4_begins 143 = .ok (.ifCond .ne 8, 3) := by decide +kernel
theorem dX4_begins_146 : decode cX4_begins 146 = .ok (.aload_n 0, 1) := by decide +kernel
theorem dX4_begins_147 : decode cX4_begins 147 = .ok (.iconst 4, 1) := by decide +kernel
theorem dX4_begins_148 : decode cX4_begins 148 = .ok (.putfield 60, 3) := by decide +kernel
theorem dX4_begins_151 : decode cX4_begins 151 = .ok (.aload_n 0, 1) := by decide +kernel
theorem dX4_begins_152 : decode cX4_begins 152 = .ok (.getfield 60, 3) := by decide +kernel
theorem dX4_begins_155 : decode cX4_begins 155 = .ok (.ifCond .ne 7, 3) := by decide +kernel
theorem dX4_begins_158 : decode cX4_begins 158 = .ok (.iconst 1, 1) := by decide +kernel
theorem dX4_begins_159 : decode cX4_begins 159 = .ok (.goto 4, 3) := by decide +kernel
theorem dX4_begins_162 : decode cX4_begins 162 = .ok (.iconst 0, 1) := by decide +kernel
theorem dX4_begins_163 : decode cX4_begins 163 = .ok (.ireturn, 1) := by decide +kernel
theorem dX4_use_0 : decode cX4_use 0 = .ok (.aload_n 0, 1) := by decide +kernel
theorem dX4_use_1 : decode cX4_use 1 = .ok (.iload_n 1, 1) := by decide +kernel
theorem dX4_use_2 : decode cX4_use 2 = .ok (.invokevirtual 83, 3) := by decide +kernel
theorem dX4_use_5 : decode cX4_use 5 = .ok (.istore_n 2, 1) := by decide +kernel
theorem dX4_use_6 : decode cX4_use 6 = .ok (.aload_n 0, 1) := by decide +kernel
theorem dX4_use_7 : decode cX4_use 7 = .ok (.getfield 20, 3) := by decide +kernel
theorem dX4_use_10 : decode cX4_use 10 = .ok (.iload_n 2, 1) := by decide +kernel
theorem dX4_use_11 : decode cX4_use 11 = .ok (.aload_n 0, 1) := by decide +kernel
theorem dX4_use_12 : decode cX4_use 12 = .ok (.getfield 147, 3) := by decide +kernel
theorem dX4_use_15 : decode cX4_use 15 = .ok (.iastore, 1) := by decide +kernel
theorem dX4_use_16 : decode cX4_use 16 = .ok (.aload_n 0, 1) := by decide +kernel
theorem dX4_use_17 : decode cX4_use 17 = .ok (.getfield 23, 3) := by decide +kernel
theorem dX4_use_20 : decode cX4_use 20 = .ok (.iload_n 2, 1) := by decide +kernel
theorem dX4_use_21 : decode cX4_use 21 = .ok (.iconst 1, 1) := by decide +kernel
theorem dX4_use_22 : decode cX4_use 22 = .ok (.bastore, 1) := by decide +kernel
theorem dX4_use_23 : decode cX4_use 23 = .ok (.return_, 1) := by decide +kernel
theorem dX4_read_0 : decode cX4_read 0 = .ok (.aload_n 0, 1) := by decide +kernel
theorem dX4_read_1 : decode cX4_read 1 = .ok (.iload_n 1, 1) := by decide +kernel
theorem dX4_read_2 : decode cX4_read 2 = .ok (.iload_n 2, 1) := by decide +kernel
theorem dX4_read_3 : decode cX4_read 3 = .ok (.iconst 0, 1) := by decide +kernel
theorem dX4_read_4 : decode cX4_read 4 = .ok (.invokevirtual 165, 3) := by decide +kernel
theorem dX4_read_7 : decode cX4_read 7 = .ok (.ifCond .ne 5, 3) := by decide +kernel
theorem dX4_read_10 : decode cX4_read 10 = .ok (.iconst 0, 1) := by decide +kernel
theorem dX4_read_11 : decode cX4_read 11 = .ok (.ireturn, 1) := by decide +kernel
theorem dX4_read_12 : decode cX4_read 12 = .ok (.aload_n 0, 1) := by decide +kernel
theorem dX4_read_13 : decode cX4_read 13 = .ok (.dup, 1) := by decide +kernel
theorem dX4_read_14 : decode cX4_read 14 = .ok (.getfield 147, 3) := by decide +kernel
theorem dX4_read_17 : decode cX4_read 17 = .ok (.iconst 1, 1) := by decide +kernel
theorem dX4_read_18 : decode cX4_read 18 = .ok (.iadd, 1) := by decide +kernel
theorem dX4_read_19 : decode cX4_read 19 = .ok (.putfield 147, 3) := by decide +kernel
theorem dX4_read_22 : decode cX4_read 22 = .ok (.aload_n 0, 1) := by decide +kernel
theorem dX4_read_23 : decode cX4_read 23 = .ok (.getfield 45, 3) := by decide +kernel
theorem dX4_read_26 : decode cX4_read 26 = .ok (.iload_n 1, 1) := by decide +kernel
theorem dX4_read_27 : decode cX4_read 27 = .ok (.iload_n 2, 1) := by decide +kernel
theorem dX4_read_28 : decode cX4_read 28 = .ok (.iconst 4, 1) := by decide +kernel
theorem dX4_read_29 : decode cX4_read 29 = .ok (.idiv, 1) := by decide +kernel
theorem dX4_read_30 : decode cX4_read 30 = .ok (.invokestatic 96, 3) := by decide +kernel
theorem dX4_read_33 : decode cX4_read 33 = .ok (.iaload, 1) := by decide +kernel
theorem dX4_read_34 : decode cX4_read 34 = .ok (.istore_n 3, 1) := by decide +kernel
theorem dX4_read_35 : decode cX4_read 35 = .ok (.aload_n 0, 1) := by decide +kernel
theorem dX4_read_36 : decode cX4_read 36 = .ok (.iload_n 3, 1) := by decide +kernel
theorem dX4_read_37 : decode cX4_read 37 = .ok (.invokevirtual 168, 3) := by decide +kernel
theorem dX4_read_40 : decode cX4_read 40 = .ok (.aload_n 0, 1) := by decide +kernel
theorem dX4_read_41 : decode cX4_read 41 = .ok (.iload_n 3, 1) := by decide +kernel
theorem dX4_read_42 : decode cX4_read 42 = .ok (.invokevirtual 171, 3) := by decide +kernel
theorem dX4_read_45 : decode cX4_read 45 = .ok (.aload_n 0, 1) := by decide +kernel
theorem dX4_read_46 : decode cX4_read 46 = .ok (.getfield 36, 3) := by decide +kernel
theorem dX4_read_49 : decode cX4_read 49 = .ok (.iconst 4, 1) := by decide +kernel
theorem dX4_read_50 : decode cX4_read 50 = .ok (.iload_n 3, 1) := by decide +kernel
theorem dX4_read_51 : decode cX4_read 51 = .ok (.imul, 1) := by decide +kernel
theorem dX4_read_52 : decode cX4_read 52 = .ok (.iload_n 2, 1) := by decide +kernel
theorem dX4_read_53 : decode cX4_read 53 = .ok (.iconst 4, 1) := by decide +kernel
theorem dX4_read_54 : decode cX4_read 54 = .ok (.irem, 1) := by decide +kernel
theorem dX4_read_55 : decode cX4_read 55 = .ok (.iadd, 1) := by decide +kernel
theorem dX4_read_56 : decode cX4_read 56 = .ok (.iaload, 1) := by decide +kernel
theorem dX4_read_57 : decode cX4_read 57 = .ok (.ireturn, 1) := by decide +kernel
theorem dX4_write_0 : decode cX4_write 0 = .ok (.aload_n 0, 1) := by decide +kernel
theorem dX4_write_1 : decode cX4_write 1 = .ok (.iload_n 1, 1) := by decide +kernel
theorem dX4_write_2 : decode cX4_write 2 = .ok (.iload_n 2, 1) := by decide +kernel
theorem dX4_write_3 : decode cX4_write 3 = .ok (.iconst 1, 1) := by decide +kernel
theorem dX4_write_4 : decode cX4_write 4 = .ok (.invokevirtual 165, 3) := by decide +kernel
theorem dX4_write_7 : decode cX4_write 7 = .ok (.ifCond .ne 5, 3) := by decide +kernel
theorem dX4_write_10 : decode cX4_write 10 = .ok (.iconst 0, 1) := by decide +kernel
theorem dX4_write_11 : decode cX4_write 11 = .ok (.ireturn, 1) := by decide +kernel
theorem dX4_write_12 : decode cX4_write 12 = .ok (.aload_n 0, 1) := by decide +kernel
theorem dX4_write_13 : decode cX4_write 13 = .ok (.dup, 1) := by decide +kernel
theorem dX4_write_14 : decode cX4_write 14 = .ok (.getfield 147, 3) := by decide +kernel
theorem dX4_write_17 : decode cX4_write 17 = .ok (.iconst 1, 1) := by decide +kernel
theorem dX4_write_18 : decode cX4_write 18 = .ok (.iadd, 1) := by decide +kernel
theorem dX4_write_19 : decode cX4_write 19 = .ok (.putfield 147, 3) := by decide +kernel
theorem dX4_write_22 : decode cX4_write 22 = .ok (.iload_n 1, 1) := by decide +kernel
theorem dX4_write_23 : decode cX4_write 23 = .ok (.iload_n 2, 1) := by decide +kernel
theorem dX4_write_24 : decode cX4_write 24 = .ok (.iconst 4, 1) := by decide +kernel
theorem dX4_write_25 : decode cX4_write 25 = .ok (.idiv, 1) := by decide +kernel
theorem dX4_write_26 : decode cX4_write 26 = .ok (.invokestatic 96, 3) := by decide +kernel
theorem dX4_write_29 : decode cX4_write 29 = .ok (.istore 4, 2) := by decide +kernel
theorem dX4_write_31 : decode cX4_write 31 = .ok (.aload_n 0, 1) := by decide +kernel
theorem dX4_write_32 : decode cX4_write 32 = .ok (.getfield 45, 3) := by decide +kernel
theorem dX4_write_35 : decode cX4_write 35 = .ok (.iload 4, 2) := by decide +kernel
theorem dX4_write_37 : decode cX4_write 37 = .ok (.iaload, 1) := by decide +kernel
theorem dX4_write_38 : decode cX4_write 38 = .ok (.istore 5, 2) := by decide +kernel
theorem dX4_write_40 : decode cX4_write 40 = .ok (.aload_n 0, 1) := by decide +kernel
theorem dX4_write_41 : decode cX4_write 41 = .ok (.iload 5, 2) := by decide +kernel
theorem dX4_write_43 : decode cX4_write 43 = .ok (.invokevirtual 168, 3) := by decide +kernel
theorem dX4_write_46 : decode cX4_write 46 = .ok (.aload_n 0, 1) := by decide +kernel
theorem dX4_write_47 : decode cX4_write 47 = .ok (.getfield 42, 3) := by decide +kernel
theorem dX4_write_50 : decode cX4_write 50 = .ok (.iload 4, 2) := by decide +kernel
theorem dX4_write_52 : decode cX4_write 52 = .ok (.iaload, 1) := by decide +kernel
theorem dX4_write_53 : decode cX4_write 53 = .ok (.iconst 1, 1) := by decide +kernel
theorem dX4_write_54 : decode cX4_write 54 = .ok (.if_icmp .ne 78, 3) := by decide +kernel
theorem dX4_write_57 : decode cX4_write 57 = .ok (.aload_n 0, 1) := by decide +kernel
theorem dX4_write_58 : decode cX4_write 58 = .ok (.iload 5, 2) := by decide +kernel
theorem dX4_write_60 : decode cX4_write 60 = .ok (.invokevirtual 76, 3) := by decide +kernel
theorem dX4_write_63 : decode cX4_write 63 = .ok (.iconst 1, 1) := by decide +kernel
theorem dX4_write_64 : decode cX4_write 64 = .ok (.if_icmp .le 68, 3) := by decide +kernel
theorem dX4_write_67 : decode cX4_write 67 = .ok (.aload_n 0, 1) := by decide +kernel
theorem dX4_write_68 : decode cX4_write 68 = .ok (.invokevirtual 120, 3) := by decide +kernel
theorem dX4_write_71 : decode cX4_write 71 = .ok (.istore 6, 2) := by decide +kernel
theorem dX4_write_73 : decode cX4_write 73 = .ok (.iconst 0, 1) := by decide +kernel
theorem dX4_write_74 : decode cX4_write 74 = .ok (.istore 7, 2) := by decide +kernel
theorem dX4_write_76 : decode cX4_write 76 = .ok (.iload 7, 2) := by decide +kernel
theorem dX4_write_78 : decode cX4_write 78 = .ok (.iconst 4, 1) := by decide +kernel
theorem dX4_write_79 : decode cX4_write 79 = .ok (.if_icmp .ge 33, 3) := by decide +kernel
theorem dX4_write_82 : decode cX4_write 82 = .ok (.aload_n 0, 1) := by decide +kernel
theorem dX4_write_83 : decode cX4_write 83 = .ok (.getfield 36, 3) := by decide +kernel
theorem dX4_write_86 : decode cX4_write 86 = .ok (.iconst 4, 1) := by decide +kernel
theorem dX4_write_87 : decode cX4_write 87 = .ok (.iload 6, 2) := by decide +kernel
theorem dX4_write_89 : decode cX4_write 89 = .ok (.imul, 1) := by decide +kernel
theorem dX4_write_90 : decode cX4_write 90 = .ok (.iload 7, 2) := by decide +kernel
theorem dX4_write_92 : decode cX4_write 92 = .ok (.iadd, 1) := by decide +kernel
theorem dX4_write_93 : decode cX4_write 93 = .ok (.aload_n 0, 1) := by decide +kernel
theorem dX4_write_94 : decode cX4_write 94 = .ok (.getfield 36, 3) := by decide +kernel
theorem dX4_write_97 : decode cX4_write 97 = .ok (.iconst 4, 1) := by decide +kernel
theorem dX4_write_98 : decode cX4_write 98 = .ok (.iload 5, 2) := by decide +kernel
theorem dX4_write_100 : decode cX4_write 100 = .ok (.imul, 1) := by decide +kernel
theorem dX4_write_101 : decode cX4_write 101 = .ok (.iload 7, 2) := by decide +kernel
theorem dX4_write_103 : decode cX4_write 103 = .ok (.iadd, 1) := by decide +kernel
theorem dX4_write_104 : decode cX4_write 104 = .ok (.iaload, 1) := by decide +kernel
theorem dX4_write_105 : decode cX4_write 105 = .ok (.iastore, 1) := by decide +kernel
theorem dX4_write_106 : decode cX4_write 106 = .ok (.iinc 7 1, 3) := by decide +kernel
theorem dX4_write_109 : decode cX4_write 109 = .ok (.goto (-33), 3) := by decide +kernel
theorem dX4_write_112 : decode cX4_write 112 = .ok (.aload_n 0, 1) := by decide +kernel
theorem dX4_write_113 : decode cX4_write 113 = .ok (.iload 6, 2) := by decide +kernel
theorem dX4_write_115 : decode cX4_write 115 = .ok (.iconst 2, 1) := by decide +kernel
theorem dX4_write_116 : decode cX4_write 116 = .ok (.invokevirtual 157, 3) := by decide +kernel
theorem dX4_write_119 : decode cX4_write 119 = .ok (.aload_n 0, 1) := by decide +kernel
theorem dX4_write_120 : decode cX4_write 120 = .ok (.getfield 45, 3) := by decide +kernel
theorem dX4_write_123 : decode cX4_write 123 = .ok (.iload 4, 2) := by decide +kernel
theorem dX4_write_125 : decode cX4_write 125 = .ok (.iload 6, 2) := by decide +kernel
theorem dX4_write_127 : decode cX4_write 127 = .ok (.iastore, 1) := by decide +kernel
theorem dX4_write_128 : decode cX4_write 128 = .ok (.iload 6, 2) := by decide +kernel
theorem dX4_write_130 : decode cX4_write 130 = .ok (.istore 5, 2) := by decide +kernel
theorem dX4_write_132 : decode cX4_write 132 = .ok (.aload_n 0, 1) := by decide +kernel
theorem dX4_write_133 : decode cX4_write 133 = .ok (.iload 5, 2) := by decide +kernel
theorem dX4_write_135 : decode cX4_write 135 = .ok (.invokevirtual 171, 3) := by decide +kernel
theorem dX4_write_138 : decode cX4_write 138 = .ok (.aload_n 0, 1) := by decide +kernel
theorem dX4_write_139 : decode cX4_write 139 = .ok (.iload 5, 2) := by decide +kernel
theorem dX4_write_141 : decode cX4_write 141 = .ok (.invokevirtual 63, 3) := by decide +kernel
theorem dX4_write_144 : decode cX4_write 144 = .ok (.istore 6, 2) := by decide +kernel
theorem dX4_write_146 : decode cX4_write 146 = .ok (.iload 6, 2) := by decide +kernel
theorem dX4_write_148 : decode cX4_write 148 = .ok (.iconst (-1), 1) := by decide +kernel
theorem dX4_write_149 : decode cX4_write 149 = .ok (.if_icmp .eq 11, 3) := by decide +kernel
theorem dX4_write_152 : decode cX4_write 152 = .ok (.aload_n 0, 1) := by decide +kernel
theorem dX4_write_153 : decode cX4_write 153 = .ok (.getfield 27, 3) := by decide +kernel
theorem dX4_write_156 : decode cX4_write 156 = .ok (.iload 6, 2) := by decide +kernel
theorem dX4_write_158 : decode cX4_write 158 = .ok (.iconst (-1), 1) := by decide +kernel
theorem dX4_write_159 : decode cX4_write 159 = .ok (.iastore, 1) := by decide +kernel
theorem dX4_write_160 : decode cX4_write 160 = .ok (.aload_n 0, 1) := by decide +kernel
theorem dX4_write_161 : decode cX4_write 161 = .ok (.getfield 33, 3) := by decide +kernel
theorem dX4_write_164 : decode cX4_write 164 = .ok (.iload 5, 2) := by decide +kernel
theorem dX4_write_166 : decode cX4_write 166 = .ok (.iconst 1, 1) := by decide +kernel
theorem dX4_write_167 : decode cX4_write 167 = .ok (.bastore, 1) := by decide +kernel
theorem dX4_write_168 : decode cX4_write 168 = .ok (.aload_n 0, 1) := by decide +kernel
theorem dX4_write_169 : decode cX4_write 169 = .ok (.getfield 36, 3) := by decide +kernel
theorem dX4_write_172 : decode cX4_write 172 = .ok (.iconst 4, 1) := by decide +kernel
theorem dX4_write_173 : decode cX4_write 173 = .ok (.iload 5, 2) := by decide +kernel
theorem dX4_write_175 : decode cX4_write 175 = .ok (.imul, 1) := by decide +kernel
theorem dX4_write_176 : decode cX4_write 176 = .ok (.iload_n 2, 1) := by decide +kernel
theorem dX4_write_177 : decode cX4_write 177 = .ok (.iconst 4, 1) := by decide +kernel
theorem dX4_write_178 : decode cX4_write 178 = .ok (.irem, 1) := by decide +kernel
theorem dX4_write_179 : decode cX4_write 179 = .ok (.iadd, 1) := by decide +kernel
theorem dX4_write_180 : decode cX4_write 180 = .ok (.iaload, 1) := by decide +kernel
theorem dX4_write_181 : decode cX4_write 181 = .ok (.istore 7, 2) := by decide +kernel
theorem dX4_write_183 : decode cX4_write 183 = .ok (.aload_n 0, 1) := by decide +kernel
theorem dX4_write_184 : decode cX4_write 184 = .ok (.getfield 36, 3) := by decide +kernel
theorem dX4_write_187 : decode cX4_write 187 = .ok (.iconst 4, 1) := by decide +kernel
theorem dX4_write_188 : decode cX4_write 188 = .ok (.iload 5, 2) := by decide +kernel
theorem dX4_write_190 : decode cX4_write 190 = .ok (.imul, 1) := by decide +kernel
theorem dX4_write_191 : decode cX4_write 191 = .ok (.iload_n 2, 1) := by decide +kernel
theorem dX4_write_192 : decode cX4_write 192 = .ok (.iconst 4, 1) := by decide +kernel
theorem dX4_write_193 : decode cX4_write 193 = .ok (.irem, 1) := by decide +kernel
theorem dX4_write_194 : decode cX4_write 194 = .ok (.iadd, 1) := by decide +kernel
theorem dX4_write_195 : decode cX4_write 195 = .ok (.iload_n 3, 1) := by decide +kernel
theorem dX4_write_196 : decode cX4_write 196 = .ok (.iastore, 1) := by decide +kernel
theorem dX4_write_197 : decode cX4_write 197 = .ok (.iload 7, 2) := by decide +kernel
theorem dX4_write_199 : decode cX4_write 199 = .ok (.ireturn, 1) := by decide +kernel
theorem dX4_sync_0 : decode cX4_sync 0 = .ok (.aload_n 0, 1) := by decide +kernel
theorem dX4_sync_1 : decode cX4_sync 1 = .ok (.iconst 0, 1) := by decide +kernel
theorem dX4_sync_2 : decode cX4_sync 2 = .ok (.putfield 60, 3) := by decide +kernel
theorem dX4_sync_5 : decode cX4_sync 5 = .ok (.iconst 0, 1) := by decide +kernel
theorem dX4_sync_6 : decode cX4_sync 6 = .ok (.istore_n 1, 1) := by decide +kernel
theorem dX4_sync_7 : decode cX4_sync 7 = .ok (.iconst 0, 1) := by decide +kernel
theorem dX4_sync_8 : decode cX4_sync 8 = .ok (.istore_n 2, 1) := by decide +kernel
theorem dX4_sync_9 : decode cX4_sync 9 = .ok (.iload_n 2, 1) := by decide +kernel
theorem dX4_sync_10 : decode cX4_sync 10 = .ok (.aload_n 0, 1) := by decide +kernel
theorem dX4_sync_11 : decode cX4_sync 11 = .ok (.getfield 13, 3) := by decide +kernel
theorem dX4_sync_14 : decode cX4_sync 14 = .ok (.if_icmp .ge 45, 3) := by decide +kernel
theorem dX4_sync_17 : decode cX4_sync 17 = .ok (.aload_n 0, 1) := by decide +kernel
theorem dX4_sync_18 : decode cX4_sync 18 = .ok (.getfield 16, 3) := by decide +kernel
theorem dX4_sync_21 : decode cX4_sync 21 = .ok (.iload_n 2, 1) := by decide +kernel
theorem dX4_sync_22 : decode cX4_sync 22 = .ok (.iaload, 1) := by decide +kernel
theorem dX4_sync_23 : decode cX4_sync 23 = .ok (.iconst (-1), 1) := by decide +kernel
theorem dX4_sync_24 : decode cX4_sync 24 = .ok (.if_icmp .eq 29, 3) := by decide +kernel
theorem dX4_sync_27 : decode cX4_sync 27 = .ok (.aload_n 0, 1) := by decide +kernel
theorem dX4_sync_28 : decode cX4_sync 28 = .ok (.aload_n 0, 1) := by decide +kernel
theorem dX4_sync_29 : decode cX4_sync 29 = .ok (.getfield 16, 3) := by decide +kernel
theorem dX4_sync_32 : decode cX4_sync 32 = .ok (.iload_n 2, 1) := by decide +kernel
theorem dX4_sync_33 : decode cX4_sync 33 = .ok (.iaload, 1) := by decide +kernel
theorem dX4_sync_34 : decode cX4_sync 34 = .ok (.invokevirtual 135, 3) := by decide +kernel
theorem dX4_sync_37 : decode cX4_sync 37 = .ok (.ifCond .eq 16, 3) := by decide +kernel
theorem dX4_sync_40 : decode cX4_sync 40 = .ok (.iload_n 1, 1) := by decide +kernel
theorem dX4_sync_41 : decode cX4_sync 41 = .ok (.aload_n 0, 1) := by decide +kernel
theorem dX4_sync_42 : decode cX4_sync 42 = .ok (.aload_n 0, 1) := by decide +kernel
theorem dX4_sync_43 : decode cX4_sync 43 = .ok (.getfield 16, 3) := by decide +kernel
theorem dX4_sync_46 : decode cX4_sync 46 = .ok (.iload_n 2, 1) := by decide +kernel
theorem dX4_sync_47 : decode cX4_sync 47 = .ok (.iaload, 1) := by decide +kernel
theorem dX4_sync_48 : decode cX4_sync 48 = .ok (.invokevirtual 154, 3) := by decide +kernel
theorem dX4_sync_51 : decode cX4_sync 51 = .ok (.iadd, 1) := by decide +kernel
theorem dX4_sync_52 : decode cX4_sync 52 = .ok (.istore_n 1, 1) := by decide +kernel
theorem dX4_sync_53 : decode cX4_sync 53 = .ok (.iinc 2 1, 3) := by decide +kernel
theorem dX4_sync_56 : decode cX4_sync 56 = .ok (.goto (-47), 3) := by decide +kernel
theorem dX4_sync_59 : decode cX4_sync 59 = .ok (.iload_n 1, 1) := by decide +kernel
theorem dX4_sync_60 : decode cX4_sync 60 = .ok (.ireturn, 1) := by decide +kernel
theorem dX4_time_0 : decode cX4_time 0 = .ok (.aload_n 0, 1) := by decide +kernel
theorem dX4_time_1 : decode cX4_time 1 = .ok (.iconst 0, 1) := by decide +kernel
theorem dX4_time_2 : decode cX4_time 2 = .ok (.putfield 60, 3) := by decide +kernel
theorem dX4_time_5 : decode cX4_time 5 = .ok (.aload_n 0, 1) := by decide +kernel
theorem dX4_time_6 : decode cX4_time 6 = .ok (.getfield 147, 3) := by decide +kernel
theorem dX4_time_9 : decode cX4_time 9 = .ok (.ireturn, 1) := by decide +kernel
theorem dX4_hand_0 : decode cX4_hand 0 = .ok (.aload_n 0, 1) := by decide +kernel
theorem dX4_hand_1 : decode cX4_hand 1 = .ok (.iconst 0, 1) := by decide +kernel
theorem dX4_hand_2 : decode cX4_hand 2 = .ok (.putfield 60, 3) := by decide +kernel
theorem dX4_hand_5 : decode cX4_hand 5 = .ok (.aload_n 0, 1) := by decide +kernel
theorem dX4_hand_6 : decode cX4_hand 6 = .ok (.getfield 93, 3) := by decide +kernel
theorem dX4_hand_9 : decode cX4_hand 9 = .ok (.ireturn, 1) := by decide +kernel
theorem dX4_frameAt_0 : decode cX4_frameAt 0 = .ok (.aload_n 0, 1) := by decide +kernel
theorem dX4_frameAt_1 : decode cX4_frameAt 1 = .ok (.getfield 42, 3) := by decide +kernel
theorem dX4_frameAt_4 : decode cX4_frameAt 4 = .ok (.iload_n 1, 1) := by decide +kernel
theorem dX4_frameAt_5 : decode cX4_frameAt 5 = .ok (.iaload, 1) := by decide +kernel
theorem dX4_frameAt_6 : decode cX4_frameAt 6 = .ok (.ifCond .le 16, 3) := by decide +kernel
theorem dX4_frameAt_9 : decode cX4_frameAt 9 = .ok (.aload_n 0, 1) := by decide +kernel
theorem dX4_frameAt_10 : decode cX4_frameAt 10 = .ok (.aload_n 0, 1) := by decide +kernel
theorem dX4_frameAt_11 : decode cX4_frameAt 11 = .ok (.getfield 45, 3) := by decide +kernel
theorem dX4_frameAt_14 : decode cX4_frameAt 14 = .ok (.iload_n 1, 1) := by decide +kernel
theorem dX4_frameAt_15 : decode cX4_frameAt 15 = .ok (.iaload, 1) := by decide +kernel
theorem dX4_frameAt_16 : decode cX4_frameAt 16 = .ok (.invokevirtual 83, 3) := by decide +kernel
theorem dX4_frameAt_19 : decode cX4_frameAt 19 = .ok (.goto 4, 3) := by decide +kernel
theorem dX4_frameAt_22 : decode cX4_frameAt 22 = .ok (.iconst (-1), 1) := by decide +kernel
theorem dX4_frameAt_23 : decode cX4_frameAt 23 = .ok (.ireturn, 1) := by decide +kernel
theorem dX4_slotAt_0 : decode cX4_slotAt 0 = .ok (.aload_n 0, 1) := by decide +kernel
theorem dX4_slotAt_1 : decode cX4_slotAt 1 = .ok (.getfield 42, 3) := by decide +kernel
theorem dX4_slotAt_4 : decode cX4_slotAt 4 = .ok (.iload_n 1, 1) := by decide +kernel
theorem dX4_slotAt_5 : decode cX4_slotAt 5 = .ok (.iaload, 1) := by decide +kernel
theorem dX4_slotAt_6 : decode cX4_slotAt 6 = .ok (.ifCond .le 16, 3) := by decide +kernel
theorem dX4_slotAt_9 : decode cX4_slotAt 9 = .ok (.aload_n 0, 1) := by decide +kernel
theorem dX4_slotAt_10 : decode cX4_slotAt 10 = .ok (.aload_n 0, 1) := by decide +kernel
theorem dX4_slotAt_11 : decode cX4_slotAt 11 = .ok (.getfield 45, 3) := by decide +kernel
theorem dX4_slotAt_14 : decode cX4_slotAt 14 = .ok (.iload_n 1, 1) := by decide +kernel
theorem dX4_slotAt_15 : decode cX4_slotAt 15 = .ok (.iaload, 1) := by decide +kernel
theorem dX4_slotAt_16 : decode cX4_slotAt 16 = .ok (.invokevirtual 63, 3) := by decide +kernel
theorem dX4_slotAt_19 : decode cX4_slotAt 19 = .ok (.goto 4, 3) := by decide +kernel
theorem dX4_slotAt_22 : decode cX4_slotAt 22 = .ok (.iconst (-1), 1) := by decide +kernel
theorem dX4_slotAt_23 : decode cX4_slotAt 23 = .ok (.ireturn, 1) := by decide +kernel
theorem dX4_frameOf_0 : decode cX4_frameOf 0 = .ok (.aload_n 0, 1) := by decide +kernel
theorem dX4_frameOf_1 : decode cX4_frameOf 1 = .ok (.iload_n 1, 1) := by decide +kernel
theorem dX4_frameOf_2 : decode cX4_frameOf 2 = .ok (.iload_n 2, 1) := by decide +kernel
theorem dX4_frameOf_3 : decode cX4_frameOf 3 = .ok (.invokevirtual 126, 3) := by decide +kernel
theorem dX4_frameOf_6 : decode cX4_frameOf 6 = .ok (.ifCond .eq 15, 3) := by decide +kernel
theorem dX4_frameOf_9 : decode cX4_frameOf 9 = .ok (.aload_n 0, 1) := by decide +kernel
theorem dX4_frameOf_10 : decode cX4_frameOf 10 = .ok (.iload_n 1, 1) := by decide +kernel
theorem dX4_frameOf_11 : decode cX4_frameOf 11 = .ok (.iload_n 2, 1) := by decide +kernel
theorem dX4_frameOf_12 : decode cX4_frameOf 12 = .ok (.invokestatic 96, 3) := by decide +kernel
theorem dX4_frameOf_15 : decode cX4_frameOf 15 = .ok (.invokevirtual 174, 3) := by decide +kernel
theorem dX4_frameOf_18 : decode cX4_frameOf 18 = .ok (.goto 4, 3) := by decide +kernel
theorem dX4_frameOf_21 : decode cX4_frameOf 21 = .ok (.iconst 0, 1) := by decide +kernel
theorem dX4_frameOf_22 : decode cX4_frameOf 22 = .ok (.ireturn, 1) := by decide +kernel
theorem dX4_slotOf_0 : decode cX4_slotOf 0 = .ok (.aload_n 0, 1) := by decide +kernel
theorem dX4_slotOf_1 : decode cX4_slotOf 1 = .ok (.iload_n 1, 1) := by decide +kernel
theorem dX4_slotOf_2 : decode cX4_slotOf 2 = .ok (.iload_n 2, 1) := by decide +kernel
theorem dX4_slotOf_3 : decode cX4_slotOf 3 = .ok (.invokevirtual 126, 3) := by decide +kernel
theorem dX4_slotOf_6 : decode cX4_slotOf 6 = .ok (.ifCond .eq 15, 3) := by decide +kernel
theorem dX4_slotOf_9 : decode cX4_slotOf 9 = .ok (.aload_n 0, 1) := by decide +kernel
theorem dX4_slotOf_10 : decode cX4_slotOf 10 = .ok (.iload_n 1, 1) := by decide +kernel
theorem dX4_slotOf_11 : decode cX4_slotOf 11 = .ok (.iload_n 2, 1) := by decide +kernel
theorem dX4_slotOf_12 : decode cX4_slotOf 12 = .ok (.invokestatic 96, 3) := by decide +kernel
theorem dX4_slotOf_15 : decode cX4_slotOf 15 = .ok (.invokevirtual 177, 3) := by decide +kernel
theorem dX4_slotOf_18 : decode cX4_slotOf 18 = .ok (.goto 4, 3) := by decide +kernel
theorem dX4_slotOf_21 : decode cX4_slotOf 21 = .ok (.iconst 0, 1) := by decide +kernel
theorem dX4_slotOf_22 : decode cX4_slotOf 22 = .ok (.ireturn, 1) := by decide +kernel
theorem dX4_sharersOf_0 : decode cX4_sharersOf 0 = .ok (.aload_n 0, 1) := by decide +kernel
theorem dX4_sharersOf_1 : decode cX4_sharersOf 1 = .ok (.iload_n 1, 1) := by decide +kernel
theorem dX4_sharersOf_2 : decode cX4_sharersOf 2 = .ok (.iload_n 2, 1) := by decide +kernel
theorem dX4_sharersOf_3 : decode cX4_sharersOf 3 = .ok (.invokevirtual 126, 3) := by decide +kernel
theorem dX4_sharersOf_6 : decode cX4_sharersOf 6 = .ok (.ifCond .eq 33, 3) := by decide +kernel
theorem dX4_sharersOf_9 : decode cX4_sharersOf 9 = .ok (.aload_n 0, 1) := by decide +kernel
theorem dX4_sharersOf_10 : decode cX4_sharersOf 10 = .ok (.getfield 42, 3) := by decide +kernel
theorem dX4_sharersOf_13 : decode cX4_sharersOf 13 = .ok (.iload_n 1, 1) := by decide +kernel
theorem dX4_sharersOf_14 : decode cX4_sharersOf 14 = .ok (.iload_n 2, 1) := by decide +kernel
theorem dX4_sharersOf_15 : decode cX4_sharersOf 15 = .ok (.invokestatic 96, 3) := by decide +kernel
theorem dX4_sharersOf_18 : decode cX4_sharersOf 18 = .ok (.iaload, 1) := by decide +kernel
theorem dX4_sharersOf_19 : decode cX4_sharersOf 19 = .ok (.ifCond .le 20, 3) := by decide +kernel
theorem dX4_sharersOf_22 : decode cX4_sharersOf 22 = .ok (.aload_n 0, 1) := by decide +kernel
theorem dX4_sharersOf_23 : decode cX4_sharersOf 23 = .ok (.aload_n 0, 1) := by decide +kernel
theorem dX4_sharersOf_24 : decode cX4_sharersOf 24 = .ok (.getfield 45, 3) := by decide +kernel
theorem dX4_sharersOf_27 : decode cX4_sharersOf 27 = .ok (.iload_n 1, 1) := by decide +kernel
theorem dX4_sharersOf_28 : decode cX4_sharersOf 28 = .ok (.iload_n 2, 1) := by decide +kernel
theorem dX4_sharersOf_29 : decode cX4_sharersOf 29 = .ok (.invokestatic 96, 3) := by decide +kernel
theorem dX4_sharersOf_32 : decode cX4_sharersOf 32 = .ok (.iaload, 1) := by decide +kernel
theorem dX4_sharersOf_33 : decode cX4_sharersOf 33 = .ok (.invokevirtual 76, 3) := by decide +kernel
theorem dX4_sharersOf_36 : decode cX4_sharersOf 36 = .ok (.goto 4, 3) := by decide +kernel
theorem dX4_sharersOf_39 : decode cX4_sharersOf 39 = .ok (.iconst 0, 1) := by decide +kernel
theorem dX4_sharersOf_40 : decode cX4_sharersOf 40 = .ok (.ireturn, 1) := by decide +kernel
theorem dX4_asksFrame_0 : decode cX4_asksFrame 0 = .ok (.aload_n 0, 1) := by decide +kernel
theorem dX4_asksFrame_1 : decode cX4_asksFrame 1 = .ok (.iload_n 1, 1) := by decide +kernel
theorem dX4_asksFrame_2 : decode cX4_asksFrame 2 = .ok (.ifCond .lt 15, 3) := by decide +kernel
theorem dX4_asksFrame_5 : decode cX4_asksFrame 5 = .ok (.iload_n 1, 1) := by decide +kernel
theorem dX4_asksFrame_6 : decode cX4_asksFrame 6 = .ok (.aload_n 0, 1) := by decide +kernel
theorem dX4_asksFrame_7 : decode cX4_asksFrame 7 = .ok (.getfield 13, 3) := by decide +kernel
theorem dX4_asksFrame_10 : decode cX4_asksFrame 10 = .ok (.if_icmp .ge 7, 3) := by decide +kernel
theorem dX4_asksFrame_13 : decode cX4_asksFrame 13 = .ok (.iconst 0, 1) := by decide +kernel
theorem dX4_asksFrame_14 : decode cX4_asksFrame 14 = .ok (.goto 4, 3) := by decide +kernel
theorem dX4_asksFrame_17 : decode cX4_asksFrame 17 = .ok (.iconst 1, 1) := by decide +kernel
theorem dX4_asksFrame_18 : decode cX4_asksFrame 18 = .ok (.putfield 60, 3) := by decide +kernel
theorem dX4_asksFrame_21 : decode cX4_asksFrame 21 = .ok (.aload_n 0, 1) := by decide +kernel
theorem dX4_asksFrame_22 : decode cX4_asksFrame 22 = .ok (.getfield 60, 3) := by decide +kernel
theorem dX4_asksFrame_25 : decode cX4_asksFrame 25 = .ok (.ifCond .ne 7, 3) := by decide +kernel
theorem dX4_asksFrame_28 : decode cX4_asksFrame 28 = .ok (.iconst 1, 1) := by decide +kernel
theorem dX4_asksFrame_29 : decode cX4_asksFrame 29 = .ok (.goto 4, 3) := by decide +kernel
theorem dX4_asksFrame_32 : decode cX4_asksFrame 32 = .ok (.iconst 0, 1) := by decide +kernel
theorem dX4_asksFrame_33 : decode cX4_asksFrame 33 = .ok (.ireturn, 1) := by decide +kernel
theorem dX4_stateOf_0 : decode cX4_stateOf 0 = .ok (.aload_n 0, 1) := by decide +kernel
theorem dX4_stateOf_1 : decode cX4_stateOf 1 = .ok (.getfield 16, 3) := by decide +kernel
theorem dX4_stateOf_4 : decode cX4_stateOf 4 = .ok (.iload_n 1, 1) := by decide +kernel
theorem dX4_stateOf_5 : decode cX4_stateOf 5 = .ok (.iaload, 1) := by decide +kernel
theorem dX4_stateOf_6 : decode cX4_stateOf 6 = .ok (.iconst (-1), 1) := by decide +kernel
theorem dX4_stateOf_7 : decode cX4_stateOf 7 = .ok (.if_icmp .ne 7, 3) := by decide +kernel
theorem dX4_stateOf_10 : decode cX4_stateOf 10 = .ok (.iconst 0, 1) := by decide +kernel
theorem dX4_stateOf_11 : decode cX4_stateOf 11 = .ok (.goto 21, 3) := by decide +kernel
theorem dX4_stateOf_14 : decode cX4_stateOf 14 = .ok (.aload_n 0, 1) := by decide +kernel
theorem dX4_stateOf_15 : decode cX4_stateOf 15 = .ok (.aload_n 0, 1) := by decide +kernel
theorem dX4_stateOf_16 : decode cX4_stateOf 16 = .ok (.getfield 16, 3) := by decide +kernel
theorem dX4_stateOf_19 : decode cX4_stateOf 19 = .ok (.iload_n 1, 1) := by decide +kernel
theorem dX4_stateOf_20 : decode cX4_stateOf 20 = .ok (.iaload, 1) := by decide +kernel
theorem dX4_stateOf_21 : decode cX4_stateOf 21 = .ok (.invokevirtual 135, 3) := by decide +kernel
theorem dX4_stateOf_24 : decode cX4_stateOf 24 = .ok (.ifCond .eq 7, 3) := by decide +kernel
theorem dX4_stateOf_27 : decode cX4_stateOf 27 = .ok (.iconst 2, 1) := by decide +kernel
theorem dX4_stateOf_28 : decode cX4_stateOf 28 = .ok (.goto 4, 3) := by decide +kernel
theorem dX4_stateOf_31 : decode cX4_stateOf 31 = .ok (.iconst 1, 1) := by decide +kernel
theorem dX4_stateOf_32 : decode cX4_stateOf 32 = .ok (.ireturn, 1) := by decide +kernel
theorem dX4_useOf_0 : decode cX4_useOf 0 = .ok (.aload_n 0, 1) := by decide +kernel
theorem dX4_useOf_1 : decode cX4_useOf 1 = .ok (.getfield 16, 3) := by decide +kernel
theorem dX4_useOf_4 : decode cX4_useOf 4 = .ok (.iload_n 1, 1) := by decide +kernel
theorem dX4_useOf_5 : decode cX4_useOf 5 = .ok (.iaload, 1) := by decide +kernel
theorem dX4_useOf_6 : decode cX4_useOf 6 = .ok (.iconst (-1), 1) := by decide +kernel
theorem dX4_useOf_7 : decode cX4_useOf 7 = .ok (.if_icmp .ne 7, 3) := by decide +kernel
theorem dX4_useOf_10 : decode cX4_useOf 10 = .ok (.iconst (-1), 1) := by decide +kernel
theorem dX4_useOf_11 : decode cX4_useOf 11 = .ok (.goto 9, 3) := by decide +kernel
theorem dX4_useOf_14 : decode cX4_useOf 14 = .ok (.aload_n 0, 1) := by decide +kernel
theorem dX4_useOf_15 : decode cX4_useOf 15 = .ok (.getfield 20, 3) := by decide +kernel
theorem dX4_useOf_18 : decode cX4_useOf 18 = .ok (.iload_n 1, 1) := by decide +kernel
theorem dX4_useOf_19 : decode cX4_useOf 19 = .ok (.iaload, 1) := by decide +kernel
theorem dX4_useOf_20 : decode cX4_useOf 20 = .ok (.ireturn, 1) := by decide +kernel
theorem dX4_frameState_0 : decode cX4_frameState 0 = .ok (.aload_n 0, 1) := by decide +kernel
theorem dX4_frameState_1 : decode cX4_frameState 1 = .ok (.iload_n 1, 1) := by decide +kernel
theorem dX4_frameState_2 : decode cX4_frameState 2 = .ok (.invokevirtual 180, 3) := by decide +kernel
theorem dX4_frameState_5 : decode cX4_frameState 5 = .ok (.ifCond .eq 11, 3) := by decide +kernel
theorem dX4_frameState_8 : decode cX4_frameState 8 = .ok (.aload_n 0, 1) := by decide +kernel
theorem dX4_frameState_9 : decode cX4_frameState 9 = .ok (.iload_n 1, 1) := by decide +kernel
theorem dX4_frameState_10 : decode cX4_frameState 10 = .ok (.invokevirtual 183, 3) := by decide +kernel
theorem dX4_frameState_13 : decode cX4_frameState 13 = .ok (.goto 4, 3) := by decide +kernel
theorem dX4_frameState_16 : decode cX4_frameState 16 = .ok (.iconst 0, 1) := by decide +kernel
theorem dX4_frameState_17 : decode cX4_frameState 17 = .ok (.ireturn, 1) := by decide +kernel
theorem dX4_latestUse_0 : decode cX4_latestUse 0 = .ok (.aload_n 0, 1) := by decide +kernel
theorem dX4_latestUse_1 : decode cX4_latestUse 1 = .ok (.iload_n 1, 1) := by decide +kernel
theorem dX4_latestUse_2 : decode cX4_latestUse 2 = .ok (.invokevirtual 180, 3) := by decide +kernel
theorem dX4_latestUse_5 : decode cX4_latestUse 5 = .ok (.ifCond .eq 11, 3) := by decide +kernel
theorem dX4_latestUse_8 : decode cX4_latestUse 8 = .ok (.aload_n 0, 1) := by decide +kernel
theorem dX4_latestUse_9 : decode cX4_latestUse 9 = .ok (.iload_n 1, 1) := by decide +kernel
theorem dX4_latestUse_10 : decode cX4_latestUse 10 = .ok (.invokevirtual 186, 3) := by decide +kernel
theorem dX4_latestUse_13 : decode cX4_latestUse 13 = .ok (.goto 4, 3) := by decide +kernel
theorem dX4_latestUse_16 : decode cX4_latestUse 16 = .ok (.iconst 0, 1) := by decide +kernel
theorem dX4_latestUse_17 : decode cX4_latestUse 17 = .ok (.ireturn, 1) := by decide +kernel
theorem dX4_isReferenced_0 : decode cX4_isReferenced 0 = .ok (.aload_n 0, 1) := by decide +kernel
theorem dX4_isReferenced_1 : decode cX4_isReferenced 1 = .ok (.iload_n 1, 1) := by decide +kernel
theorem dX4_isReferenced_2 : decode cX4_isReferenced 2 = .ok (.invokevirtual 180, 3) := by decide +kernel
theorem dX4_isReferenced_5 : decode cX4_isReferenced 5 = .ok (.ifCond .eq 26, 3) := by decide +kernel
theorem dX4_isReferenced_8 : decode cX4_isReferenced 8 = .ok (.aload_n 0, 1) := by decide +kernel
theorem dX4_isReferenced_9 : decode cX4_isReferenced 9 = .ok (.getfield 16, 3) := by decide +kernel
theorem dX4_isReferenced_12 : decode cX4_isReferenced 12 = .ok (.iload_n 1, 1) := by decide +kernel
theorem dX4_isReferenced_13 : decode cX4_isReferenced 13 = .ok (.iaload, 1) := by decide +kernel
theorem dX4_isReferenced_14 : decode cX4_isReferenced 14 = .ok (.iconst (-1), 1) := by decide +kernel
theorem dX4_isReferenced_15 : decode cX4_isReferenced 15 = .ok (.if_icmp .eq 16, 3) := by decide +kernel
theorem dX4_isReferenced_18 : decode cX4_isReferenced 18 = .ok (.aload_n 0, 1) := by decide +kernel
theorem dX4_isReferenced_19 : decode cX4_isReferenced 19 = .ok (.getfield 23, 3) := by decide +kernel
theorem dX4_isReferenced_22 : decode cX4_isReferenced 22 = .ok (.iload_n 1, 1) := by decide +kernel
theorem dX4_isReferenced_23 : decode cX4_isReferenced 23 = .ok (.baload, 1) := by decide +kernel
theorem dX4_isReferenced_24 : decode cX4_isReferenced 24 = .ok (.ifCond .eq 7, 3) := by decide +kernel
theorem dX4_isReferenced_27 : decode cX4_isReferenced 27 = .ok (.iconst 1, 1) := by decide +kernel
theorem dX4_isReferenced_28 : decode cX4_isReferenced 28 = .ok (.goto 4, 3) := by decide +kernel
theorem dX4_isReferenced_31 : decode cX4_isReferenced 31 = .ok (.iconst 0, 1) := by decide +kernel
theorem dX4_isReferenced_32 : decode cX4_isReferenced 32 = .ok (.ireturn, 1) := by decide +kernel
theorem dX4_freeFrames_0 : decode cX4_freeFrames 0 = .ok (.aload_n 0, 1) := by decide +kernel
theorem dX4_freeFrames_1 : decode cX4_freeFrames 1 = .ok (.iconst 0, 1) := by decide +kernel
theorem dX4_freeFrames_2 : decode cX4_freeFrames 2 = .ok (.putfield 60, 3) := by decide +kernel
theorem dX4_freeFrames_5 : decode cX4_freeFrames 5 = .ok (.aload_n 0, 1) := by decide +kernel
theorem dX4_freeFrames_6 : decode cX4_freeFrames 6 = .ok (.getfield 13, 3) := by decide +kernel
theorem dX4_freeFrames_9 : decode cX4_freeFrames 9 = .ok (.aload_n 0, 1) := by decide +kernel
theorem dX4_freeFrames_10 : decode cX4_freeFrames 10 = .ok (.invokevirtual 89, 3) := by decide +kernel
theorem dX4_freeFrames_13 : decode cX4_freeFrames 13 = .ok (.isub, 1) := by decide +kernel
theorem dX4_freeFrames_14 : decode cX4_freeFrames 14 = .ok (.ireturn, 1) := by decide +kernel
theorem dX4_slotsLeft_0 : decode cX4_slotsLeft 0 = .ok (.iconst 0, 1) := by decide +kernel
theorem dX4_slotsLeft_1 : decode cX4_slotsLeft 1 = .ok (.istore_n 1, 1) := by decide +kernel
theorem dX4_slotsLeft_2 : decode cX4_slotsLeft 2 = .ok (.iconst 0, 1) := by decide +kernel
theorem dX4_slotsLeft_3 : decode cX4_slotsLeft 3 = .ok (.istore_n 2, 1) := by decide +kernel
theorem dX4_slotsLeft_4 : decode cX4_slotsLeft 4 = .ok (.iload_n 2, 1) := by decide +kernel
theorem dX4_slotsLeft_5 : decode cX4_slotsLeft 5 = .ok (.bipush 24, 2) := by decide +kernel
theorem dX4_slotsLeft_7 : decode cX4_slotsLeft 7 = .ok (.if_icmp .ge 27, 3) := by decide +kernel
theorem dX4_slotsLeft_10 : decode cX4_slotsLeft 10 = .ok (.iload_n 1, 1) := by decide +kernel
theorem dX4_slotsLeft_11 : decode cX4_slotsLeft 11 = .ok (.aload_n 0, 1) := by decide +kernel
theorem dX4_slotsLeft_12 : decode cX4_slotsLeft 12 = .ok (.getfield 27, 3) := by decide +kernel
theorem dX4_slotsLeft_15 : decode cX4_slotsLeft 15 = .ok (.iload_n 2, 1) := by decide +kernel
theorem dX4_slotsLeft_16 : decode cX4_slotsLeft 16 = .ok (.iaload, 1) := by decide +kernel
theorem dX4_slotsLeft_17 : decode cX4_slotsLeft 17 = .ok (.iconst (-1), 1) := by decide +kernel
theorem dX4_slotsLeft_18 : decode cX4_slotsLeft 18 = .ok (.if_icmp .ne 7, 3) := by decide +kernel
theorem dX4_slotsLeft_21 : decode cX4_slotsLeft 21 = .ok (.iconst 1, 1) := by decide +kernel
theorem dX4_slotsLeft_22 : decode cX4_slotsLeft 22 = .ok (.goto 4, 3) := by decide +kernel
theorem dX4_slotsLeft_25 : decode cX4_slotsLeft 25 = .ok (.iconst 0, 1) := by decide +kernel
theorem dX4_slotsLeft_26 : decode cX4_slotsLeft 26 = .ok (.iadd, 1) := by decide +kernel
theorem dX4_slotsLeft_27 : decode cX4_slotsLeft 27 = .ok (.istore_n 1, 1) := by decide +kernel
theorem dX4_slotsLeft_28 : decode cX4_slotsLeft 28 = .ok (.iinc 2 1, 3) := by decide +kernel
theorem dX4_slotsLeft_31 : decode cX4_slotsLeft 31 = .ok (.goto (-27), 3) := by decide +kernel
theorem dX4_slotsLeft_34 : decode cX4_slotsLeft 34 = .ok (.iload_n 1, 1) := by decide +kernel
theorem dX4_slotsLeft_35 : decode cX4_slotsLeft 35 = .ok (.ireturn, 1) := by decide +kernel
theorem dX4_freeSlots_0 : decode cX4_freeSlots 0 = .ok (.aload_n 0, 1) := by decide +kernel
theorem dX4_freeSlots_1 : decode cX4_freeSlots 1 = .ok (.iconst 0, 1) := by decide +kernel
theorem dX4_freeSlots_2 : decode cX4_freeSlots 2 = .ok (.putfield 60, 3) := by decide +kernel
theorem dX4_freeSlots_5 : decode cX4_freeSlots 5 = .ok (.aload_n 0, 1) := by decide +kernel
theorem dX4_freeSlots_6 : decode cX4_freeSlots 6 = .ok (.invokevirtual 189, 3) := by decide +kernel
theorem dX4_freeSlots_9 : decode cX4_freeSlots 9 = .ok (.ireturn, 1) := by decide +kernel
theorem dX4_workingSet_0 : decode cX4_workingSet 0 = .ok (.aload_n 0, 1) := by decide +kernel
theorem dX4_workingSet_1 : decode cX4_workingSet 1 = .ok (.aload_n 0, 1) := by decide +kernel
theorem dX4_workingSet_2 : decode cX4_workingSet 2 = .ok (.iload_n 1, 1) := by decide +kernel
theorem dX4_workingSet_3 : decode cX4_workingSet 3 = .ok (.invokevirtual 100, 3) := by decide +kernel
theorem dX4_workingSet_6 : decode cX4_workingSet 6 = .ok (.ifCond .eq 7, 3) := by decide +kernel
theorem dX4_workingSet_9 : decode cX4_workingSet 9 = .ok (.iconst 0, 1) := by decide +kernel
theorem dX4_workingSet_10 : decode cX4_workingSet 10 = .ok (.goto 4, 3) := by decide +kernel
theorem dX4_workingSet_13 : decode cX4_workingSet 13 = .ok (.iconst 1, 1) := by decide +kernel
theorem dX4_workingSet_14 : decode cX4_workingSet 14 = .ok (.putfield 60, 3) := by decide +kernel
theorem dX4_workingSet_17 : decode cX4_workingSet 17 = .ok (.iconst 0, 1) := by decide +kernel
theorem dX4_workingSet_18 : decode cX4_workingSet 18 = .ok (.istore_n 2, 1) := by decide +kernel
theorem dX4_workingSet_19 : decode cX4_workingSet 19 = .ok (.iconst 0, 1) := by decide +kernel
theorem dX4_workingSet_20 : decode cX4_workingSet 20 = .ok (.istore_n 3, 1) := by decide +kernel
theorem dX4_workingSet_21 : decode cX4_workingSet 21 = .ok (.iload_n 3, 1) := by decide +kernel
theorem dX4_workingSet_22 : decode cX4_workingSet 22 = .ok (.bipush 16, 2) := by decide +kernel
theorem dX4_workingSet_24 : decode cX4_workingSet 24 = .ok (.if_icmp .ge 60, 3) := by decide +kernel
theorem dX4_workingSet_27 : decode cX4_workingSet 27 = .ok (.aload_n 0, 1) := by decide +kernel
theorem dX4_workingSet_28 : decode cX4_workingSet 28 = .ok (.getfield 60, 3) := by decide +kernel
theorem dX4_workingSet_31 : decode cX4_workingSet 31 = .ok (.ifCond .ne 53, 3) := by decide +kernel
theorem dX4_workingSet_34 : decode cX4_workingSet 34 = .ok (.aload_n 0, 1) := by decide +kernel
theorem dX4_workingSet_35 : decode cX4_workingSet 35 = .ok (.iload_n 1, 1) := by decide +kernel
theorem dX4_workingSet_36 : decode cX4_workingSet 36 = .ok (.iload_n 3, 1) := by decide +kernel
theorem dX4_workingSet_37 : decode cX4_workingSet 37 = .ok (.invokestatic 96, 3) := by decide +kernel
theorem dX4_workingSet_40 : decode cX4_workingSet 40 = .ok (.invokevirtual 174, 3) := by decide +kernel
theorem dX4_workingSet_43 : decode cX4_workingSet 43 = .ok (.istore 4, 2) := by decide +kernel
theorem dX4_workingSet_45 : decode cX4_workingSet 45 = .ok (.iload_n 2, 1) := by decide +kernel
theorem dX4_workingSet_46 : decode cX4_workingSet 46 = .ok (.iload 4, 2) := by decide +kernel
theorem dX4_workingSet_48 : decode cX4_workingSet 48 = .ok (.iconst (-1), 1) := by decide +kernel
theorem dX4_workingSet_49 : decode cX4_workingSet 49 = .ok (.if_icmp .eq 26, 3) := by decide +kernel
theorem dX4_workingSet_52 : decode cX4_workingSet 52 = .ok (.aload_n 0, 1) := by decide +kernel
theorem dX4_workingSet_53 : decode cX4_workingSet 53 = .ok (.getfield 147, 3) := by decide +kernel
theorem dX4_workingSet_56 : decode cX4_workingSet 56 = .ok (.aload_n 0, 1) := by decide +kernel
theorem dX4_workingSet_57 : decode cX4_workingSet 57 = .ok (.getfield 20, 3) := by decide +kernel
theorem dX4_workingSet_60 : decode cX4_workingSet 60 = .ok (.iload 4, 2) := by decide +kernel
theorem dX4_workingSet_62 : decode cX4_workingSet 62 = .ok (.iaload, 1) := by decide +kernel
theorem dX4_workingSet_63 : decode cX4_workingSet 63 = .ok (.isub, 1) := by decide +kernel
theorem dX4_workingSet_64 : decode cX4_workingSet 64 = .ok (.aload_n 0, 1) := by decide +kernel
theorem dX4_workingSet_65 : decode cX4_workingSet 65 = .ok (.getfield 7, 3) := by decide +kernel
theorem dX4_workingSet_68 : decode cX4_workingSet 68 = .ok (.if_icmp .gt 7, 3) := by decide +kernel
theorem dX4_workingSet_71 : decode cX4_workingSet 71 = .ok (.iconst 1, 1) := by decide +kernel
theorem dX4_workingSet_72 : decode cX4_workingSet 72 = .ok (.goto 4, 3) := by decide +kernel
theorem dX4_workingSet_75 : decode cX4_workingSet 75 = .ok (.iconst 0, 1) := by decide +kernel
theorem dX4_workingSet_76 : decode cX4_workingSet 76 = .ok (.iadd, 1) := by decide +kernel
theorem dX4_workingSet_77 : decode cX4_workingSet 77 = .ok (.istore_n 2, 1) := by decide +kernel
theorem dX4_workingSet_78 : decode cX4_workingSet 78 = .ok (.iinc 3 1, 3) := by decide +kernel
theorem dX4_workingSet_81 : decode cX4_workingSet 81 = .ok (.goto (-60), 3) := by decide +kernel
theorem dX4_workingSet_84 : decode cX4_workingSet 84 = .ok (.iload_n 2, 1) := by decide +kernel
theorem dX4_workingSet_85 : decode cX4_workingSet 85 = .ok (.ireturn, 1) := by decide +kernel
theorem dX4_count_0 : decode cX4_count 0 = .ok (.aload_n 0, 1) := by decide +kernel
theorem dX4_count_1 : decode cX4_count 1 = .ok (.iconst 0, 1) := by decide +kernel
theorem dX4_count_2 : decode cX4_count 2 = .ok (.putfield 60, 3) := by decide +kernel
theorem dX4_count_5 : decode cX4_count 5 = .ok (.iload_n 1, 1) := by decide +kernel
theorem dX4_count_6 : decode cX4_count 6 = .ok (.ifCond .lt 17, 3) := by decide +kernel
theorem dX4_count_9 : decode cX4_count 9 = .ok (.iload_n 1, 1) := by decide +kernel
theorem dX4_count_10 : decode cX4_count 10 = .ok (.iconst 5, 1) := by decide +kernel
theorem dX4_count_11 : decode cX4_count 11 = .ok (.if_icmp .gt 12, 3) := by decide +kernel
theorem dX4_count_14 : decode cX4_count 14 = .ok (.aload_n 0, 1) := by decide +kernel
theorem dX4_count_15 : decode cX4_count 15 = .ok (.getfield 54, 3) := by decide +kernel
theorem dX4_count_18 : decode cX4_count 18 = .ok (.iload_n 1, 1) := by decide +kernel
theorem dX4_count_19 : decode cX4_count 19 = .ok (.iaload, 1) := by decide +kernel
theorem dX4_count_20 : decode cX4_count 20 = .ok (.goto 8, 3) := by decide +kernel
theorem dX4_count_23 : decode cX4_count 23 = .ok (.aload_n 0, 1) := by decide +kernel
theorem dX4_count_24 : decode cX4_count 24 = .ok (.iconst 1, 1) := by decide +kernel
theorem dX4_count_25 : decode cX4_count 25 = .ok (.invokevirtual 86, 3) := by decide +kernel
theorem dX4_count_28 : decode cX4_count 28 = .ok (.ireturn, 1) := by decide +kernel
theorem dX4_swapRate_0 : decode cX4_swapRate 0 = .ok (.aload_n 0, 1) := by decide +kernel
theorem dX4_swapRate_1 : decode cX4_swapRate 1 = .ok (.iconst 0, 1) := by decide +kernel
theorem dX4_swapRate_2 : decode cX4_swapRate 2 = .ok (.putfield 60, 3) := by decide +kernel
theorem dX4_swapRate_5 : decode cX4_swapRate 5 = .ok (.aload_n 0, 1) := by decide +kernel
theorem dX4_swapRate_6 : decode cX4_swapRate 6 = .ok (.getfield 147, 3) := by decide +kernel
theorem dX4_swapRate_9 : decode cX4_swapRate 9 = .ok (.ifCond .ne 7, 3) := by decide +kernel
theorem dX4_swapRate_12 : decode cX4_swapRate 12 = .ok (.dconst 0, 1) := by decide +kernel
theorem dX4_swapRate_13 : decode cX4_swapRate 13 = .ok (.goto 16, 3) := by decide +kernel
theorem dX4_swapRate_16 : decode cX4_swapRate 16 = .ok (.aload_n 0, 1) := by decide +kernel
theorem dX4_swapRate_17 : decode cX4_swapRate 17 = .ok (.getfield 54, 3) := by decide +kernel
theorem dX4_swapRate_20 : decode cX4_swapRate 20 = .ok (.iconst 1, 1) := by decide +kernel
theorem dX4_swapRate_21 : decode cX4_swapRate 21 = .ok (.iaload, 1) := by decide +kernel
theorem dX4_swapRate_22 : decode cX4_swapRate 22 = .ok (.i2d, 1) := by decide +kernel
theorem dX4_swapRate_23 : decode cX4_swapRate 23 = .ok (.aload_n 0, 1) := by decide +kernel
theorem dX4_swapRate_24 : decode cX4_swapRate 24 = .ok (.getfield 147, 3) := by decide +kernel
theorem dX4_swapRate_27 : decode cX4_swapRate 27 = .ok (.i2d, 1) := by decide +kernel
theorem dX4_swapRate_28 : decode cX4_swapRate 28 = .ok (.ddiv, 1) := by decide +kernel
theorem dX4_swapRate_29 : decode cX4_swapRate 29 = .ok (.dreturn, 1) := by decide +kernel
theorem dX4_digest_0 : decode cX4_digest 0 = .ok (.aload_n 0, 1) := by decide +kernel
theorem dX4_digest_1 : decode cX4_digest 1 = .ok (.iconst 0, 1) := by decide +kernel
theorem dX4_digest_2 : decode cX4_digest 2 = .ok (.putfield 60, 3) := by decide +kernel
theorem dX4_digest_5 : decode cX4_digest 5 = .ok (.ldc2_w 192, 3) := by decide +kernel
theorem dX4_digest_8 : decode cX4_digest 8 = .ok (.aload_n 0, 1) := by decide +kernel
theorem dX4_digest_9 : decode cX4_digest 9 = .ok (.getfield 147, 3) := by decide +kernel
theorem dX4_digest_12 : decode cX4_digest 12 = .ok (.i2l, 1) := by decide +kernel
theorem dX4_digest_13 : decode cX4_digest 13 = .ok (.ladd, 1) := by decide +kernel
theorem dX4_digest_14 : decode cX4_digest 14 = .ok (.ldc2_w 194, 3) := by decide +kernel
theorem dX4_digest_17 : decode cX4_digest 17 = .ok (.lmul, 1) := by decide +kernel
theorem dX4_digest_18 : decode cX4_digest 18 = .ok (.aload_n 0, 1) := by decide +kernel
theorem dX4_digest_19 : decode cX4_digest 19 = .ok (.getfield 93, 3) := by decide +kernel
theorem dX4_digest_22 : decode cX4_digest 22 = .ok (.i2l, 1) := by decide +kernel
theorem dX4_digest_23 : decode cX4_digest 23 = .ok (.ladd, 1) := by decide +kernel
theorem dX4_digest_24 : decode cX4_digest 24 = .ok (.ldc2_w 194, 3) := by decide +kernel
theorem dX4_digest_27 : decode cX4_digest 27 = .ok (.lmul, 1) := by decide +kernel
theorem dX4_digest_28 : decode cX4_digest 28 = .ok (.aload_n 0, 1) := by decide +kernel
theorem dX4_digest_29 : decode cX4_digest 29 = .ok (.getfield 67, 3) := by decide +kernel
theorem dX4_digest_32 : decode cX4_digest 32 = .ok (.i2l, 1) := by decide +kernel
theorem dX4_digest_33 : decode cX4_digest 33 = .ok (.ladd, 1) := by decide +kernel
theorem dX4_digest_34 : decode cX4_digest 34 = .ok (.lstore_n 1, 1) := by decide +kernel
theorem dX4_digest_35 : decode cX4_digest 35 = .ok (.iconst 0, 1) := by decide +kernel
theorem dX4_digest_36 : decode cX4_digest 36 = .ok (.istore_n 3, 1) := by decide +kernel
theorem dX4_digest_37 : decode cX4_digest 37 = .ok (.iload_n 3, 1) := by decide +kernel
theorem dX4_digest_38 : decode cX4_digest 38 = .ok (.aload_n 0, 1) := by decide +kernel
theorem dX4_digest_39 : decode cX4_digest 39 = .ok (.getfield 67, 3) := by decide +kernel
theorem dX4_digest_42 : decode cX4_digest 42 = .ok (.if_icmp .ge 93, 3) := by decide +kernel
theorem dX4_digest_45 : decode cX4_digest 45 = .ok (.lload_n 1, 1) := by decide +kernel
theorem dX4_digest_46 : decode cX4_digest 46 = .ok (.ldc2_w 194, 3) := by decide +kernel
theorem dX4_digest_49 : decode cX4_digest 49 = .ok (.lmul, 1) := by decide +kernel
theorem dX4_digest_50 : decode cX4_digest 50 = .ok (.aload_n 0, 1) := by decide +kernel
theorem dX4_digest_51 : decode cX4_digest 51 = .ok (.getfield 39, 3) := by decide +kernel
theorem dX4_digest_54 : decode cX4_digest 54 = .ok (.iload_n 3, 1) := by decide +kernel
theorem dX4_digest_55 : decode cX4_digest 55 = .ok (.baload, 1) := by decide +kernel
theorem dX4_digest_56 : decode cX4_digest 56 = .ok (.ifCond .eq 7, 3) := by decide +kernel
theorem dX4_digest_59 : decode cX4_digest 59 = .ok (.lconst 1, 1) := by decide +kernel
theorem dX4_digest_60 : decode cX4_digest 60 = .ok (.goto 4, 3) := by decide +kernel
theorem dX4_digest_63 : decode cX4_digest 63 = .ok (.lconst 0, 1) := by decide +kernel
theorem dX4_digest_64 : decode cX4_digest 64 = .ok (.ladd, 1) := by decide +kernel
theorem dX4_digest_65 : decode cX4_digest 65 = .ok (.lstore_n 1, 1) := by decide +kernel
theorem dX4_digest_66 : decode cX4_digest 66 = .ok (.iload_n 3, 1) := by decide +kernel
theorem dX4_digest_67 : decode cX4_digest 67 = .ok (.iconst 0, 1) := by decide +kernel
theorem dX4_digest_68 : decode cX4_digest 68 = .ok (.invokestatic 96, 3) := by decide +kernel
theorem dX4_digest_71 : decode cX4_digest 71 = .ok (.istore 4, 2) := by decide +kernel
theorem dX4_digest_73 : decode cX4_digest 73 = .ok (.iload 4, 2) := by decide +kernel
theorem dX4_digest_75 : decode cX4_digest 75 = .ok (.iload_n 3, 1) := by decide +kernel
theorem dX4_digest_76 : decode cX4_digest 76 = .ok (.bipush 16, 2) := by decide +kernel
theorem dX4_digest_78 : decode cX4_digest 78 = .ok (.invokestatic 96, 3) := by decide +kernel
theorem dX4_digest_81 : decode cX4_digest 81 = .ok (.if_icmp .ge 48, 3) := by decide +kernel
theorem dX4_digest_84 : decode cX4_digest 84 = .ok (.lload_n 1, 1) := by decide +kernel
theorem dX4_digest_85 : decode cX4_digest 85 = .ok (.ldc2_w 194, 3) := by decide +kernel
theorem dX4_digest_88 : decode cX4_digest 88 = .ok (.lmul, 1) := by decide +kernel
theorem dX4_digest_89 : decode cX4_digest 89 = .ok (.aload_n 0, 1) := by decide +kernel
theorem dX4_digest_90 : decode cX4_digest 90 = .ok (.getfield 42, 3) := by decide +kernel
theorem dX4_digest_93 : decode cX4_digest 93 = .ok (.iload 4, 2) := by decide +kernel
theorem dX4_digest_95 : decode cX4_digest 95 = .ok (.iaload, 1) := by decide +kernel
theorem dX4_digest_96 : decode cX4_digest 96 = .ok (.i2l, 1) := by decide +kernel
theorem dX4_digest_97 : decode cX4_digest 97 = .ok (.ladd, 1) := by decide +kernel
theorem dX4_digest_98 : decode cX4_digest 98 = .ok (.ldc2_w 194, 3) := by decide +kernel
theorem dX4_digest_101 : decode cX4_digest 101 = .ok (.lmul, 1) := by decide +kernel
theorem dX4_digest_102 : decode cX4_digest 102 = .ok (.aload_n 0, 1) := by decide +kernel
theorem dX4_digest_103 : decode cX4_digest 103 = .ok (.iload 4, 2) := by decide +kernel
theorem dX4_digest_105 : decode cX4_digest 105 = .ok (.invokevirtual 174, 3) := by decide +kernel
theorem dX4_digest_108 : decode cX4_digest 108 = .ok (.i2l, 1) := by decide +kernel
theorem dX4_digest_109 : decode cX4_digest 109 = .ok (.ladd, 1) := by decide +kernel
theorem dX4_digest_110 : decode cX4_digest 110 = .ok (.ldc2_w 194, 3) := by decide +kernel
theorem dX4_digest_113 : decode cX4_digest 113 = .ok (.lmul, 1) := by decide +kernel
theorem dX4_digest_114 : decode cX4_digest 114 = .ok (.aload_n 0, 1) := by decide +kernel
theorem dX4_digest_115 : decode cX4_digest 115 = .ok (.iload 4, 2) := by decide +kernel
theorem dX4_digest_117 : decode cX4_digest 117 = .ok (.invokevirtual 177, 3) := by decide +kernel
theorem dX4_digest_120 : decode cX4_digest 120 = .ok (.i2l, 1) := by decide +kernel
theorem dX4_digest_121 : decode cX4_digest 121 = .ok (.ladd, 1) := by decide +kernel
theorem dX4_digest_122 : decode cX4_digest 122 = .ok (.lstore_n 1, 1) := by decide +kernel
theorem dX4_digest_123 : decode cX4_digest 123 = .ok (.iinc 4 1, 3) := by decide +kernel
theorem dX4_digest_126 : decode cX4_digest 126 = .ok (.goto (-53), 3) := by decide +kernel
theorem dX4_digest_129 : decode cX4_digest 129 = .ok (.iinc 3 1, 3) := by decide +kernel
theorem dX4_digest_132 : decode cX4_digest 132 = .ok (.goto (-95), 3) := by decide +kernel
theorem dX4_digest_135 : decode cX4_digest 135 = .ok (.iconst 0, 1) := by decide +kernel
theorem dX4_digest_136 : decode cX4_digest 136 = .ok (.istore_n 3, 1) := by decide +kernel
theorem dX4_digest_137 : decode cX4_digest 137 = .ok (.iload_n 3, 1) := by decide +kernel
theorem dX4_digest_138 : decode cX4_digest 138 = .ok (.aload_n 0, 1) := by decide +kernel
theorem dX4_digest_139 : decode cX4_digest 139 = .ok (.getfield 13, 3) := by decide +kernel
theorem dX4_digest_142 : decode cX4_digest 142 = .ok (.if_icmp .ge 62, 3) := by decide +kernel
theorem dX4_digest_145 : decode cX4_digest 145 = .ok (.lload_n 1, 1) := by decide +kernel
theorem dX4_digest_146 : decode cX4_digest 146 = .ok (.ldc2_w 194, 3) := by decide +kernel
theorem dX4_digest_149 : decode cX4_digest 149 = .ok (.lmul, 1) := by decide +kernel
theorem dX4_digest_150 : decode cX4_digest 150 = .ok (.aload_n 0, 1) := by decide +kernel
theorem dX4_digest_151 : decode cX4_digest 151 = .ok (.iload_n 3, 1) := by decide +kernel
theorem dX4_digest_152 : decode cX4_digest 152 = .ok (.invokevirtual 183, 3) := by decide +kernel
theorem dX4_digest_155 : decode cX4_digest 155 = .ok (.i2l, 1) := by decide +kernel
theorem dX4_digest_156 : decode cX4_digest 156 = .ok (.ladd, 1) := by decide +kernel
theorem dX4_digest_157 : decode cX4_digest 157 = .ok (.ldc2_w 194, 3) := by decide +kernel
theorem dX4_digest_160 : decode cX4_digest 160 = .ok (.lmul, 1) := by decide +kernel
theorem dX4_digest_161 : decode cX4_digest 161 = .ok (.aload_n 0, 1) := by decide +kernel
theorem dX4_digest_162 : decode cX4_digest 162 = .ok (.iload_n 3, 1) := by decide +kernel
theorem dX4_digest_163 : decode cX4_digest 163 = .ok (.invokevirtual 186, 3) := by decide +kernel
theorem dX4_digest_166 : decode cX4_digest 166 = .ok (.i2l, 1) := by decide +kernel
theorem dX4_digest_167 : decode cX4_digest 167 = .ok (.ladd, 1) := by decide +kernel
theorem dX4_digest_168 : decode cX4_digest 168 = .ok (.ldc2_w 194, 3) := by decide +kernel
theorem dX4_digest_171 : decode cX4_digest 171 = .ok (.lmul, 1) := by decide +kernel
theorem dX4_digest_172 : decode cX4_digest 172 = .ok (.aload_n 0, 1) := by decide +kernel
theorem dX4_digest_173 : decode cX4_digest 173 = .ok (.getfield 16, 3) := by decide +kernel
theorem dX4_digest_176 : decode cX4_digest 176 = .ok (.iload_n 3, 1) := by decide +kernel
theorem dX4_digest_177 : decode cX4_digest 177 = .ok (.iaload, 1) := by decide +kernel
theorem dX4_digest_178 : decode cX4_digest 178 = .ok (.iconst (-1), 1) := by decide +kernel
theorem dX4_digest_179 : decode cX4_digest 179 = .ok (.if_icmp .eq 16, 3) := by decide +kernel
theorem dX4_digest_182 : decode cX4_digest 182 = .ok (.aload_n 0, 1) := by decide +kernel
theorem dX4_digest_183 : decode cX4_digest 183 = .ok (.getfield 23, 3) := by decide +kernel
theorem dX4_digest_186 : decode cX4_digest 186 = .ok (.iload_n 3, 1) := by decide +kernel
theorem dX4_digest_187 : decode cX4_digest 187 = .ok (.baload, 1) := by decide +kernel
theorem dX4_digest_188 : decode cX4_digest 188 = .ok (.ifCond .eq 7, 3) := by decide +kernel
theorem dX4_digest_191 : decode cX4_digest 191 = .ok (.lconst 1, 1) := by decide +kernel
theorem dX4_digest_192 : decode cX4_digest 192 = .ok (.goto 4, 3) := by decide +kernel
theorem dX4_digest_195 : decode cX4_digest 195 = .ok (.lconst 0, 1) := by decide +kernel
theorem dX4_digest_196 : decode cX4_digest 196 = .ok (.ladd, 1) := by decide +kernel
theorem dX4_digest_197 : decode cX4_digest 197 = .ok (.lstore_n 1, 1) := by decide +kernel
theorem dX4_digest_198 : decode cX4_digest 198 = .ok (.iinc 3 1, 3) := by decide +kernel
theorem dX4_digest_201 : decode cX4_digest 201 = .ok (.goto (-64), 3) := by decide +kernel
theorem dX4_digest_204 : decode cX4_digest 204 = .ok (.lload_n 1, 1) := by decide +kernel
theorem dX4_digest_205 : decode cX4_digest 205 = .ok (.ldc2_w 194, 3) := by decide +kernel
theorem dX4_digest_208 : decode cX4_digest 208 = .ok (.lmul, 1) := by decide +kernel
theorem dX4_digest_209 : decode cX4_digest 209 = .ok (.aload_n 0, 1) := by decide +kernel
theorem dX4_digest_210 : decode cX4_digest 210 = .ok (.invokevirtual 189, 3) := by decide +kernel
theorem dX4_digest_213 : decode cX4_digest 213 = .ok (.i2l, 1) := by decide +kernel
theorem dX4_digest_214 : decode cX4_digest 214 = .ok (.ladd, 1) := by decide +kernel
theorem dX4_digest_215 : decode cX4_digest 215 = .ok (.lstore_n 1, 1) := by decide +kernel
theorem dX4_digest_216 : decode cX4_digest 216 = .ok (.iconst 0, 1) := by decide +kernel
theorem dX4_digest_217 : decode cX4_digest 217 = .ok (.istore_n 3, 1) := by decide +kernel
theorem dX4_digest_218 : decode cX4_digest 218 = .ok (.iload_n 3, 1) := by decide +kernel
theorem dX4_digest_219 : decode cX4_digest 219 = .ok (.aload_n 0, 1) := by decide +kernel
theorem dX4_digest_220 : decode cX4_digest 220 = .ok (.getfield 54, 3) := by decide +kernel
theorem dX4_digest_223 : decode cX4_digest 223 = .ok (.arraylength, 1) := by decide +kernel
theorem dX4_digest_224 : decode cX4_digest 224 = .ok (.if_icmp .ge 23, 3) := by decide +kernel
theorem dX4_digest_227 : decode cX4_digest 227 = .ok (.lload_n 1, 1) := by decide +kernel
theorem dX4_digest_228 : decode cX4_digest 228 = .ok (.ldc2_w 194, 3) := by decide +kernel
theorem dX4_digest_231 : decode cX4_digest 231 = .ok (.lmul, 1) := by decide +kernel
theorem dX4_digest_232 : decode cX4_digest 232 = .ok (.aload_n 0, 1) := by decide +kernel
theorem dX4_digest_233 : decode cX4_digest 233 = .ok (.getfield 54, 3) := by decide +kernel
theorem dX4_digest_236 : decode cX4_digest 236 = .ok (.iload_n 3, 1) := by decide +kernel
theorem dX4_digest_237 : decode cX4_digest 237 = .ok (.iaload, 1) := by decide +kernel
theorem dX4_digest_238 : decode cX4_digest 238 = .ok (.i2l, 1) := by decide +kernel
theorem dX4_digest_239 : decode cX4_digest 239 = .ok (.ladd, 1) := by decide +kernel
theorem dX4_digest_240 : decode cX4_digest 240 = .ok (.lstore_n 1, 1) := by decide +kernel
theorem dX4_digest_241 : decode cX4_digest 241 = .ok (.iinc 3 1, 3) := by decide +kernel
theorem dX4_digest_244 : decode cX4_digest 244 = .ok (.goto (-26), 3) := by decide +kernel
theorem dX4_digest_247 : decode cX4_digest 247 = .ok (.lload_n 1, 1) := by decide +kernel
theorem dX4_digest_248 : decode cX4_digest 248 = .ok (.lreturn, 1) := by decide +kernel
theorem dL_setFrames_0 : decode cL_setFrames 0 = .ok (.aload_n 2, 1) := by decide +kernel
theorem dL_setFrames_1 : decode cL_setFrames 1 = .ok (.iconst 0, 1) := by decide +kernel
theorem dL_setFrames_2 : decode cL_setFrames 2 = .ok (.aload_n 0, 1) := by decide +kernel
theorem dL_setFrames_3 : decode cL_setFrames 3 = .ok (.iload_n 1, 1) := by decide +kernel
theorem dL_setFrames_4 : decode cL_setFrames 4 = .ok (.invokevirtual 7, 3) := by decide +kernel
theorem dL_setFrames_7 : decode cL_setFrames 7 = .ok (.i2l, 1) := by decide +kernel
theorem dL_setFrames_8 : decode cL_setFrames 8 = .ok (.lastore, 1) := by decide +kernel
theorem dL_setFrames_9 : decode cL_setFrames 9 = .ok (.goto 9, 3) := by decide +kernel
theorem dL_setFrames_12 : decode cL_setFrames 12 = .ok (.astore_n 3, 1) := by decide +kernel
theorem dL_setFrames_13 : decode cL_setFrames 13 = .ok (.iconst 1, 1) := by decide +kernel
theorem dL_setFrames_14 : decode cL_setFrames 14 = .ok (.ireturn, 1) := by decide +kernel
theorem dL_setFrames_15 : decode cL_setFrames 15 = .ok (.astore_n 3, 1) := by decide +kernel
theorem dL_setFrames_16 : decode cL_setFrames 16 = .ok (.iconst 2, 1) := by decide +kernel
