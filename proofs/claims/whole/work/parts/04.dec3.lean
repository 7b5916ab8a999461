theorem dL_setFrames_17 : decode cL_setFrames 17 = .ok (.ireturn, 1) := by decide +kernel
theorem dL_setFrames_18 : decode cL_setFrames 18 = .ok (.iconst 0, 1) := by decide +kernel
theorem dL_setFrames_19 : decode cL_setFrames 19 = .ok (.ireturn, 1) := by decide +kernel
theorem dL_setWindow_0 : decode cL_setWindow 0 = .ok (.aload_n 2, 1) := by decide +kernel
theorem dL_setWindow_1 : decode cL_setWindow 1 = .ok (.iconst 0, 1) := by decide +kernel
theorem dL_setWindow_2 : decode cL_setWindow 2 = .ok (.aload_n 0, 1) := by decide +kernel
theorem dL_setWindow_3 : decode cL_setWindow 3 = .ok (.iload_n 1, 1) := by decide +kernel
theorem dL_setWindow_4 : decode cL_setWindow 4 = .ok (.invokevirtual 17, 3) := by decide +kernel
theorem dL_setWindow_7 : decode cL_setWindow 7 = .ok (.i2l, 1) := by decide +kernel
theorem dL_setWindow_8 : decode cL_setWindow 8 = .ok (.lastore, 1) := by decide +kernel
theorem dL_setWindow_9 : decode cL_setWindow 9 = .ok (.goto 6, 3) := by decide +kernel
theorem dL_setWindow_12 : decode cL_setWindow 12 = .ok (.astore_n 3, 1) := by decide +kernel
theorem dL_setWindow_13 : decode cL_setWindow 13 = .ok (.iconst 1, 1) := by decide +kernel
theorem dL_setWindow_14 : decode cL_setWindow 14 = .ok (.ireturn, 1) := by decide +kernel
theorem dL_setWindow_15 : decode cL_setWindow 15 = .ok (.iconst 0, 1) := by decide +kernel
theorem dL_setWindow_16 : decode cL_setWindow 16 = .ok (.ireturn, 1) := by decide +kernel
theorem dL_start_0 : decode cL_start 0 = .ok (.aload_n 1, 1) := by decide +kernel
theorem dL_start_1 : decode cL_start 1 = .ok (.iconst 0, 1) := by decide +kernel
theorem dL_start_2 : decode cL_start 2 = .ok (.aload_n 0, 1) := by decide +kernel
theorem dL_start_3 : decode cL_start 3 = .ok (.invokevirtual 20, 3) := by decide +kernel
theorem dL_start_6 : decode cL_start 6 = .ok (.i2l, 1) := by decide +kernel
theorem dL_start_7 : decode cL_start 7 = .ok (.lastore, 1) := by decide +kernel
theorem dL_start_8 : decode cL_start 8 = .ok (.goto 6, 3) := by decide +kernel
theorem dL_start_11 : decode cL_start 11 = .ok (.astore_n 2, 1) := by decide +kernel
theorem dL_start_12 : decode cL_start 12 = .ok (.iconst 1, 1) := by decide +kernel
theorem dL_start_13 : decode cL_start 13 = .ok (.ireturn, 1) := by decide +kernel
theorem dL_start_14 : decode cL_start 14 = .ok (.iconst 0, 1) := by decide +kernel
theorem dL_start_15 : decode cL_start 15 = .ok (.ireturn, 1) := by decide +kernel
theorem dL_fork_0 : decode cL_fork 0 = .ok (.aload_n 2, 1) := by decide +kernel
theorem dL_fork_1 : decode cL_fork 1 = .ok (.iconst 0, 1) := by decide +kernel
theorem dL_fork_2 : decode cL_fork 2 = .ok (.aload_n 0, 1) := by decide +kernel
theorem dL_fork_3 : decode cL_fork 3 = .ok (.iload_n 1, 1) := by decide +kernel
theorem dL_fork_4 : decode cL_fork 4 = .ok (.invokevirtual 24, 3) := by decide +kernel
theorem dL_fork_7 : decode cL_fork 7 = .ok (.i2l, 1) := by decide +kernel
theorem dL_fork_8 : decode cL_fork 8 = .ok (.lastore, 1) := by decide +kernel
theorem dL_fork_9 : decode cL_fork 9 = .ok (.goto 12, 3) := by decide +kernel
theorem dL_fork_12 : decode cL_fork 12 = .ok (.astore_n 3, 1) := by decide +kernel
theorem dL_fork_13 : decode cL_fork 13 = .ok (.iconst 1, 1) := by decide +kernel
theorem dL_fork_14 : decode cL_fork 14 = .ok (.ireturn, 1) := by decide +kernel
theorem dL_fork_15 : decode cL_fork 15 = .ok (.astore_n 3, 1) := by decide +kernel
theorem dL_fork_16 : decode cL_fork 16 = .ok (.iconst 2, 1) := by decide +kernel
theorem dL_fork_17 : decode cL_fork 17 = .ok (.ireturn, 1) := by decide +kernel
theorem dL_fork_18 : decode cL_fork 18 = .ok (.astore_n 3, 1) := by decide +kernel
theorem dL_fork_19 : decode cL_fork 19 = .ok (.iconst 3, 1) := by decide +kernel
theorem dL_fork_20 : decode cL_fork 20 = .ok (.ireturn, 1) := by decide +kernel
theorem dL_fork_21 : decode cL_fork 21 = .ok (.iconst 0, 1) := by decide +kernel
theorem dL_fork_22 : decode cL_fork 22 = .ok (.ireturn, 1) := by decide +kernel
theorem dL_exit_0 : decode cL_exit 0 = .ok (.aload_n 2, 1) := by decide +kernel
theorem dL_exit_1 : decode cL_exit 1 = .ok (.iconst 0, 1) := by decide +kernel
theorem dL_exit_2 : decode cL_exit 2 = .ok (.aload_n 0, 1) := by decide +kernel
theorem dL_exit_3 : decode cL_exit 3 = .ok (.iload_n 1, 1) := by decide +kernel
theorem dL_exit_4 : decode cL_exit 4 = .ok (.invokevirtual 31, 3) := by decide +kernel
theorem dL_exit_7 : decode cL_exit 7 = .ok (.i2l, 1) := by decide +kernel
theorem dL_exit_8 : decode cL_exit 8 = .ok (.lastore, 1) := by decide +kernel
theorem dL_exit_9 : decode cL_exit 9 = .ok (.goto 9, 3) := by decide +kernel
theorem dL_exit_12 : decode cL_exit 12 = .ok (.astore_n 3, 1) := by decide +kernel
theorem dL_exit_13 : decode cL_exit 13 = .ok (.iconst 1, 1) := by decide +kernel
theorem dL_exit_14 : decode cL_exit 14 = .ok (.ireturn, 1) := by decide +kernel
theorem dL_exit_15 : decode cL_exit 15 = .ok (.astore_n 3, 1) := by decide +kernel
theorem dL_exit_16 : decode cL_exit 16 = .ok (.iconst 2, 1) := by decide +kernel
theorem dL_exit_17 : decode cL_exit 17 = .ok (.ireturn, 1) := by decide +kernel
theorem dL_exit_18 : decode cL_exit 18 = .ok (.iconst 0, 1) := by decide +kernel
theorem dL_exit_19 : decode cL_exit 19 = .ok (.ireturn, 1) := by decide +kernel
theorem dL_map_0 : decode cL_map 0 = .ok (.aload_n 3, 1) := by decide +kernel
theorem dL_map_1 : decode cL_map 1 = .ok (.iconst 0, 1) := by decide +kernel
theorem dL_map_2 : decode cL_map 2 = .ok (.aload_n 0, 1) := by decide +kernel
theorem dL_map_3 : decode cL_map 3 = .ok (.iload_n 1, 1) := by decide +kernel
theorem dL_map_4 : decode cL_map 4 = .ok (.iload_n 2, 1) := by decide +kernel
theorem dL_map_5 : decode cL_map 5 = .ok (.invokevirtual 34, 3) := by decide +kernel
theorem dL_map_8 : decode cL_map 8 = .ok (.i2l, 1) := by decide +kernel
theorem dL_map_9 : decode cL_map 9 = .ok (.lastore, 1) := by decide +kernel
theorem dL_map_10 : decode cL_map 10 = .ok (.goto 15, 3) := by decide +kernel
theorem dL_map_13 : decode cL_map 13 = .ok (.astore 4, 2) := by decide +kernel
theorem dL_map_15 : decode cL_map 15 = .ok (.iconst 1, 1) := by decide +kernel
theorem dL_map_16 : decode cL_map 16 = .ok (.ireturn, 1) := by decide +kernel
theorem dL_map_17 : decode cL_map 17 = .ok (.astore 4, 2) := by decide +kernel
theorem dL_map_19 : decode cL_map 19 = .ok (.iconst 2, 1) := by decide +kernel
theorem dL_map_20 : decode cL_map 20 = .ok (.ireturn, 1) := by decide +kernel
theorem dL_map_21 : decode cL_map 21 = .ok (.astore 4, 2) := by decide +kernel
theorem dL_map_23 : decode cL_map 23 = .ok (.iconst 3, 1) := by decide +kernel
theorem dL_map_24 : decode cL_map 24 = .ok (.ireturn, 1) := by decide +kernel
theorem dL_map_25 : decode cL_map 25 = .ok (.iconst 0, 1) := by decide +kernel
theorem dL_map_26 : decode cL_map 26 = .ok (.ireturn, 1) := by decide +kernel
theorem dL_createSegment_0 : decode cL_createSegment 0 = .ok (.aload_n 2, 1) := by decide +kernel
theorem dL_createSegment_1 : decode cL_createSegment 1 = .ok (.iconst 0, 1) := by decide +kernel
theorem dL_createSegment_2 : decode cL_createSegment 2 = .ok (.aload_n 0, 1) := by decide +kernel
theorem dL_createSegment_3 : decode cL_createSegment 3 = .ok (.iload_n 1, 1) := by decide +kernel
theorem dL_createSegment_4 : decode cL_createSegment 4 = .ok (.invokevirtual 38, 3) := by decide +kernel
theorem dL_createSegment_7 : decode cL_createSegment 7 = .ok (.i2l, 1) := by decide +kernel
theorem dL_createSegment_8 : decode cL_createSegment 8 = .ok (.lastore, 1) := by decide +kernel
theorem dL_createSegment_9 : decode cL_createSegment 9 = .ok (.goto 9, 3) := by decide +kernel
theorem dL_createSegment_12 : decode cL_createSegment 12 = .ok (.astore_n 3, 1) := by decide +kernel
theorem dL_createSegment_13 : decode cL_createSegment 13 = .ok (.iconst 1, 1) := by decide +kernel
theorem dL_createSegment_14 : decode cL_createSegment 14 = .ok (.ireturn, 1) := by decide +kernel
theorem dL_createSegment_15 : decode cL_createSegment 15 = .ok (.astore_n 3, 1) := by decide +kernel
theorem dL_createSegment_16 : decode cL_createSegment 16 = .ok (.iconst 2, 1) := by decide +kernel
theorem dL_createSegment_17 : decode cL_createSegment 17 = .ok (.ireturn, 1) := by decide +kernel
theorem dL_createSegment_18 : decode cL_createSegment 18 = .ok (.iconst 0, 1) := by decide +kernel
theorem dL_createSegment_19 : decode cL_createSegment 19 = .ok (.ireturn, 1) := by decide +kernel
theorem dL_attach_0 : decode cL_attach 0 = .ok (.aload 5, 2) := by decide +kernel
theorem dL_attach_2 : decode cL_attach 2 = .ok (.iconst 0, 1) := by decide +kernel
theorem dL_attach_3 : decode cL_attach 3 = .ok (.aload_n 0, 1) := by decide +kernel
theorem dL_attach_4 : decode cL_attach 4 = .ok (.iload_n 1, 1) := by decide +kernel
theorem dL_attach_5 : decode cL_attach 5 = .ok (.iload_n 2, 1) := by decide +kernel
theorem dL_attach_6 : decode cL_attach 6 = .ok (.iload_n 3, 1) := by decide +kernel
theorem dL_attach_7 : decode cL_attach 7 = .ok (.iload 4, 2) := by decide +kernel
theorem dL_attach_9 : decode cL_attach 9 = .ok (.invokevirtual 41, 3) := by decide +kernel
theorem dL_attach_12 : decode cL_attach 12 = .ok (.i2l, 1) := by decide +kernel
theorem dL_attach_13 : decode cL_attach 13 = .ok (.lastore, 1) := by decide +kernel
theorem dL_attach_14 : decode cL_attach 14 = .ok (.goto 15, 3) := by decide +kernel
theorem dL_attach_17 : decode cL_attach 17 = .ok (.astore 6, 2) := by decide +kernel
theorem dL_attach_19 : decode cL_attach 19 = .ok (.iconst 1, 1) := by decide +kernel
theorem dL_attach_20 : decode cL_attach 20 = .ok (.ireturn, 1) := by decide +kernel
theorem dL_attach_21 : decode cL_attach 21 = .ok (.astore 6, 2) := by decide +kernel
theorem dL_attach_23 : decode cL_attach 23 = .ok (.iconst 2, 1) := by decide +kernel
theorem dL_attach_24 : decode cL_attach 24 = .ok (.ireturn, 1) := by decide +kernel
theorem dL_attach_25 : decode cL_attach 25 = .ok (.astore 6, 2) := by decide +kernel
theorem dL_attach_27 : decode cL_attach 27 = .ok (.iconst 3, 1) := by decide +kernel
theorem dL_attach_28 : decode cL_attach 28 = .ok (.ireturn, 1) := by decide +kernel
theorem dL_attach_29 : decode cL_attach 29 = .ok (.iconst 0, 1) := by decide +kernel
theorem dL_attach_30 : decode cL_attach 30 = .ok (.ireturn, 1) := by decide +kernel
theorem dL_unmap_0 : decode cL_unmap 0 = .ok (.aload_n 3, 1) := by decide +kernel
theorem dL_unmap_1 : decode cL_unmap 1 = .ok (.iconst 0, 1) := by decide +kernel
theorem dL_unmap_2 : decode cL_unmap 2 = .ok (.aload_n 0, 1) := by decide +kernel
theorem dL_unmap_3 : decode cL_unmap 3 = .ok (.iload_n 1, 1) := by decide +kernel
theorem dL_unmap_4 : decode cL_unmap 4 = .ok (.iload_n 2, 1) := by decide +kernel
theorem dL_unmap_5 : decode cL_unmap 5 = .ok (.invokevirtual 45, 3) := by decide +kernel
theorem dL_unmap_8 : decode cL_unmap 8 = .ok (.ifCond .eq 7, 3) := by decide +kernel
theorem dL_unmap_11 : decode cL_unmap 11 = .ok (.lconst 1, 1) := by decide +kernel
theorem dL_unmap_12 : decode cL_unmap 12 = .ok (.goto 4, 3) := by decide +kernel
theorem dL_unmap_15 : decode cL_unmap 15 = .ok (.lconst 0, 1) := by decide +kernel
theorem dL_unmap_16 : decode cL_unmap 16 = .ok (.lastore, 1) := by decide +kernel
theorem dL_unmap_17 : decode cL_unmap 17 = .ok (.goto 15, 3) := by decide +kernel
theorem dL_unmap_20 : decode cL_unmap 20 = .ok (.astore 4, 2) := by decide +kernel
theorem dL_unmap_22 : decode cL_unmap 22 = .ok (.iconst 1, 1) := by decide +kernel
theorem dL_unmap_23 : decode cL_unmap 23 = .ok (.ireturn, 1) := by decide +kernel
theorem dL_unmap_24 : decode cL_unmap 24 = .ok (.astore 4, 2) := by decide +kernel
theorem dL_unmap_26 : decode cL_unmap 26 = .ok (.iconst 2, 1) := by decide +kernel
theorem dL_unmap_27 : decode cL_unmap 27 = .ok (.ireturn, 1) := by decide +kernel
theorem dL_unmap_28 : decode cL_unmap 28 = .ok (.astore 4, 2) := by decide +kernel
theorem dL_unmap_30 : decode cL_unmap 30 = .ok (.iconst 3, 1) := by decide +kernel
theorem dL_unmap_31 : decode cL_unmap 31 = .ok (.ireturn, 1) := by decide +kernel
theorem dL_unmap_32 : decode cL_unmap 32 = .ok (.iconst 0, 1) := by decide +kernel
theorem dL_unmap_33 : decode cL_unmap 33 = .ok (.ireturn, 1) := by decide +kernel
theorem dL_isLive_0 : decode cL_isLive 0 = .ok (.aload_n 2, 1) := by decide +kernel
theorem dL_isLive_1 : decode cL_isLive 1 = .ok (.iconst 0, 1) := by decide +kernel
theorem dL_isLive_2 : decode cL_isLive 2 = .ok (.aload_n 0, 1) := by decide +kernel
theorem dL_isLive_3 : decode cL_isLive 3 = .ok (.iload_n 1, 1) := by decide +kernel
theorem dL_isLive_4 : decode cL_isLive 4 = .ok (.invokevirtual 49, 3) := by decide +kernel
theorem dL_isLive_7 : decode cL_isLive 7 = .ok (.ifCond .eq 7, 3) := by decide +kernel
theorem dL_isLive_10 : decode cL_isLive 10 = .ok (.lconst 1, 1) := by decide +kernel
theorem dL_isLive_11 : decode cL_isLive 11 = .ok (.goto 4, 3) := by decide +kernel
theorem dL_isLive_14 : decode cL_isLive 14 = .ok (.lconst 0, 1) := by decide +kernel
theorem dL_isLive_15 : decode cL_isLive 15 = .ok (.lastore, 1) := by decide +kernel
theorem dL_isLive_16 : decode cL_isLive 16 = .ok (.goto 6, 3) := by decide +kernel
theorem dL_isLive_19 : decode cL_isLive 19 = .ok (.astore_n 3, 1) := by decide +kernel
theorem dL_isLive_20 : decode cL_isLive 20 = .ok (.iconst 1, 1) := by decide +kernel
theorem dL_isLive_21 : decode cL_isLive 21 = .ok (.ireturn, 1) := by decide +kernel
theorem dL_isLive_22 : decode cL_isLive 22 = .ok (.iconst 0, 1) := by decide +kernel
theorem dL_isLive_23 : decode cL_isLive 23 = .ok (.ireturn, 1) := by decide +kernel
theorem dL_mapping_0 : decode cL_mapping 0 = .ok (.aload_n 3, 1) := by decide +kernel
theorem dL_mapping_1 : decode cL_mapping 1 = .ok (.iconst 0, 1) := by decide +kernel
theorem dL_mapping_2 : decode cL_mapping 2 = .ok (.aload_n 0, 1) := by decide +kernel
theorem dL_mapping_3 : decode cL_mapping 3 = .ok (.iload_n 1, 1) := by decide +kernel
theorem dL_mapping_4 : decode cL_mapping 4 = .ok (.iload_n 2, 1) := by decide +kernel
theorem dL_mapping_5 : decode cL_mapping 5 = .ok (.invokevirtual 53, 3) := by decide +kernel
theorem dL_mapping_8 : decode cL_mapping 8 = .ok (.i2l, 1) := by decide +kernel
theorem dL_mapping_9 : decode cL_mapping 9 = .ok (.lastore, 1) := by decide +kernel
theorem dL_mapping_10 : decode cL_mapping 10 = .ok (.goto 7, 3) := by decide +kernel
theorem dL_mapping_13 : decode cL_mapping 13 = .ok (.astore 4, 2) := by decide +kernel
theorem dL_mapping_15 : decode cL_mapping 15 = .ok (.iconst 1, 1) := by decide +kernel
theorem dL_mapping_16 : decode cL_mapping 16 = .ok (.ireturn, 1) := by decide +kernel
theorem dL_mapping_17 : decode cL_mapping 17 = .ok (.iconst 0, 1) := by decide +kernel
theorem dL_mapping_18 : decode cL_mapping 18 = .ok (.ireturn, 1) := by decide +kernel
theorem dL_read_0 : decode cL_read 0 = .ok (.aload_n 3, 1) := by decide +kernel
theorem dL_read_1 : decode cL_read 1 = .ok (.iconst 0, 1) := by decide +kernel
theorem dL_read_2 : decode cL_read 2 = .ok (.aload_n 0, 1) := by decide +kernel
theorem dL_read_3 : decode cL_read 3 = .ok (.iload_n 1, 1) := by decide +kernel
theorem dL_read_4 : decode cL_read 4 = .ok (.iload_n 2, 1) := by decide +kernel
theorem dL_read_5 : decode cL_read 5 = .ok (.invokevirtual 56, 3) := by decide +kernel
theorem dL_read_8 : decode cL_read 8 = .ok (.i2l, 1) := by decide +kernel
theorem dL_read_9 : decode cL_read 9 = .ok (.lastore, 1) := by decide +kernel
theorem dL_read_10 : decode cL_read 10 = .ok (.goto 19, 3) := by decide +kernel
theorem dL_read_13 : decode cL_read 13 = .ok (.astore 4, 2) := by decide +kernel
theorem dL_read_15 : decode cL_read 15 = .ok (.iconst 1, 1) := by decide +kernel
theorem dL_read_16 : decode cL_read 16 = .ok (.ireturn, 1) := by decide +kernel
theorem dL_read_17 : decode cL_read 17 = .ok (.astore 4, 2) := by decide +kernel
theorem dL_read_19 : decode cL_read 19 = .ok (.iconst 2, 1) := by decide +kernel
theorem dL_read_20 : decode cL_read 20 = .ok (.ireturn, 1) := by decide +kernel
theorem dL_read_21 : decode cL_read 21 = .ok (.astore 4, 2) := by decide +kernel
theorem dL_read_23 : decode cL_read 23 = .ok (.iconst 3, 1) := by decide +kernel
theorem dL_read_24 : decode cL_read 24 = .ok (.ireturn, 1) := by decide +kernel
theorem dL_read_25 : decode cL_read 25 = .ok (.astore 4, 2) := by decide +kernel
theorem dL_read_27 : decode cL_read 27 = .ok (.iconst 4, 1) := by decide +kernel
theorem dL_read_28 : decode cL_read 28 = .ok (.ireturn, 1) := by decide +kernel
theorem dL_read_29 : decode cL_read 29 = .ok (.iconst 0, 1) := by decide +kernel
theorem dL_read_30 : decode cL_read 30 = .ok (.ireturn, 1) := by decide +kernel
theorem dL_write_0 : decode cL_write 0 = .ok (.aload 4, 2) := by decide +kernel
theorem dL_write_2 : decode cL_write 2 = .ok (.iconst 0, 1) := by decide +kernel
theorem dL_write_3 : decode cL_write 3 = .ok (.aload_n 0, 1) := by decide +kernel
theorem dL_write_4 : decode cL_write 4 = .ok (.iload_n 1, 1) := by decide +kernel
theorem dL_write_5 : decode cL_write 5 = .ok (.iload_n 2, 1) := by decide +kernel
theorem dL_write_6 : decode cL_write 6 = .ok (.iload_n 3, 1) := by decide +kernel
theorem dL_write_7 : decode cL_write 7 = .ok (.invokevirtual 59, 3) := by decide +kernel
theorem dL_write_10 : decode cL_write 10 = .ok (.i2l, 1) := by decide +kernel
theorem dL_write_11 : decode cL_write 11 = .ok (.lastore, 1) := by decide +kernel
theorem dL_write_12 : decode cL_write 12 = .ok (.goto 19, 3) := by decide +kernel
theorem dL_write_15 : decode cL_write 15 = .ok (.astore 5, 2) := by decide +kernel
theorem dL_write_17 : decode cL_write 17 = .ok (.iconst 1, 1) := by decide +kernel
theorem dL_write_18 : decode cL_write 18 = .ok (.ireturn, 1) := by decide +kernel
theorem dL_write_19 : decode cL_write 19 = .ok (.astore 5, 2) := by decide +kernel
theorem dL_write_21 : decode cL_write 21 = .ok (.iconst 2, 1) := by decide +kernel
theorem dL_write_22 : decode cL_write 22 = .ok (.ireturn, 1) := by decide +kernel
theorem dL_write_23 : decode cL_write 23 = .ok (.astore 5, 2) := by decide +kernel
theorem dL_write_25 : decode cL_write 25 = .ok (.iconst 3, 1) := by decide +kernel
theorem dL_write_26 : decode cL_write 26 = .ok (.ireturn, 1) := by decide +kernel
theorem dL_write_27 : decode cL_write 27 = .ok (.astore 5, 2) := by decide +kernel
theorem dL_write_29 : decode cL_write 29 = .ok (.iconst 4, 1) := by decide +kernel
theorem dL_write_30 : decode cL_write 30 = .ok (.ireturn, 1) := by decide +kernel
theorem dL_write_31 : decode cL_write 31 = .ok (.iconst 0, 1) := by decide +kernel
theorem dL_write_32 : decode cL_write 32 = .ok (.ireturn, 1) := by decide +kernel
theorem dL_frameOf_0 : decode cL_frameOf 0 = .ok (.aload_n 3, 1) := by decide +kernel
theorem dL_frameOf_1 : decode cL_frameOf 1 = .ok (.iconst 0, 1) := by decide +kernel
theorem dL_frameOf_2 : decode cL_frameOf 2 = .ok (.aload_n 0, 1) := by decide +kernel
theorem dL_frameOf_3 : decode cL_frameOf 3 = .ok (.iload_n 1, 1) := by decide +kernel
theorem dL_frameOf_4 : decode cL_frameOf 4 = .ok (.iload_n 2, 1) := by decide +kernel
theorem dL_frameOf_5 : decode cL_frameOf 5 = .ok (.invokevirtual 63, 3) := by decide +kernel
theorem dL_frameOf_8 : decode cL_frameOf 8 = .ok (.i2l, 1) := by decide +kernel
theorem dL_frameOf_9 : decode cL_frameOf 9 = .ok (.lastore, 1) := by decide +kernel
theorem dL_frameOf_10 : decode cL_frameOf 10 = .ok (.goto 7, 3) := by decide +kernel
theorem dL_frameOf_13 : decode cL_frameOf 13 = .ok (.astore 4, 2) := by decide +kernel
theorem dL_frameOf_15 : decode cL_frameOf 15 = .ok (.iconst 1, 1) := by decide +kernel
theorem dL_frameOf_16 : decode cL_frameOf 16 = .ok (.ireturn, 1) := by decide +kernel
theorem dL_frameOf_17 : decode cL_frameOf 17 = .ok (.iconst 0, 1) := by decide +kernel
theorem dL_frameOf_18 : decode cL_frameOf 18 = .ok (.ireturn, 1) := by decide +kernel
theorem dL_slotOf_0 : decode cL_slotOf 0 = .ok (.aload_n 3, 1) := by decide +kernel
theorem dL_slotOf_1 : decode cL_slotOf 1 = .ok (.iconst 0, 1) := by decide +kernel
theorem dL_slotOf_2 : decode cL_slotOf 2 = .ok (.aload_n 0, 1) := by decide +kernel
theorem dL_slotOf_3 : decode cL_slotOf 3 = .ok (.iload_n 1, 1) := by decide +kernel
theorem dL_slotOf_4 : decode cL_slotOf 4 = .ok (.iload_n 2, 1) := by decide +kernel
theorem dL_slotOf_5 : decode cL_slotOf 5 = .ok (.invokevirtual 66, 3) := by decide +kernel
theorem dL_slotOf_8 : decode cL_slotOf 8 = .ok (.i2l, 1) := by decide +kernel
theorem dL_slotOf_9 : decode cL_slotOf 9 = .ok (.lastore, 1) := by decide +kernel
theorem dL_slotOf_10 : decode cL_slotOf 10 = .ok (.goto 7, 3) := by decide +kernel
theorem dL_slotOf_13 : decode cL_slotOf 13 = .ok (.astore 4, 2) := by decide +kernel
theorem dL_slotOf_15 : decode cL_slotOf 15 = .ok (.iconst 1, 1) := by decide +kernel
theorem dL_slotOf_16 : decode cL_slotOf 16 = .ok (.ireturn, 1) := by decide +kernel
theorem dL_slotOf_17 : decode cL_slotOf 17 = .ok (.iconst 0, 1) := by decide +kernel
theorem dL_slotOf_18 : decode cL_slotOf 18 = .ok (.ireturn, 1) := by decide +kernel
theorem dL_sharersOf_0 : decode cL_sharersOf 0 = .ok (.aload_n 3, 1) := by decide +kernel
theorem dL_sharersOf_1 : decode cL_sharersOf 1 = .ok (.iconst 0, 1) := by decide +kernel
theorem dL_sharersOf_2 : decode cL_sharersOf 2 = .ok (.aload_n 0, 1) := by decide +kernel
theorem dL_sharersOf_3 : decode cL_sharersOf 3 = .ok (.iload_n 1, 1) := by decide +kernel
theorem dL_sharersOf_4 : decode cL_sharersOf 4 = .ok (.iload_n 2, 1) := by decide +kernel
theorem dL_sharersOf_5 : decode cL_sharersOf 5 = .ok (.invokevirtual 69, 3) := by decide +kernel
theorem dL_sharersOf_8 : decode cL_sharersOf 8 = .ok (.i2l, 1) := by decide +kernel
theorem dL_sharersOf_9 : decode cL_sharersOf 9 = .ok (.lastore, 1) := by decide +kernel
theorem dL_sharersOf_10 : decode cL_sharersOf 10 = .ok (.goto 7, 3) := by decide +kernel
theorem dL_sharersOf_13 : decode cL_sharersOf 13 = .ok (.astore 4, 2) := by decide +kernel
theorem dL_sharersOf_15 : decode cL_sharersOf 15 = .ok (.iconst 1, 1) := by decide +kernel
theorem dL_sharersOf_16 : decode cL_sharersOf 16 = .ok (.ireturn, 1) := by decide +kernel
theorem dL_sharersOf_17 : decode cL_sharersOf 17 = .ok (.iconst 0, 1) := by decide +kernel
theorem dL_sharersOf_18 : decode cL_sharersOf 18 = .ok (.ireturn, 1) := by decide +kernel
theorem dL_frameState_0 : decode cL_frameState 0 = .ok (.aload_n 2, 1) := by decide +kernel
theorem dL_frameState_1 : decode cL_frameState 1 = .ok (.iconst 0, 1) := by decide +kernel
theorem dL_frameState_2 : decode cL_frameState 2 = .ok (.aload_n 0, 1) := by decide +kernel
theorem dL_frameState_3 : decode cL_frameState 3 = .ok (.iload_n 1, 1) := by decide +kernel
theorem dL_frameState_4 : decode cL_frameState 4 = .ok (.invokevirtual 72, 3) := by decide +kernel
theorem dL_frameState_7 : decode cL_frameState 7 = .ok (.i2l, 1) := by decide +kernel
theorem dL_frameState_8 : decode cL_frameState 8 = .ok (.lastore, 1) := by decide +kernel
theorem dL_frameState_9 : decode cL_frameState 9 = .ok (.goto 6, 3) := by decide +kernel
theorem dL_frameState_12 : decode cL_frameState 12 = .ok (.astore_n 3, 1) := by decide +kernel
theorem dL_frameState_13 : decode cL_frameState 13 = .ok (.iconst 1, 1) := by decide +kernel
theorem dL_frameState_14 : decode cL_frameState 14 = .ok (.ireturn, 1) := by decide +kernel
theorem dL_frameState_15 : decode cL_frameState 15 = .ok (.iconst 0, 1) := by decide +kernel
theorem dL_frameState_16 : decode cL_frameState 16 = .ok (.ireturn, 1) := by decide +kernel
theorem dL_latestUse_0 : decode cL_latestUse 0 = .ok (.aload_n 2, 1) := by decide +kernel
theorem dL_latestUse_1 : decode cL_latestUse 1 = .ok (.iconst 0, 1) := by decide +kernel
theorem dL_latestUse_2 : decode cL_latestUse 2 = .ok (.aload_n 0, 1) := by decide +kernel
theorem dL_latestUse_3 : decode cL_latestUse 3 = .ok (.iload_n 1, 1) := by decide +kernel
theorem dL_latestUse_4 : decode cL_latestUse 4 = .ok (.invokevirtual 75, 3) := by decide +kernel
theorem dL_latestUse_7 : decode cL_latestUse 7 = .ok (.i2l, 1) := by decide +kernel
theorem dL_latestUse_8 : decode cL_latestUse 8 = .ok (.lastore, 1) := by decide +kernel
theorem dL_latestUse_9 : decode cL_latestUse 9 = .ok (.goto 6, 3) := by decide +kernel
theorem dL_latestUse_12 : decode cL_latestUse 12 = .ok (.astore_n 3, 1) := by decide +kernel
theorem dL_latestUse_13 : decode cL_latestUse 13 = .ok (.iconst 1, 1) := by decide +kernel
theorem dL_latestUse_14 : decode cL_latestUse 14 = .ok (.ireturn, 1) := by decide +kernel
theorem dL_latestUse_15 : decode cL_latestUse 15 = .ok (.iconst 0, 1) := by decide +kernel
theorem dL_latestUse_16 : decode cL_latestUse 16 = .ok (.ireturn, 1) := by decide +kernel
theorem dL_isReferenced_0 : decode cL_isReferenced 0 = .ok (.aload_n 2, 1) := by decide +kernel
theorem dL_isReferenced_1 : decode cL_isReferenced 1 = .ok (.iconst 0, 1) := by decide +kernel
theorem dL_isReferenced_2 : decode cL_isReferenced 2 = .ok (.aload_n 0, 1) := by decide +kernel
theorem dL_isReferenced_3 : decode cL_isReferenced 3 = .ok (.iload_n 1, 1) := by decide +kernel
theorem dL_isReferenced_4 : decode cL_isReferenced 4 = .ok (.invokevirtual 78, 3) := by decide +kernel
theorem dL_isReferenced_7 : decode cL_isReferenced 7 = .ok (.ifCond .eq 7, 3) := by decide +kernel
theorem dL_isReferenced_10 : decode cL_isReferenced 10 = .ok (.lconst 1, 1) := by decide +kernel
theorem dL_isReferenced_11 : decode cL_isReferenced 11 = .ok (.goto 4, 3) := by decide +kernel
theorem dL_isReferenced_14 : decode cL_isReferenced 14 = .ok (.lconst 0, 1) := by decide +kernel
theorem dL_isReferenced_15 : decode cL_isReferenced 15 = .ok (.lastore, 1) := by decide +kernel
theorem dL_isReferenced_16 : decode cL_isReferenced 16 = .ok (.goto 6, 3) := by decide +kernel
theorem dL_isReferenced_19 : decode cL_isReferenced 19 = .ok (.astore_n 3, 1) := by decide +kernel
theorem dL_isReferenced_20 : decode cL_isReferenced 20 = .ok (.iconst 1, 1) := by decide +kernel
theorem dL_isReferenced_21 : decode cL_isReferenced 21 = .ok (.ireturn, 1) := by decide +kernel
theorem dL_isReferenced_22 : decode cL_isReferenced 22 = .ok (.iconst 0, 1) := by decide +kernel
theorem dL_isReferenced_23 : decode cL_isReferenced 23 = .ok (.ireturn, 1) := by decide +kernel
theorem dL_workingSet_0 : decode cL_workingSet 0 = .ok (.aload_n 2, 1) := by decide +kernel
theorem dL_workingSet_1 : decode cL_workingSet 1 = .ok (.iconst 0, 1) := by decide +kernel
theorem dL_workingSet_2 : decode cL_workingSet 2 = .ok (.aload_n 0, 1) := by decide +kernel
theorem dL_workingSet_3 : decode cL_workingSet 3 = .ok (.iload_n 1, 1) := by decide +kernel
theorem dL_workingSet_4 : decode cL_workingSet 4 = .ok (.invokevirtual 81, 3) := by decide +kernel
theorem dL_workingSet_7 : decode cL_workingSet 7 = .ok (.i2l, 1) := by decide +kernel
theorem dL_workingSet_8 : decode cL_workingSet 8 = .ok (.lastore, 1) := by decide +kernel
theorem dL_workingSet_9 : decode cL_workingSet 9 = .ok (.goto 6, 3) := by decide +kernel
theorem dL_workingSet_12 : decode cL_workingSet 12 = .ok (.astore_n 3, 1) := by decide +kernel
theorem dL_workingSet_13 : decode cL_workingSet 13 = .ok (.iconst 1, 1) := by decide +kernel
theorem dL_workingSet_14 : decode cL_workingSet 14 = .ok (.ireturn, 1) := by decide +kernel
theorem dL_workingSet_15 : decode cL_workingSet 15 = .ok (.iconst 0, 1) := by decide +kernel
theorem dL_workingSet_16 : decode cL_workingSet 16 = .ok (.ireturn, 1) := by decide +kernel
theorem dL_count_0 : decode cL_count 0 = .ok (.aload_n 2, 1) := by decide +kernel
theorem dL_count_1 : decode cL_count 1 = .ok (.iconst 0, 1) := by decide +kernel
theorem dL_count_2 : decode cL_count 2 = .ok (.aload_n 0, 1) := by decide +kernel
theorem dL_count_3 : decode cL_count 3 = .ok (.iload_n 1, 1) := by decide +kernel
theorem dL_count_4 : decode cL_count 4 = .ok (.invokevirtual 84, 3) := by decide +kernel
theorem dL_count_7 : decode cL_count 7 = .ok (.i2l, 1) := by decide +kernel
theorem dL_count_8 : decode cL_count 8 = .ok (.lastore, 1) := by decide +kernel
theorem dL_count_9 : decode cL_count 9 = .ok (.goto 6, 3) := by decide +kernel
theorem dL_count_12 : decode cL_count 12 = .ok (.astore_n 3, 1) := by decide +kernel
theorem dL_count_13 : decode cL_count 13 = .ok (.iconst 1, 1) := by decide +kernel
theorem dL_count_14 : decode cL_count 14 = .ok (.ireturn, 1) := by decide +kernel
theorem dL_count_15 : decode cL_count 15 = .ok (.iconst 0, 1) := by decide +kernel
theorem dL_count_16 : decode cL_count 16 = .ok (.ireturn, 1) := by decide +kernel
theorem dL_law_0 : decode cL_law 0 = .ok (.new 8, 3) := by decide +kernel
theorem dL_law_3 : decode cL_law 3 = .ok (.dup, 1) := by decide +kernel
theorem dL_law_4 : decode cL_law 4 = .ok (.invokespecial 87, 3) := by decide +kernel
theorem dL_law_7 : decode cL_law 7 = .ok (.astore_n 1, 1) := by decide +kernel
theorem dL_law_8 : decode cL_law 8 = .ok (.new 88, 3) := by decide +kernel
theorem dL_law_11 : decode cL_law 11 = .ok (.dup, 1) := by decide +kernel
theorem dL_law_12 : decode cL_law 12 = .ok (.invokespecial 90, 3) := by decide +kernel
theorem dL_law_15 : decode cL_law 15 = .ok (.astore_n 2, 1) := by decide +kernel
theorem dL_law_16 : decode cL_law 16 = .ok (.iconst 1, 1) := by decide +kernel
theorem dL_law_17 : decode cL_law 17 = .ok (.newarray .long, 2) := by decide +kernel
theorem dL_law_19 : decode cL_law 19 = .ok (.astore_n 3, 1) := by decide +kernel
theorem dL_law_20 : decode cL_law 20 = .ok (.iconst 0, 1) := by decide +kernel
theorem dL_law_21 : decode cL_law 21 = .ok (.istore 4, 2) := by decide +kernel
theorem dL_law_23 : decode cL_law 23 = .ok (.iload 4, 2) := by decide +kernel
theorem dL_law_25 : decode cL_law 25 = .ok (.aload_n 0, 1) := by decide +kernel
theorem dL_law_26 : decode cL_law 26 = .ok (.arraylength, 1) := by decide +kernel
theorem dL_law_27 : decode cL_law 27 = .ok (.iconst 5, 1) := by decide +kernel
theorem dL_law_28 : decode cL_law 28 = .ok (.isub, 1) := by decide +kernel
theorem dL_law_29 : decode cL_law 29 = .ok (.if_icmp .gt 1590, 3) := by decide +kernel
theorem dL_law_32 : decode cL_law 32 = .ok (.aload_n 0, 1) := by decide +kernel
theorem dL_law_33 : decode cL_law 33 = .ok (.iload 4, 2) := by decide +kernel
theorem dL_law_35 : decode cL_law 35 = .ok (.iaload, 1) := by decide +kernel
theorem dL_law_36 : decode cL_law 36 = .ok (.bipush 31, 2) := by decide +kernel
theorem dL_law_38 : decode cL_law 38 = .ok (.iand, 1) := by decide +kernel
theorem dL_law_39 : decode cL_law 39 = .ok (.tableswitch 1574 0 27 #[125, 181, 237, 281, 337, 393, 461, 517, 609, 684, 747, 815, 883, 963, 976, 989, 1002, 1070, 1138, 1206, 1262, 1318, 1381, 1394, 1407, 1463, 1519, 1560], 125) := by decide +kernel
theorem dL_law_164 : decode cL_law 164 = .ok (.aload_n 1, 1) := by decide +kernel
theorem dL_law_165 : decode cL_law 165 = .ok (.aload_n 0, 1) := by decide +kernel
theorem dL_law_166 : decode cL_law 166 = .ok (.iload 4, 2) := by decide +kernel
theorem dL_law_168 : decode cL_law 168 = .ok (.iconst 1, 1) := by decide +kernel
theorem dL_law_169 : decode cL_law 169 = .ok (.iadd, 1) := by decide +kernel
theorem dL_law_170 : decode cL_law 170 = .ok (.iaload, 1) := by decide +kernel
theorem dL_law_171 : decode cL_law 171 = .ok (.aload_n 3, 1) := by decide +kernel
theorem dL_law_172 : decode cL_law 172 = .ok (.invokestatic 91, 3) := by decide +kernel
theorem dL_law_175 : decode cL_law 175 = .ok (.istore 5, 2) := by decide +kernel
theorem dL_law_177 : decode cL_law 177 = .ok (.aload_n 2, 1) := by decide +kernel
theorem dL_law_178 : decode cL_law 178 = .ok (.aload_n 0, 1) := by decide +kernel
theorem dL_law_179 : decode cL_law 179 = .ok (.iload 4, 2) := by decide +kernel
theorem dL_law_181 : decode cL_law 181 = .ok (.iconst 1, 1) := by decide +kernel
theorem dL_law_182 : decode cL_law 182 = .ok (.iadd, 1) := by decide +kernel
theorem dL_law_183 : decode cL_law 183 = .ok (.iaload, 1) := by decide +kernel
theorem dL_law_184 : decode cL_law 184 = .ok (.invokevirtual 96, 3) := by decide +kernel
theorem dL_law_187 : decode cL_law 187 = .ok (.istore 6, 2) := by decide +kernel
theorem dL_law_189 : decode cL_law 189 = .ok (.aload_n 2, 1) := by decide +kernel
theorem dL_law_190 : decode cL_law 190 = .ok (.invokevirtual 97, 3) := by decide +kernel
theorem dL_law_193 : decode cL_law 193 = .ok (.iload 5, 2) := by decide +kernel
theorem dL_law_195 : decode cL_law 195 = .ok (.if_icmp .eq 5, 3) := by decide +kernel
theorem dL_law_198 : decode cL_law 198 = .ok (.iconst 0, 1) := by decide +kernel
theorem dL_law_199 : decode cL_law 199 = .ok (.ireturn, 1) := by decide +kernel
theorem dL_law_200 : decode cL_law 200 = .ok (.iload 5, 2) := by decide +kernel
theorem dL_law_202 : decode cL_law 202 = .ok (.ifCond .ne 15, 3) := by decide +kernel
theorem dL_law_205 : decode cL_law 205 = .ok (.aload_n 3, 1) := by decide +kernel
theorem dL_law_206 : decode cL_law 206 = .ok (.iconst 0, 1) := by decide +kernel
theorem dL_law_207 : decode cL_law 207 = .ok (.laload, 1) := by decide +kernel
theorem dL_law_208 : decode cL_law 208 = .ok (.iload 6, 2) := by decide +kernel
theorem dL_law_210 : decode cL_law 210 = .ok (.i2l, 1) := by decide +kernel
theorem dL_law_211 : decode cL_law 211 = .ok (.lcmp, 1) := by decide +kernel
theorem dL_law_212 : decode cL_law 212 = .ok (.ifCond .eq 5, 3) := by decide +kernel
theorem dL_law_215 : decode cL_law 215 = .ok (.iconst 0, 1) := by decide +kernel
theorem dL_law_216 : decode cL_law 216 = .ok (.ireturn, 1) := by decide +kernel
theorem dL_law_217 : decode cL_law 217 = .ok (.goto 1396, 3) := by decide +kernel
theorem dL_law_220 : decode cL_law 220 = .ok (.aload_n 1, 1) := by decide +kernel
theorem dL_law_221 : decode cL_law 221 = .ok (.aload_n 0, 1) := by decide +kernel
theorem dL_law_222 : decode cL_law 222 = .ok (.iload 4, 2) := by decide +kernel
theorem dL_law_224 : decode cL_law 224 = .ok (.iconst 1, 1) := by decide +kernel
theorem dL_law_225 : decode cL_law 225 = .ok (.iadd, 1) := by decide +kernel
theorem dL_law_226 : decode cL_law 226 = .ok (.iaload, 1) := by decide +kernel
theorem dL_law_227 : decode cL_law 227 = .ok (.aload_n 3, 1) := by decide +kernel
theorem dL_law_228 : decode cL_law 228 = .ok (.invokestatic 100, 3) := by decide +kernel
theorem dL_law_231 : decode cL_law 231 = .ok (.istore 5, 2) := by decide +kernel
theorem dL_law_233 : decode cL_law 233 = .ok (.aload_n 2, 1) := by decide +kernel
theorem dL_law_234 : decode cL_law 234 = .ok (.aload_n 0, 1) := by decide +kernel
theorem dL_law_235 : decode cL_law 235 = .ok (.iload 4, 2) := by decide +kernel
theorem dL_law_237 : decode cL_law 237 = .ok (.iconst 1, 1) := by decide +kernel
theorem dL_law_238 : decode cL_law 238 = .ok (.iadd, 1) := by decide +kernel
theorem dL_law_239 : decode cL_law 239 = .ok (.iaload, 1) := by decide +kernel
theorem dL_law_240 : decode cL_law 240 = .ok (.invokevirtual 102, 3) := by decide +kernel
theorem dL_law_243 : decode cL_law 243 = .ok (.istore 6, 2) := by decide +kernel
theorem dL_law_245 : decode cL_law 245 = .ok (.aload_n 2, 1) := by decide +kernel
theorem dL_law_246 : decode cL_law 246 = .ok (.invokevirtual 97, 3) := by decide +kernel
theorem dL_law_249 : decode cL_law 249 = .ok (.iload 5, 2) := by decide +kernel
theorem dL_law_251 : decode cL_law 251 = .ok (.if_icmp .eq 5, 3) := by decide +kernel
theorem dL_law_254 : decode cL_law 254 = .ok (.iconst 0, 1) := by decide +kernel
theorem dL_law_255 : decode cL_law 255 = .ok (.ireturn, 1) := by decide +kernel
theorem dL_law_256 : decode cL_law 256 = .ok (.iload 5, 2) := by decide +kernel
theorem dL_law_258 : decode cL_law 258 = .ok (.ifCond .ne 15, 3) := by decide +kernel
theorem dL_law_261 : decode cL_law 261 = .ok (.aload_n 3, 1) := by decide +kernel
theorem dL_law_262 : decode cL_law 262 = .ok (.iconst 0, 1) := by decide +kernel
theorem dL_law_263 : decode cL_law 263 = .ok (.laload, 1) := by decide +kernel
theorem dL_law_264 : decode cL_law 264 = .ok (.iload 6, 2) := by decide +kernel
theorem dL_law_266 : decode cL_law 266 = .ok (.i2l, 1) := by decide +kernel
theorem dL_law_267 : decode cL_law 267 = .ok (.lcmp, 1) := by decide +kernel
theorem dL_law_268 : decode cL_law 268 = .ok (.ifCond .eq 5, 3) := by decide +kernel
theorem dL_law_271 : decode cL_law 271 = .ok (.iconst 0, 1) := by decide +kernel
theorem dL_law_272 : decode cL_law 272 = .ok (.ireturn, 1) := by decide +kernel
theorem dL_law_273 : decode cL_law 273 = .ok (.goto 1340, 3) := by decide +kernel
theorem dL_law_276 : decode cL_law 276 = .ok (.aload_n 1, 1) := by decide +kernel
theorem dL_law_277 : decode cL_law 277 = .ok (.aload_n 3, 1) := by decide +kernel
theorem dL_law_278 : decode cL_law 278 = .ok (.invokestatic 103, 3) := by decide +kernel
theorem dL_law_281 : decode cL_law 281 = .ok (.istore 5, 2) := by decide +kernel
theorem dL_law_283 : decode cL_law 283 = .ok (.aload_n 2, 1) := by decide +kernel
theorem dL_law_284 : decode cL_law 284 = .ok (.invokevirtual 106, 3) := by decide +kernel
theorem dL_law_287 : decode cL_law 287 = .ok (.istore 6, 2) := by decide +kernel
theorem dL_law_289 : decode cL_law 289 = .ok (.aload_n 2, 1) := by decide +kernel
theorem dL_law_290 : decode cL_law 290 = .ok (.invokevirtual 97, 3) := by decide +kernel
theorem dL_law_293 : decode cL_law 293 = .ok (.iload 5, 2) := by decide +kernel
theorem dL_law_295 : decode cL_law 295 = .ok (.if_icmp .eq 5, 3) := by decide +kernel
theorem dL_law_298 : decode cL_law 298 = .ok (.iconst 0, 1) := by decide +kernel
theorem dL_law_299 : decode cL_law 299 = .ok (.ireturn, 1) := by decide +kernel
theorem dL_law_300 : decode cL_law 300 = .ok (.iload 5, 2) := by decide +kernel
theorem dL_law_302 : decode cL_law 302 = .ok (.ifCond .ne 15, 3) := by decide +kernel
theorem dL_law_305 : decode cL_law 305 = .ok (.aload_n 3, 1) := by decide +kernel
theorem dL_law_306 : decode cL_law 306 = .ok (.iconst 0, 1) := by decide +kernel
theorem dL_law_307 : decode cL_law 307 = .ok (.laload, 1) := by decide +kernel
theorem dL_law_308 : decode cL_law 308 = .ok (.iload 6, 2) := by decide +kernel
theorem dL_law_310 : decode cL_law 310 = .ok (.i2l, 1) := by decide +kernel
theorem dL_law_311 : decode cL_law 311 = .ok (.lcmp, 1) := by decide +kernel
theorem dL_law_312 : decode cL_law 312 = .ok (.ifCond .eq 5, 3) := by decide +kernel
theorem dL_law_315 : decode cL_law 315 = .ok (.iconst 0, 1) := by decide +kernel
theorem dL_law_316 : decode cL_law 316 = .ok (.ireturn, 1) := by decide +kernel
theorem dL_law_317 : decode cL_law 317 = .ok (.goto 1296, 3) := by decide +kernel
theorem dL_law_320 : decode cL_law 320 = .ok (.aload_n 1, 1) := by decide +kernel
theorem dL_law_321 : decode cL_law 321 = .ok (.aload_n 0, 1) := by decide +kernel
theorem dL_law_322 : decode cL_law 322 = .ok (.iload 4, 2) := by decide +kernel
theorem dL_law_324 : decode cL_law 324 = .ok (.iconst 1, 1) := by decide +kernel
theorem dL_law_325 : decode cL_law 325 = .ok (.iadd, 1) := by decide +kernel
theorem dL_law_326 : decode cL_law 326 = .ok (.iaload, 1) := by decide +kernel
theorem dL_law_327 : decode cL_law 327 = .ok (.aload_n 3, 1) := by decide +kernel
theorem dL_law_328 : decode cL_law 328 = .ok (.invokestatic 107, 3) := by decide +kernel
theorem dL_law_331 : decode cL_law 331 = .ok (.istore 5, 2) := by decide +kernel
theorem dL_law_333 : decode cL_law 333 = .ok (.aload_n 2, 1) := by decide +kernel
theorem dL_law_334 : decode cL_law 334 = .ok (.aload_n 0, 1) := by decide +kernel
theorem dL_law_335 : decode cL_law 335 = .ok (.iload 4, 2) := by decide +kernel
theorem dL_law_337 : decode cL_law 337 = .ok (.iconst 1, 1) := by decide +kernel
theorem dL_law_338 : decode cL_law 338 = .ok (.iadd, 1) := by decide +kernel
theorem dL_law_339 : decode cL_law 339 = .ok (.iaload, 1) := by decide +kernel
theorem dL_law_340 : decode cL_law 340 = .ok (.invokevirtual 109, 3) := by decide +kernel
theorem dL_law_343 : decode cL_law 343 = .ok (.istore 6, 2) := by decide +kernel
theorem dL_law_345 : decode cL_law 345 = .ok (.aload_n 2, 1) := by decide +kernel
theorem dL_law_346 : decode cL_law 346 = .ok (.invokevirtual 97, 3) := by decide +kernel
theorem dL_law_349 : decode cL_law 349 = .ok (.iload 5, 2) := by decide +kernel
theorem dL_law_351 : decode cL_law 351 = .ok (.if_icmp .eq 5, 3) := by decide +kernel
theorem dL_law_354 : decode cL_law 354 = .ok (.iconst 0, 1) := by decide +kernel
theorem dL_law_355 : decode cL_law 355 = .ok (.ireturn, 1) := by decide +kernel
theorem dL_law_356 : decode cL_law 356 = .ok (.iload 5, 2) := by decide +kernel
theorem dL_law_358 : decode cL_law 358 = .ok (.ifCond .ne 15, 3) := by decide +kernel
theorem dL_law_361 : decode cL_law 361 = .ok (.aload_n 3, 1) := by decide +kernel
theorem dL_law_362 : decode cL_law 362 = .ok (.iconst 0, 1) := by decide +kernel
theorem dL_law_363 : decode cL_law 363 = .ok (.laload, 1) := by decide +kernel
theorem dL_law_364 : decode cL_law 364 = .ok (.iload 6, 2) := by decide +kernel
theorem dL_law_366 : decode cL_law 366 = .ok (.i2l, 1) := by decide +kernel
theorem dL_law_367 : decode cL_law 367 = .ok (.lcmp, 1) := by decide +kernel
theorem dL_law_368 : decode cL_law 368 = .ok (.ifCond .eq 5, 3) := by decide +kernel
theorem dL_law_371 : decode cL_law 371 = .ok (.iconst 0, 1) := by decide +kernel
theorem dL_law_372 : decode cL_law 372 = .ok (.ireturn, 1) := by decide +kernel
theorem dL_law_373 : decode cL_law 373 = .ok (.goto 1240, 3) := by decide +kernel
theorem dL_law_376 : decode cL_law 376 = .ok (.aload_n 1, 1) := by decide +kernel
theorem dL_law_377 : decode cL_law 377 = .ok (.aload_n 0, 1) := by decide +kernel
theorem dL_law_378 : decode cL_law 378 = .ok (.iload 4, 2) := by decide +kernel
theorem dL_law_380 : decode cL_law 380 = .ok (.iconst 1, 1) := by decide +kernel
theorem dL_law_381 : decode cL_law 381 = .ok (.iadd, 1) := by decide +kernel
theorem dL_law_382 : decode cL_law 382 = .ok (.iaload, 1) := by decide +kernel
theorem dL_law_383 : decode cL_law 383 = .ok (.aload_n 3, 1) := by decide +kernel
theorem dL_law_384 : decode cL_law 384 = .ok (.invokestatic 110, 3) := by decide +kernel
theorem dL_law_387 : decode cL_law 387 = .ok (.istore 5, 2) := by decide +kernel
theorem dL_law_389 : decode cL_law 389 = .ok (.aload_n 2, 1) := by decide +kernel
theorem dL_law_390 : decode cL_law 390 = .ok (.aload_n 0, 1) := by decide +kernel
theorem dL_law_391 : decode cL_law 391 = .ok (.iload 4, 2) := by decide +kernel
theorem dL_law_393 : decode cL_law 393 = .ok (.iconst 1, 1) := by decide +kernel
theorem dL_law_394 : decode cL_law 394 = .ok (.iadd, 1) := by decide +kernel
theorem dL_law_395 : decode cL_law 395 = .ok (.iaload, 1) := by decide +kernel
theorem dL_law_396 : decode cL_law 396 = .ok (.invokevirtual 112, 3) := by decide +kernel
theorem dL_law_399 : decode cL_law 399 = .ok (.istore 6, 2) := by decide +kernel
theorem dL_law_401 : decode cL_law 401 = .ok (.aload_n 2, 1) := by decide +kernel
theorem dL_law_402 : decode cL_law 402 = .ok (.invokevirtual 97, 3) := by decide +kernel
theorem dL_law_405 : decode cL_law 405 = .ok (.iload 5, 2) := by decide +kernel
theorem dL_law_407 : decode cL_law 407 = .ok (.if_icmp .eq 5, 3) := by decide +kernel
theorem dL_law_410 : decode cL_law 410 = .ok (.iconst 0, 1) := by decide +kernel
theorem dL_law_411 : decode cL_law 411 = .ok (.ireturn, 1) := by decide +kernel
theorem dL_law_412 : decode cL_law 412 = .ok (.iload 5, 2) := by decide +kernel
theorem dL_law_414 : decode cL_law 414 = .ok (.ifCond .ne 15, 3) := by decide +kernel
theorem dL_law_417 : decode cL_law 417 = .ok (.aload_n 3, 1) := by decide +kernel
theorem dL_law_418 : decode cL_law 418 = .ok (.iconst 0, 1) := by decide +kernel
theorem dL_law_419 : decode cL_law 419 = .ok (.laload, 1) := by decide +kernel
theorem dL_law_420 : decode cL_law 420 = .ok (.iload 6, 2) := by decide +kernel
theorem dL_law_422 : decode cL_law 422 = .ok (.i2l, 1) := by decide +kernel
theorem dL_law_423 : decode cL_law 423 = .ok (.lcmp, 1) := by decide +kernel
theorem dL_law_424 : decode cL_law 424 = .ok (.ifCond .eq 5, 3) := by decide +kernel
theorem dL_law_427 : decode cL_law 427 = .ok (.iconst 0, 1) := by decide +kernel
theorem dL_law_428 : decode cL_law 428 = .ok (.ireturn, 1) := by decide +kernel
theorem dL_law_429 : decode cL_law 429 = .ok (.goto 1184, 3) := by decide +kernel
theorem dL_law_432 : decode cL_law 432 = .ok (.aload_n 1, 1) := by decide +kernel
theorem dL_law_433 : decode cL_law 433 = .ok (.aload_n 0, 1) := by decide +kernel
theorem dL_law_434 : decode cL_law 434 = .ok (.iload 4, 2) := by decide +kernel
theorem dL_law_436 : decode cL_law 436 = .ok (.iconst 1, 1) := by decide +kernel
theorem dL_law_437 : decode cL_law 437 = .ok (.iadd, 1) := by decide +kernel
theorem dL_law_438 : decode cL_law 438 = .ok (.iaload, 1) := by decide +kernel
theorem dL_law_439 : decode cL_law 439 = .ok (.aload_n 0, 1) := by decide +kernel
theorem dL_law_440 : decode cL_law 440 = .ok (.iload 4, 2) := by decide +kernel
theorem dL_law_442 : decode cL_law 442 = .ok (.iconst 2, 1) := by decide +kernel
theorem dL_law_443 : decode cL_law 443 = .ok (.iadd, 1) := by decide +kernel
theorem dL_law_444 : decode cL_law 444 = .ok (.iaload, 1) := by decide +kernel
theorem dL_law_445 : decode cL_law 445 = .ok (.aload_n 3, 1) := by decide +kernel
theorem dL_law_446 : decode cL_law 446 = .ok (.invokestatic 113, 3) := by decide +kernel
theorem dL_law_449 : decode cL_law 449 = .ok (.istore 5, 2) := by decide +kernel
theorem dL_law_451 : decode cL_law 451 = .ok (.aload_n 2, 1) := by decide +kernel
theorem dL_law_452 : decode cL_law 452 = .ok (.aload_n 0, 1) := by decide +kernel
theorem dL_law_453 : decode cL_law 453 = .ok (.iload 4, 2) := by decide +kernel
theorem dL_law_455 : decode cL_law 455 = .ok (.iconst 1, 1) := by decide +kernel
theorem dL_law_456 : decode cL_law 456 = .ok (.iadd, 1) := by decide +kernel
theorem dL_law_457 : decode cL_law 457 = .ok (.iaload, 1) := by decide +kernel
theorem dL_law_458 : decode cL_law 458 = .ok (.aload_n 0, 1) := by decide +kernel
theorem dL_law_459 : decode cL_law 459 = .ok (.iload 4, 2) := by decide +kernel
theorem dL_law_461 : decode cL_law 461 = .ok (.iconst 2, 1) := by decide +kernel
theorem dL_law_462 : decode cL_law 462 = .ok (.iadd, 1) := by decide +kernel
theorem dL_law_463 : decode cL_law 463 = .ok (.iaload, 1) := by decide +kernel
theorem dL_law_464 : decode cL_law 464 = .ok (.invokevirtual 116, 3) := by decide +kernel
theorem dL_law_467 : decode cL_law 467 = .ok (.istore 6, 2) := by decide +kernel
theorem dL_law_469 : decode cL_law 469 = .ok (.aload_n 2, 1) := by decide +kernel
theorem dL_law_470 : decode cL_law 470 = .ok (.invokevirtual 97, 3) := by decide +kernel
theorem dL_law_473 : decode cL_law 473 = .ok (.iload 5, 2) := by decide +kernel
theorem dL_law_475 : decode cL_law 475 = .ok (.if_icmp .eq 5, 3) := by decide +kernel
theorem dL_law_478 : decode cL_law 478 = .ok (.iconst 0, 1) := by decide +kernel
theorem dL_law_479 : decode cL_law 479 = .ok (.ireturn, 1) := by decide +kernel
theorem dL_law_480 : decode cL_law 480 = .ok (.iload 5, 2) := by decide +kernel
theorem dL_law_482 : decode cL_law 482 = .ok (.ifCond .ne 15, 3) := by decide +kernel
theorem dL_law_485 : decode cL_law 485 = .ok (.aload_n 3, 1) := by decide +kernel
theorem dL_law_486 : decode cL_law 486 = .ok (.iconst 0, 1) := by decide +kernel
theorem dL_law_487 : decode cL_law 487 = .ok (.laload, 1) := by decide +kernel
theorem dL_law_488 : decode cL_law 488 = .ok (.iload 6, 2) := by decide +kernel
theorem dL_law_490 : decode cL_law 490 = .ok (.i2l, 1) := by decide +kernel
theorem dL_law_491 : decode cL_law 491 = .ok (.lcmp, 1) := by decide +kernel
theorem dL_law_492 : decode cL_law 492 = .ok (.ifCond .eq 5, 3) := by decide +kernel
theorem dL_law_495 : decode cL_law 495 = .ok (.iconst 0, 1) := by decide +kernel
theorem dL_law_496 : decode cL_law 496 = .ok (.ireturn, 1) := by decide +kernel
theorem dL_law_497 : decode cL_law 497 = .ok (.goto 1116, 3) := by decide +kernel
theorem dL_law_500 : decode cL_law 500 = .ok (.aload_n 1, 1) := by decide +kernel
theorem dL_law_501 : decode cL_law 501 = .ok (.aload_n 0, 1) := by decide +kernel
theorem dL_law_502 : decode cL_law 502 = .ok (.iload 4, 2) := by decide +kernel
theorem dL_law_504 : decode cL_law 504 = .ok (.iconst 1, 1) := by decide +kernel
theorem dL_law_505 : decode cL_law 505 = .ok (.iadd, 1) := by decide +kernel
theorem dL_law_506 : decode cL_law 506 = .ok (.iaload, 1) := by decide +kernel
theorem dL_law_507 : decode cL_law 507 = .ok (.aload_n 3, 1) := by decide +kernel
theorem dL_law_508 : decode cL_law 508 = .ok (.invokestatic 117, 3) := by decide +kernel
theorem dL_law_511 : decode cL_law 511 = .ok (.istore 5, 2) := by decide +kernel
theorem dL_law_513 : decode cL_law 513 = .ok (.aload_n 2, 1) := by decide +kernel
theorem dL_law_514 : decode cL_law 514 = .ok (.aload_n 0, 1) := by decide +kernel
theorem dL_law_515 : decode cL_law 515 = .ok (.iload 4, 2) := by decide +kernel
theorem dL_law_517 : decode cL_law 517 = .ok (.iconst 1, 1) := by decide +kernel
theorem dL_law_518 : decode cL_law 518 = .ok (.iadd, 1) := by decide +kernel
theorem dL_law_519 : decode cL_law 519 = .ok (.iaload, 1) := by decide +kernel
theorem dL_law_520 : decode cL_law 520 = .ok (.invokevirtual 119, 3) := by decide +kernel
theorem dL_law_523 : decode cL_law 523 = .ok (.istore 6, 2) := by decide +kernel
theorem dL_law_525 : decode cL_law 525 = .ok (.aload_n 2, 1) := by decide +kernel
theorem dL_law_526 : decode cL_law 526 = .ok (.invokevirtual 97, 3) := by decide +kernel
theorem dL_law_529 : decode cL_law 529 = .ok (.iload 5, 2) := by decide +kernel
theorem dL_law_531 : decode cL_law 531 = .ok (.if_icmp .eq 5, 3) := by decide +kernel
theorem dL_law_534 : decode cL_law 534 = .ok (.iconst 0, 1) := by decide +kernel
theorem dL_law_535 : decode cL_law 535 = .ok (.ireturn, 1) := by decide +kernel
theorem dL_law_536 : decode cL_law 536 = .ok (.iload 5, 2) := by decide +kernel
theorem dL_law_538 : decode cL_law 538 = .ok (.ifCond .ne 15, 3) := by decide +kernel
theorem dL_law_541 : decode cL_law 541 = .ok (.aload_n 3, 1) := by decide +kernel
theorem dL_law_542 : decode cL_law 542 = .ok (.iconst 0, 1) := by decide +kernel
theorem dL_law_543 : decode cL_law 543 = .ok (.laload, 1) := by decide +kernel
theorem dL_law_544 : decode cL_law 544 = .ok (.iload 6, 2) := by decide +kernel
theorem dL_law_546 : decode cL_law 546 = .ok (.i2l, 1) := by decide +kernel
theorem dL_law_547 : decode cL_law 547 = .ok (.lcmp, 1) := by decide +kernel
theorem dL_law_548 : decode cL_law 548 = .ok (.ifCond .eq 5, 3) := by decide +kernel
theorem dL_law_551 : decode cL_law 551 = .ok (.iconst 0, 1) := by decide +kernel
theorem dL_law_552 : decode cL_law 552 = .ok (.ireturn, 1) := by decide +kernel
theorem dL_law_553 : decode cL_law 553 = .ok (.goto 1060, 3) := by decide +kernel
theorem dL_law_556 : decode cL_law 556 = .ok (.aload_n 1, 1) := by decide +kernel
theorem dL_law_557 : decode cL_law 557 = .ok (.aload_n 0, 1) := by decide +kernel
theorem dL_law_558 : decode cL_law 558 = .ok (.iload 4, 2) := by decide +kernel
theorem dL_law_560 : decode cL_law 560 = .ok (.iconst 1, 1) := by decide +kernel
theorem dL_law_561 : decode cL_law 561 = .ok (.iadd, 1) := by decide +kernel
theorem dL_law_562 : decode cL_law 562 = .ok (.iaload, 1) := by decide +kernel
theorem dL_law_563 : decode cL_law 563 = .ok (.aload_n 0, 1) := by decide +kernel
theorem dL_law_564 : decode cL_law 564 = .ok (.iload 4, 2) := by decide +kernel
theorem dL_law_566 : decode cL_law 566 = .ok (.iconst 2, 1) := by decide +kernel
theorem dL_law_567 : decode cL_law 567 = .ok (.iadd, 1) := by decide +kernel
theorem dL_law_568 : decode cL_law 568 = .ok (.iaload, 1) := by decide +kernel
theorem dL_law_569 : decode cL_law 569 = .ok (.aload_n 0, 1) := by decide +kernel
theorem dL_law_570 : decode cL_law 570 = .ok (.iload 4, 2) := by decide +kernel
theorem dL_law_572 : decode cL_law 572 = .ok (.iconst 3, 1) := by decide +kernel
theorem dL_law_573 : decode cL_law 573 = .ok (.iadd, 1) := by decide +kernel
theorem dL_law_574 : decode cL_law 574 = .ok (.iaload, 1) := by decide +kernel
theorem dL_law_575 : decode cL_law 575 = .ok (.aload_n 0, 1) := by decide +kernel
theorem dL_law_576 : decode cL_law 576 = .ok (.iload 4, 2) := by decide +kernel
theorem dL_law_578 : decode cL_law 578 = .ok (.iconst 4, 1) := by decide +kernel
theorem dL_law_579 : decode cL_law 579 = .ok (.iadd, 1) := by decide +kernel
theorem dL_law_580 : decode cL_law 580 = .ok (.iaload, 1) := by decide +kernel
theorem dL_law_581 : decode cL_law 581 = .ok (.aload_n 3, 1) := by decide +kernel
theorem dL_law_582 : decode cL_law 582 = .ok (.invokestatic 120, 3) := by decide +kernel
theorem dL_law_585 : decode cL_law 585 = .ok (.istore 5, 2) := by decide +kernel
theorem dL_law_587 : decode cL_law 587 = .ok (.aload_n 2, 1) := by decide +kernel
theorem dL_law_588 : decode cL_law 588 = .ok (.aload_n 0, 1) := by decide +kernel
theorem dL_law_589 : decode cL_law 589 = .ok (.iload 4, 2) := by decide +kernel
theorem dL_law_591 : decode cL_law 591 = .ok (.iconst 1, 1) := by decide +kernel
theorem dL_law_592 : decode cL_law 592 = .ok (.iadd, 1) := by decide +kernel
theorem dL_law_593 : decode cL_law 593 = .ok (.iaload, 1) := by decide +kernel
theorem dL_law_594 : decode cL_law 594 = .ok (.aload_n 0, 1) := by decide +kernel
theorem dL_law_595 : decode cL_law 595 = .ok (.iload 4, 2) := by decide +kernel
theorem dL_law_597 : decode cL_law 597 = .ok (.iconst 2, 1) := by decide +kernel
theorem dL_law_598 : decode cL_law 598 = .ok (.iadd, 1) := by decide +kernel
theorem dL_law_599 : decode cL_law 599 = .ok (.iaload, 1) := by decide +kernel
theorem dL_law_600 : decode cL_law 600 = .ok (.aload_n 0, 1) := by decide +kernel
theorem dL_law_601 : decode cL_law 601 = .ok (.iload 4, 2) := by decide +kernel
theorem dL_law_603 : decode cL_law 603 = .ok (.iconst 3, 1) := by decide +kernel
theorem dL_law_604 : decode cL_law 604 = .ok (.iadd, 1) := by decide +kernel
theorem dL_law_605 : decode cL_law 605 = .ok (.iaload, 1) := by decide +kernel
theorem dL_law_606 : decode cL_law 606 = .ok (.aload_n 0, 1) := by decide +kernel
theorem dL_law_607 : decode cL_law 607 = .ok (.iload 4, 2) := by decide +kernel
theorem dL_law_609 : decode cL_law 609 = .ok (.iconst 4, 1) := by decide +kernel
theorem dL_law_610 : decode cL_law 610 = .ok (.iadd, 1) := by decide +kernel
theorem dL_law_611 : decode cL_law 611 = .ok (.iaload, 1) := by decide +kernel
theorem dL_law_612 : decode cL_law 612 = .ok (.invokevirtual 123, 3) := by decide +kernel
theorem dL_law_615 : decode cL_law 615 = .ok (.istore 6, 2) := by decide +kernel
theorem dL_law_617 : decode cL_law 617 = .ok (.aload_n 2, 1) := by decide +kernel
theorem dL_law_618 : decode cL_law 618 = .ok (.invokevirtual 97, 3) := by decide +kernel
theorem dL_law_621 : decode cL_law 621 = .ok (.iload 5, 2) := by decide +kernel
theorem dL_law_623 : decode cL_law 623 = .ok (.if_icmp .eq 5, 3) := by decide +kernel
theorem dL_law_626 : decode cL_law 626 = .ok (.iconst 0, 1) := by decide +kernel
theorem dL_law_627 : decode cL_law 627 = .ok (.ireturn, 1) := by decide +kernel
theorem dL_law_628 : decode cL_law 628 = .ok (.iload 5, 2) := by decide +kernel
theorem dL_law_630 : decode cL_law 630 = .ok (.ifCond .ne 15, 3) := by decide +kernel
theorem dL_law_633 : decode cL_law 633 = .ok (.aload_n 3, 1) := by decide +kernel
theorem dL_law_634 : decode cL_law 634 = .ok (.iconst 0, 1) := by decide +kernel
theorem dL_law_635 : decode cL_law 635 = .ok (.laload, 1) := by decide +kernel
theorem dL_law_636 : decode cL_law 636 = .ok (.iload 6, 2) := by decide +kernel
theorem dL_law_638 : decode cL_law 638 = .ok (.i2l, 1) := by decide +kernel
theorem dL_law_639 : decode cL_law 639 = .ok (.lcmp, 1) := by decide +kernel
theorem dL_law_640 : decode cL_law 640 = .ok (.ifCond .eq 5, 3) := by decide +kernel
theorem dL_law_643 : decode cL_law 643 = .ok (.iconst 0, 1) := by decide +kernel
theorem dL_law_644 : decode cL_law 644 = .ok (.ireturn, 1) := by decide +kernel
theorem dL_law_645 : decode cL_law 645 = .ok (.goto 968, 3) := by decide +kernel
theorem dL_law_648 : decode cL_law 648 = .ok (.aload_n 1, 1) := by decide +kernel
theorem dL_law_649 : decode cL_law 649 = .ok (.aload_n 0, 1) := by decide +kernel
theorem dL_law_650 : decode cL_law 650 = .ok (.iload 4, 2) := by decide +kernel
theorem dL_law_652 : decode cL_law 652 = .ok (.iconst 1, 1) := by decide +kernel
theorem dL_law_653 : decode cL_law 653 = .ok (.iadd, 1) := by decide +kernel
theorem dL_law_654 : decode cL_law 654 = .ok (.iaload, 1) := by decide +kernel
theorem dL_law_655 : decode cL_law 655 = .ok (.aload_n 0, 1) := by decide +kernel
theorem dL_law_656 : decode cL_law 656 = .ok (.iload 4, 2) := by decide +kernel
theorem dL_law_658 : decode cL_law 658 = .ok (.iconst 2, 1) := by decide +kernel
theorem dL_law_659 : decode cL_law 659 = .ok (.iadd, 1) := by decide +kernel
theorem dL_law_660 : decode cL_law 660 = .ok (.iaload, 1) := by decide +kernel
theorem dL_law_661 : decode cL_law 661 = .ok (.aload_n 3, 1) := by decide +kernel
theorem dL_law_662 : decode cL_law 662 = .ok (.invokestatic 124, 3) := by decide +kernel
theorem dL_law_665 : decode cL_law 665 = .ok (.istore 5, 2) := by decide +kernel
theorem dL_law_667 : decode cL_law 667 = .ok (.aload_n 2, 1) := by decide +kernel
theorem dL_law_668 : decode cL_law 668 = .ok (.aload_n 0, 1) := by decide +kernel
theorem dL_law_669 : decode cL_law 669 = .ok (.iload 4, 2) := by decide +kernel
theorem dL_law_671 : decode cL_law 671 = .ok (.iconst 1, 1) := by decide +kernel
theorem dL_law_672 : decode cL_law 672 = .ok (.iadd, 1) := by decide +kernel
theorem dL_law_673 : decode cL_law 673 = .ok (.iaload, 1) := by decide +kernel
theorem dL_law_674 : decode cL_law 674 = .ok (.aload_n 0, 1) := by decide +kernel
theorem dL_law_675 : decode cL_law 675 = .ok (.iload 4, 2) := by decide +kernel
theorem dL_law_677 : decode cL_law 677 = .ok (.iconst 2, 1) := by decide +kernel
theorem dL_law_678 : decode cL_law 678 = .ok (.iadd, 1) := by decide +kernel
theorem dL_law_679 : decode cL_law 679 = .ok (.iaload, 1) := by decide +kernel
theorem dL_law_680 : decode cL_law 680 = .ok (.invokevirtual 126, 3) := by decide +kernel
theorem dL_law_683 : decode cL_law 683 = .ok (.istore 6, 2) := by decide +kernel
theorem dL_law_685 : decode cL_law 685 = .ok (.aload_n 2, 1) := by decide +kernel
theorem dL_law_686 : decode cL_law 686 = .ok (.invokevirtual 97, 3) := by decide +kernel
theorem dL_law_689 : decode cL_law 689 = .ok (.iload 5, 2) := by decide +kernel
theorem dL_law_691 : decode cL_law 691 = .ok (.if_icmp .eq 5, 3) := by decide +kernel
theorem dL_law_694 : decode cL_law 694 = .ok (.iconst 0, 1) := by decide +kernel
theorem dL_law_695 : decode cL_law 695 = .ok (.ireturn, 1) := by decide +kernel
theorem dL_law_696 : decode cL_law 696 = .ok (.iload 5, 2) := by decide +kernel
theorem dL_law_698 : decode cL_law 698 = .ok (.ifCond .ne 22, 3) := by decide +kernel
theorem dL_law_701 : decode cL_law 701 = .ok (.aload_n 3, 1) := by decide +kernel
theorem dL_law_702 : decode cL_law 702 = .ok (.iconst 0, 1) := by decide +kernel
theorem dL_law_703 : decode cL_law 703 = .ok (.laload, 1) := by decide +kernel
theorem dL_law_704 : decode cL_law 704 = .ok (.iload 6, 2) := by decide +kernel
theorem dL_law_706 : decode cL_law 706 = .ok (.ifCond .eq 7, 3) := by decide +kernel
theorem dL_law_709 : decode cL_law 709 = .ok (.lconst 1, 1) := by decide +kernel
theorem dL_law_710 : decode cL_law 710 = .ok (.goto 4, 3) := by decide +kernel
theorem dL_law_713 : decode cL_law 713 = .ok (.lconst 0, 1) := by decide +kernel
theorem dL_law_714 : decode cL_law 714 = .ok (.lcmp, 1) := by decide +kernel
theorem dL_law_715 : decode cL_law 715 = .ok (.ifCond .eq 5, 3) := by decide +kernel
theorem dL_law_718 : decode cL_law 718 = .ok (.iconst 0, 1) := by decide +kernel
theorem dL_law_719 : decode cL_law 719 = .ok (.ireturn, 1) := by decide +kernel
theorem dL_law_720 : decode cL_law 720 = .ok (.goto 893, 3) := by decide +kernel
theorem dL_law_723 : decode cL_law 723 = .ok (.aload_n 1, 1) := by decide +kernel
theorem dL_law_724 : decode cL_law 724 = .ok (.aload_n 0, 1) := by decide +kernel
theorem dL_law_725 : decode cL_law 725 = .ok (.iload 4, 2) := by decide +kernel
theorem dL_law_727 : decode cL_law 727 = .ok (.iconst 1, 1) := by decide +kernel
theorem dL_law_728 : decode cL_law 728 = .ok (.iadd, 1) := by decide +kernel
theorem dL_law_729 : decode cL_law 729 = .ok (.iaload, 1) := by decide +kernel
theorem dL_law_730 : decode cL_law 730 = .ok (.aload_n 3, 1) := by decide +kernel
theorem dL_law_731 : decode cL_law 731 = .ok (.invokestatic 127, 3) := by decide +kernel
theorem dL_law_734 : decode cL_law 734 = .ok (.istore 5, 2) := by decide +kernel
theorem dL_law_736 : decode cL_law 736 = .ok (.aload_n 2, 1) := by decide +kernel
theorem dL_law_737 : decode cL_law 737 = .ok (.aload_n 0, 1) := by decide +kernel
theorem dL_law_738 : decode cL_law 738 = .ok (.iload 4, 2) := by decide +kernel
theorem dL_law_740 : decode cL_law 740 = .ok (.iconst 1, 1) := by decide +kernel
theorem dL_law_741 : decode cL_law 741 = .ok (.iadd, 1) := by decide +kernel
theorem dL_law_742 : decode cL_law 742 = .ok (.iaload, 1) := by decide +kernel
theorem dL_law_743 : decode cL_law 743 = .ok (.invokevirtual 129, 3) := by decide +kernel
theorem dL_law_746 : decode cL_law 746 = .ok (.istore 6, 2) := by decide +kernel
theorem dL_law_748 : decode cL_law 748 = .ok (.aload_n 2, 1) := by decide +kernel
theorem dL_law_749 : decode cL_law 749 = .ok (.invokevirtual 97, 3) := by decide +kernel
theorem dL_law_752 : decode cL_law 752 = .ok (.iload 5, 2) := by decide +kernel
theorem dL_law_754 : decode cL_law 754 = .ok (.if_icmp .eq 5, 3) := by decide +kernel
theorem dL_law_757 : decode cL_law 757 = .ok (.iconst 0, 1) := by decide +kernel
theorem dL_law_758 : decode cL_law 758 = .ok (.ireturn, 1) := by decide +kernel
theorem dL_law_759 : decode cL_law 759 = .ok (.iload 5, 2) := by decide +kernel
theorem dL_law_761 : decode cL_law 761 = .ok (.ifCond .ne 22, 3) := by decide +kernel
theorem dL_law_764 : decode cL_law 764 = .ok (.aload_n 3, 1) := by decide +kernel
theorem dL_law_765 : decode cL_law 765 = .ok (.iconst 0, 1) := by decide +kernel
theorem dL_law_766 : decode cL_law 766 = .ok (.laload, 1) := by decide +kernel
theorem dL_law_767 : decode cL_law 767 = .ok (.iload 6, 2) := by decide +kernel
theorem dL_law_769 : decode cL_law 769 = .ok (.ifCond .eq 7, 3) := by decide +kernel
theorem dL_law_772 : decode cL_law 772 = .ok (.lconst 1, 1) := by decide +kernel
theorem dL_law_773 : decode cL_law 773 = .ok (.goto 4, 3) := by decide +kernel
theorem dL_law_776 : decode cL_law 776 = .ok (.lconst 0, 1) := by decide +kernel
theorem dL_law_777 : decode cL_law 777 = .ok (.lcmp, 1) := by decide +kernel
theorem dL_law_778 : decode cL_law 778 = .ok (.ifCond .eq 5, 3) := by decide +kernel
theorem dL_law_781 : decode cL_law 781 = .ok (.iconst 0, 1) := by decide +kernel
theorem dL_law_782 : decode cL_law 782 = .ok (.ireturn, 1) := by decide +kernel
theorem dL_law_783 : decode cL_law 783 = .ok (.goto 830, 3) := by decide +kernel
theorem dL_law_786 : decode cL_law 786 = .ok (.aload_n 1, 1) := by decide +kernel
theorem dL_law_787 : decode cL_law 787 = .ok (.aload_n 0, 1) := by decide +kernel
theorem dL_law_788 : decode cL_law 788 = .ok (.iload 4, 2) := by decide +kernel
theorem dL_law_790 : decode cL_law 790 = .ok (.iconst 1, 1) := by decide +kernel
theorem dL_law_791 : decode cL_law 791 = .ok (.iadd, 1) := by decide +kernel
theorem dL_law_792 : decode cL_law 792 = .ok (.iaload, 1) := by decide +kernel
theorem dL_law_793 : decode cL_law 793 = .ok (.aload_n 0, 1) := by decide +kernel
theorem dL_law_794 : decode cL_law 794 = .ok (.iload 4, 2) := by decide +kernel
theorem dL_law_796 : decode cL_law 796 = .ok (.iconst 2, 1) := by decide +kernel
theorem dL_law_797 : decode cL_law 797 = .ok (.iadd, 1) := by decide +kernel
theorem dL_law_798 : decode cL_law 798 = .ok (.iaload, 1) := by decide +kernel
theorem dL_law_799 : decode cL_law 799 = .ok (.aload_n 3, 1) := by decide +kernel
theorem dL_law_800 : decode cL_law 800 = .ok (.invokestatic 130, 3) := by decide +kernel
theorem dL_law_803 : decode cL_law 803 = .ok (.istore 5, 2) := by decide +kernel
theorem dL_law_805 : decode cL_law 805 = .ok (.aload_n 2, 1) := by decide +kernel
theorem dL_law_806 : decode cL_law 806 = .ok (.aload_n 0, 1) := by decide +kernel
theorem dL_law_807 : decode cL_law 807 = .ok (.iload 4, 2) := by decide +kernel
theorem dL_law_809 : decode cL_law 809 = .ok (.iconst 1, 1) := by decide +kernel
theorem dL_law_810 : decode cL_law 810 = .ok (.iadd, 1) := by decide +kernel
theorem dL_law_811 : decode cL_law 811 = .ok (.iaload, 1) := by decide +kernel
theorem dL_law_812 : decode cL_law 812 = .ok (.aload_n 0, 1) := by decide +kernel
theorem dL_law_813 : decode cL_law 813 = .ok (.iload 4, 2) := by decide +kernel
theorem dL_law_815 : decode cL_law 815 = .ok (.iconst 2, 1) := by decide +kernel
theorem dL_law_816 : decode cL_law 816 = .ok (.iadd, 1) := by decide +kernel
theorem dL_law_817 : decode cL_law 817 = .ok (.iaload, 1) := by decide +kernel
theorem dL_law_818 : decode cL_law 818 = .ok (.invokevirtual 132, 3) := by decide +kernel
theorem dL_law_821 : decode cL_law 821 = .ok (.istore 6, 2) := by decide +kernel
theorem dL_law_823 : decode cL_law 823 = .ok (.aload_n 2, 1) := by decide +kernel
theorem dL_law_824 : decode cL_law 824 = .ok (.invokevirtual 97, 3) := by decide +kernel
theorem dL_law_827 : decode cL_law 827 = .ok (.iload 5, 2) := by decide +kernel
theorem dL_law_829 : decode cL_law 829 = .ok (.if_icmp .eq 5, 3) := by decide +kernel
theorem dL_law_832 : decode cL_law 832 = .ok (.iconst 0, 1) := by decide +kernel
theorem dL_law_833 : decode cL_law 833 = .ok (.ireturn, 1) := by decide +kernel
theorem dL_law_834 : decode cL_law 834 = .ok (.iload 5, 2) := by decide +kernel
theorem dL_law_836 : decode cL_law 836 = .ok (.ifCond .ne 15, 3) := by decide +kernel
theorem dL_law_839 : decode cL_law 839 = .ok (.aload_n 3, 1) := by decide +kernel
theorem dL_law_840 : decode cL_law 840 = .ok (.iconst 0, 1) := by decide +kernel
theorem dL_law_841 : decode cL_law 841 = .ok (.laload, 1) := by decide +kernel
theorem dL_law_842 : decode cL_law 842 = .ok (.iload 6, 2) := by decide +kernel
theorem dL_law_844 : decode cL_law 844 = .ok (.i2l, 1) := by decide +kernel
theorem dL_law_845 : decode cL_law 845 = .ok (.lcmp, 1) := by decide +kernel
theorem dL_law_846 : decode cL_law 846 = .ok (.ifCond .eq 5, 3) := by decide +kernel
theorem dL_law_849 : decode cL_law 849 = .ok (.iconst 0, 1) := by decide +kernel
theorem dL_law_850 : decode cL_law 850 = .ok (.ireturn, 1) := by decide +kernel
theorem dL_law_851 : decode cL_law 851 = .ok (.goto 762, 3) := by decide +kernel
theorem dL_law_854 : decode cL_law 854 = .ok (.aload_n 1, 1) := by decide +kernel
theorem dL_law_855 : decode cL_law 855 = .ok (.aload_n 0, 1) := by decide +kernel
theorem dL_law_856 : decode cL_law 856 = .ok (.iload 4, 2) := by decide +kernel
theorem dL_law_858 : decode cL_law 858 = .ok (.iconst 1, 1) := by decide +kernel
theorem dL_law_859 : decode cL_law 859 = .ok (.iadd, 1) := by decide +kernel
theorem dL_law_860 : decode cL_law 860 = .ok (.iaload, 1) := by decide +kernel
theorem dL_law_861 : decode cL_law 861 = .ok (.aload_n 0, 1) := by decide +kernel
theorem dL_law_862 : decode cL_law 862 = .ok (.iload 4, 2) := by decide +kernel
theorem dL_law_864 : decode cL_law 864 = .ok (.iconst 2, 1) := by decide +kernel
theorem dL_law_865 : decode cL_law 865 = .ok (.iadd, 1) := by decide +kernel
theorem dL_law_866 : decode cL_law 866 = .ok (.iaload, 1) := by decide +kernel
theorem dL_law_867 : decode cL_law 867 = .ok (.aload_n 3, 1) := by decide +kernel
theorem dL_law_868 : decode cL_law 868 = .ok (.invokestatic 133, 3) := by decide +kernel
theorem dL_law_871 : decode cL_law 871 = .ok (.istore 5, 2) := by decide +kernel
theorem dL_law_873 : decode cL_law 873 = .ok (.aload_n 2, 1) := by decide +kernel
theorem dL_law_874 : decode cL_law 874 = .ok (.aload_n 0, 1) := by decide +kernel
theorem dL_law_875 : decode cL_law 875 = .ok (.iload 4, 2) := by decide +kernel
theorem dL_law_877 : decode cL_law 877 = .ok (.iconst 1, 1) := by decide +kernel
theorem dL_law_878 : decode cL_law 878 = .ok (.iadd, 1) := by decide +kernel
theorem dL_law_879 : decode cL_law 879 = .ok (.iaload, 1) := by decide +kernel
theorem dL_law_880 : decode cL_law 880 = .ok (.aload_n 0, 1) := by decide +kernel
theorem dL_law_881 : decode cL_law 881 = .ok (.iload 4, 2) := by decide +kernel
theorem dL_law_883 : decode cL_law 883 = .ok (.iconst 2, 1) := by decide +kernel
theorem dL_law_884 : decode cL_law 884 = .ok (.iadd, 1) := by decide +kernel
theorem dL_law_885 : decode cL_law 885 = .ok (.iaload, 1) := by decide +kernel
theorem dL_law_886 : decode cL_law 886 = .ok (.invokevirtual 135, 3) := by decide +kernel
theorem dL_law_889 : decode cL_law 889 = .ok (.istore 6, 2) := by decide +kernel
theorem dL_law_891 : decode cL_law 891 = .ok (.aload_n 2, 1) := by decide +kernel
theorem dL_law_892 : decode cL_law 892 = .ok (.invokevirtual 97, 3) := by decide +kernel
theorem dL_law_895 : decode cL_law 895 = .ok (.iload 5, 2) := by decide +kernel
theorem dL_law_897 : decode cL_law 897 = .ok (.if_icmp .eq 5, 3) := by decide +kernel
theorem dL_law_900 : decode cL_law 900 = .ok (.iconst 0, 1) := by decide +kernel
theorem dL_law_901 : decode cL_law 901 = .ok (.ireturn, 1) := by decide +kernel
theorem dL_law_902 : decode cL_law 902 = .ok (.iload 5, 2) := by decide +kernel
theorem dL_law_904 : decode cL_law 904 = .ok (.ifCond .ne 15, 3) := by decide +kernel
theorem dL_law_907 : decode cL_law 907 = .ok (.aload_n 3, 1) := by decide +kernel
theorem dL_law_908 : decode cL_law 908 = .ok (.iconst 0, 1) := by decide +kernel
theorem dL_law_909 : decode cL_law 909 = .ok (.laload, 1) := by decide +kernel
theorem dL_law_910 : decode cL_law 910 = .ok (.iload 6, 2) := by decide +kernel
theorem dL_law_912 : decode cL_law 912 = .ok (.i2l, 1) := by decide +kernel
theorem dL_law_913 : decode cL_law 913 = .ok (.lcmp, 1) := by decide +kernel
theorem dL_law_914 : decode cL_law 914 = .ok (.ifCond .eq 5, 3) := by decide +kernel
theorem dL_law_917 : decode cL_law 917 = .ok (.iconst 0, 1) := by decide +kernel
theorem dL_law_918 : decode cL_law 918 = .ok (.ireturn, 1) := by decide +kernel
theorem dL_law_919 : decode cL_law 919 = .ok (.goto 694, 3) := by decide +kernel
theorem dL_law_922 : decode cL_law 922 = .ok (.aload_n 1, 1) := by decide +kernel
theorem dL_law_923 : decode cL_law 923 = .ok (.aload_n 0, 1) := by decide +kernel
theorem dL_law_924 : decode cL_law 924 = .ok (.iload 4, 2) := by decide +kernel
theorem dL_law_926 : decode cL_law 926 = .ok (.iconst 1, 1) := by decide +kernel
theorem dL_law_927 : decode cL_law 927 = .ok (.iadd, 1) := by decide +kernel
theorem dL_law_928 : decode cL_law 928 = .ok (.iaload, 1) := by decide +kernel
theorem dL_law_929 : decode cL_law 929 = .ok (.aload_n 0, 1) := by decide +kernel
theorem dL_law_930 : decode cL_law 930 = .ok (.iload 4, 2) := by decide +kernel
theorem dL_law_932 : decode cL_law 932 = .ok (.iconst 2, 1) := by decide +kernel
theorem dL_law_933 : decode cL_law 933 = .ok (.iadd, 1) := by decide +kernel
theorem dL_law_934 : decode cL_law 934 = .ok (.iaload, 1) := by decide +kernel
theorem dL_law_935 : decode cL_law 935 = .ok (.aload_n 0, 1) := by decide +kernel
theorem dL_law_936 : decode cL_law 936 = .ok (.iload 4, 2) := by decide +kernel
theorem dL_law_938 : decode cL_law 938 = .ok (.iconst 3, 1) := by decide +kernel
theorem dL_law_939 : decode cL_law 939 = .ok (.iadd, 1) := by decide +kernel
theorem dL_law_940 : decode cL_law 940 = .ok (.iaload, 1) := by decide +kernel
theorem dL_law_941 : decode cL_law 941 = .ok (.aload_n 3, 1) := by decide +kernel
theorem dL_law_942 : decode cL_law 942 = .ok (.invokestatic 136, 3) := by decide +kernel
theorem dL_law_945 : decode cL_law 945 = .ok (.istore 5, 2) := by decide +kernel
theorem dL_law_947 : decode cL_law 947 = .ok (.aload_n 2, 1) := by decide +kernel
theorem dL_law_948 : decode cL_law 948 = .ok (.aload_n 0, 1) := by decide +kernel
theorem dL_law_949 : decode cL_law 949 = .ok (.iload 4, 2) := by decide +kernel
theorem dL_law_951 : decode cL_law 951 = .ok (.iconst 1, 1) := by decide +kernel
theorem dL_law_952 : decode cL_law 952 = .ok (.iadd, 1) := by decide +kernel
theorem dL_law_953 : decode cL_law 953 = .ok (.iaload, 1) := by decide +kernel
theorem dL_law_954 : decode cL_law 954 = .ok (.aload_n 0, 1) := by decide +kernel
theorem dL_law_955 : decode cL_law 955 = .ok (.iload 4, 2) := by decide +kernel
theorem dL_law_957 : decode cL_law 957 = .ok (.iconst 2, 1) := by decide +kernel
theorem dL_law_958 : decode cL_law 958 = .ok (.iadd, 1) := by decide +kernel
theorem dL_law_959 : decode cL_law 959 = .ok (.iaload, 1) := by decide +kernel
theorem dL_law_960 : decode cL_law 960 = .ok (.aload_n 0, 1) := by decide +kernel
theorem dL_law_961 : decode cL_law 961 = .ok (.iload 4, 2) := by decide +kernel
theorem dL_law_963 : decode cL_law 963 = .ok (.iconst 3, 1) := by decide +kernel
theorem dL_law_964 : decode cL_law 964 = .ok (.iadd, 1) := by decide +kernel
theorem dL_law_965 : decode cL_law 965 = .ok (.iaload, 1) := by decide +kernel
theorem dL_law_966 : decode cL_law 966 = .ok (.invokevirtual 139, 3) := by decide +kernel
theorem dL_law_969 : decode cL_law 969 = .ok (.istore 6, 2) := by decide +kernel
theorem dL_law_971 : decode cL_law 971 = .ok (.aload_n 2, 1) := by decide +kernel
theorem dL_law_972 : decode cL_law 972 = .ok (.invokevirtual 97, 3) := by decide +kernel
theorem dL_law_975 : decode cL_law 975 = .ok (.iload 5, 2) := by decide +kernel
theorem dL_law_977 : decode cL_law 977 = .ok (.if_icmp .eq 5, 3) := by decide +kernel
theorem dL_law_980 : decode cL_law 980 = .ok (.iconst 0, 1) := by decide +kernel
theorem dL_law_981 : decode cL_law 981 = .ok (.ireturn, 1) := by decide +kernel
theorem dL_law_982 : decode cL_law 982 = .ok (.iload 5, 2) := by decide +kernel
theorem dL_law_984 : decode cL_law 984 = .ok (.ifCond .ne 15, 3) := by decide +kernel
theorem dL_law_987 : decode cL_law 987 = .ok (.aload_n 3, 1) := by decide +kernel
theorem dL_law_988 : decode cL_law 988 = .ok (.iconst 0, 1) := by decide +kernel
theorem dL_law_989 : decode cL_law 989 = .ok (.laload, 1) := by decide +kernel
theorem dL_law_990 : decode cL_law 990 = .ok (.iload 6, 2) := by decide +kernel
theorem dL_law_992 : decode cL_law 992 = .ok (.i2l, 1) := by decide +kernel
theorem dL_law_993 : decode cL_law 993 = .ok (.lcmp, 1) := by decide +kernel
theorem dL_law_994 : decode cL_law 994 = .ok (.ifCond .eq 5, 3) := by decide +kernel
theorem dL_law_997 : decode cL_law 997 = .ok (.iconst 0, 1) := by decide +kernel
theorem dL_law_998 : decode cL_law 998 = .ok (.ireturn, 1) := by decide +kernel
theorem dL_law_999 : decode cL_law 999 = .ok (.goto 614, 3) := by decide +kernel
theorem dL_law_1002 : decode cL_law 1002 = .ok (.aload_n 1, 1) := by decide +kernel
theorem dL_law_1003 : decode cL_law 1003 = .ok (.invokevirtual 140, 3) := by decide +kernel
theorem dL_law_1006 : decode cL_law 1006 = .ok (.aload_n 2, 1) := by decide +kernel
theorem dL_law_1007 : decode cL_law 1007 = .ok (.invokevirtual 143, 3) := by decide +kernel
theorem dL_law_1010 : decode cL_law 1010 = .ok (.if_icmp .eq 603, 3) := by decide +kernel
theorem dL_law_1013 : decode cL_law 1013 = .ok (.iconst 0, 1) := by decide +kernel
theorem dL_law_1014 : decode cL_law 1014 = .ok (.ireturn, 1) := by decide +kernel
theorem dL_law_1015 : decode cL_law 1015 = .ok (.aload_n 1, 1) := by decide +kernel
theorem dL_law_1016 : decode cL_law 1016 = .ok (.invokevirtual 144, 3) := by decide +kernel
theorem dL_law_1019 : decode cL_law 1019 = .ok (.aload_n 2, 1) := by decide +kernel
theorem dL_law_1020 : decode cL_law 1020 = .ok (.invokevirtual 147, 3) := by decide +kernel
theorem dL_law_1023 : decode cL_law 1023 = .ok (.if_icmp .eq 590, 3) := by decide +kernel
theorem dL_law_1026 : decode cL_law 1026 = .ok (.iconst 0, 1) := by decide +kernel
theorem dL_law_1027 : decode cL_law 1027 = .ok (.ireturn, 1) := by decide +kernel
theorem dL_law_1028 : decode cL_law 1028 = .ok (.aload_n 1, 1) := by decide +kernel
theorem dL_law_1029 : decode cL_law 1029 = .ok (.invokevirtual 148, 3) := by decide +kernel
theorem dL_law_1032 : decode cL_law 1032 = .ok (.aload_n 2, 1) := by decide +kernel
theorem dL_law_1033 : decode cL_law 1033 = .ok (.invokevirtual 151, 3) := by decide +kernel
theorem dL_law_1036 : decode cL_law 1036 = .ok (.if_icmp .eq 577, 3) := by decide +kernel
theorem dL_law_1039 : decode cL_law 1039 = .ok (.iconst 0, 1) := by decide +kernel
theorem dL_law_1040 : decode cL_law 1040 = .ok (.ireturn, 1) := by decide +kernel
theorem dL_law_1041 : decode cL_law 1041 = .ok (.aload_n 1, 1) := by decide +kernel
theorem dL_law_1042 : decode cL_law 1042 = .ok (.aload_n 0, 1) := by decide +kernel
theorem dL_law_1043 : decode cL_law 1043 = .ok (.iload 4, 2) := by decide +kernel
theorem dL_law_1045 : decode cL_law 1045 = .ok (.iconst 1, 1) := by decide +kernel
theorem dL_law_1046 : decode cL_law 1046 = .ok (.iadd, 1) := by decide +kernel
theorem dL_law_1047 : decode cL_law 1047 = .ok (.iaload, 1) := by decide +kernel
theorem dL_law_1048 : decode cL_law 1048 = .ok (.aload_n 0, 1) := by decide +kernel
theorem dL_law_1049 : decode cL_law 1049 = .ok (.iload 4, 2) := by decide +kernel
theorem dL_law_1051 : decode cL_law 1051 = .ok (.iconst 2, 1) := by decide +kernel
theorem dL_law_1052 : decode cL_law 1052 = .ok (.iadd, 1) := by decide +kernel
theorem dL_law_1053 : decode cL_law 1053 = .ok (.iaload, 1) := by decide +kernel
theorem dL_law_1054 : decode cL_law 1054 = .ok (.aload_n 3, 1) := by decide +kernel
theorem dL_law_1055 : decode cL_law 1055 = .ok (.invokestatic 152, 3) := by decide +kernel
theorem dL_law_1058 : decode cL_law 1058 = .ok (.istore 5, 2) := by decide +kernel
theorem dL_law_1060 : decode cL_law 1060 = .ok (.aload_n 2, 1) := by decide +kernel
theorem dL_law_1061 : decode cL_law 1061 = .ok (.aload_n 0, 1) := by decide +kernel
theorem dL_law_1062 : decode cL_law 1062 = .ok (.iload 4, 2) := by decide +kernel
theorem dL_law_1064 : decode cL_law 1064 = .ok (.iconst 1, 1) := by decide +kernel
theorem dL_law_1065 : decode cL_law 1065 = .ok (.iadd, 1) := by decide +kernel
theorem dL_law_1066 : decode cL_law 1066 = .ok (.iaload, 1) := by decide +kernel
theorem dL_law_1067 : decode cL_law 1067 = .ok (.aload_n 0, 1) := by decide +kernel
theorem dL_law_1068 : decode cL_law 1068 = .ok (.iload 4, 2) := by decide +kernel
theorem dL_law_1070 : decode cL_law 1070 = .ok (.iconst 2, 1) := by decide +kernel
theorem dL_law_1071 : decode cL_law 1071 = .ok (.iadd, 1) := by decide +kernel
theorem dL_law_1072 : decode cL_law 1072 = .ok (.iaload, 1) := by decide +kernel
theorem dL_law_1073 : decode cL_law 1073 = .ok (.invokevirtual 154, 3) := by decide +kernel
theorem dL_law_1076 : decode cL_law 1076 = .ok (.istore 6, 2) := by decide +kernel
theorem dL_law_1078 : decode cL_law 1078 = .ok (.aload_n 2, 1) := by decide +kernel
theorem dL_law_1079 : decode cL_law 1079 = .ok (.invokevirtual 97, 3) := by decide +kernel
theorem dL_law_1082 : decode cL_law 1082 = .ok (.iload 5, 2) := by decide +kernel
theorem dL_law_1084 : decode cL_law 1084 = .ok (.if_icmp .eq 5, 3) := by decide +kernel
theorem dL_law_1087 : decode cL_law 1087 = .ok (.iconst 0, 1) := by decide +kernel
theorem dL_law_1088 : decode cL_law 1088 = .ok (.ireturn, 1) := by decide +kernel
theorem dL_law_1089 : decode cL_law 1089 = .ok (.iload 5, 2) := by decide +kernel
theorem dL_law_1091 : decode cL_law 1091 = .ok (.ifCond .ne 15, 3) := by decide +kernel
theorem dL_law_1094 : decode cL_law 1094 = .ok (.aload_n 3, 1) := by decide +kernel
theorem dL_law_1095 : decode cL_law 1095 = .ok (.iconst 0, 1) := by decide +kernel
theorem dL_law_1096 : decode cL_law 1096 = .ok (.laload, 1) := by decide +kernel
theorem dL_law_1097 : decode cL_law 1097 = .ok (.iload 6, 2) := by decide +kernel
theorem dL_law_1099 : decode cL_law 1099 = .ok (.i2l, 1) := by decide +kernel
theorem dL_law_1100 : decode cL_law 1100 = .ok (.lcmp, 1) := by decide +kernel
theorem dL_law_1101 : decode cL_law 1101 = .ok (.ifCond .eq 5, 3) := by decide +kernel
theorem dL_law_1104 : decode cL_law 1104 = .ok (.iconst 0, 1) := by decide +kernel
theorem dL_law_1105 : decode cL_law 1105 = .ok (.ireturn, 1) := by decide +kernel
theorem dL_law_1106 : decode cL_law 1106 = .ok (.goto 507, 3) := by decide +kernel
theorem dL_law_1109 : decode cL_law 1109 = .ok (.aload_n 1, 1) := by decide +kernel
theorem dL_law_1110 : decode cL_law 1110 = .ok (.aload_n 0, 1) := by decide +kernel
theorem dL_law_1111 : decode cL_law 1111 = .ok (.iload 4, 2) := by decide +kernel
theorem dL_law_1113 : decode cL_law 1113 = .ok (.iconst 1, 1) := by decide +kernel
theorem dL_law_1114 : decode cL_law 1114 = .ok (.iadd, 1) := by decide +kernel
theorem dL_law_1115 : decode cL_law 1115 = .ok (.iaload, 1) := by decide +kernel
theorem dL_law_1116 : decode cL_law 1116 = .ok (.aload_n 0, 1) := by decide +kernel
theorem dL_law_1117 : decode cL_law 1117 = .ok (.iload 4, 2) := by decide +kernel
theorem dL_law_1119 : decode cL_law 1119 = .ok (.iconst 2, 1) := by decide +kernel
theorem dL_law_1120 : decode cL_law 1120 = .ok (.iadd, 1) := by decide +kernel
theorem dL_law_1121 : decode cL_law 1121 = .ok (.iaload, 1) := by decide +kernel
theorem dL_law_1122 : decode cL_law 1122 = .ok (.aload_n 3, 1) := by decide +kernel
theorem dL_law_1123 : decode cL_law 1123 = .ok (.invokestatic 155, 3) := by decide +kernel
theorem dL_law_1126 : decode cL_law 1126 = .ok (.istore 5, 2) := by decide +kernel
theorem dL_law_1128 : decode cL_law 1128 = .ok (.aload_n 2, 1) := by decide +kernel
theorem dL_law_1129 : decode cL_law 1129 = .ok (.aload_n 0, 1) := by decide +kernel
theorem dL_law_1130 : decode cL_law 1130 = .ok (.iload 4, 2) := by decide +kernel
theorem dL_law_1132 : decode cL_law 1132 = .ok (.iconst 1, 1) := by decide +kernel
theorem dL_law_1133 : decode cL_law 1133 = .ok (.iadd, 1) := by decide +kernel
theorem dL_law_1134 : decode cL_law 1134 = .ok (.iaload, 1) := by decide +kernel
theorem dL_law_1135 : decode cL_law 1135 = .ok (.aload_n 0, 1) := by decide +kernel
theorem dL_law_1136 : decode cL_law 1136 = .ok (.iload 4, 2) := by decide +kernel
theorem dL_law_1138 : decode cL_law 1138 = .ok (.iconst 2, 1) := by decide +kernel
theorem dL_law_1139 : decode cL_law 1139 = .ok (.iadd, 1) := by decide +kernel
theorem dL_law_1140 : decode cL_law 1140 = .ok (.iaload, 1) := by decide +kernel
theorem dL_law_1141 : decode cL_law 1141 = .ok (.invokevirtual 157, 3) := by decide +kernel
theorem dL_law_1144 : decode cL_law 1144 = .ok (.istore 6, 2) := by decide +kernel
theorem dL_law_1146 : decode cL_law 1146 = .ok (.aload_n 2, 1) := by decide +kernel
theorem dL_law_1147 : decode cL_law 1147 = .ok (.invokevirtual 97, 3) := by decide +kernel
theorem dL_law_1150 : decode cL_law 1150 = .ok (.iload 5, 2) := by decide +kernel
theorem dL_law_1152 : decode cL_law 1152 = .ok (.if_icmp .eq 5, 3) := by decide +kernel
theorem dL_law_1155 : decode cL_law 1155 = .ok (.iconst 0, 1) := by decide +kernel
theorem dL_law_1156 : decode cL_law 1156 = .ok (.ireturn, 1) := by decide +kernel
theorem dL_law_1157 : decode cL_law 1157 = .ok (.iload 5, 2) := by decide +kernel
theorem dL_law_1159 : decode cL_law 1159 = .ok (.ifCond .ne 15, 3) := by decide +kernel
theorem dL_law_1162 : decode cL_law 1162 = .ok (.aload_n 3, 1) := by decide +kernel
theorem dL_law_1163 : decode cL_law 1163 = .ok (.iconst 0, 1) := by decide +kernel
theorem dL_law_1164 : decode cL_law 1164 = .ok (.laload, 1) := by decide +kernel
theorem dL_law_1165 : decode cL_law 1165 = .ok (.iload 6, 2) := by decide +kernel
theorem dL_law_1167 : decode cL_law 1167 = .ok (.i2l, 1) := by decide +kernel
theorem dL_law_1168 : decode cL_law 1168 = .ok (.lcmp, 1) := by decide +kernel
theorem dL_law_1169 : decode cL_law 1169 = .ok (.ifCond .eq 5, 3) := by decide +kernel
theorem dL_law_1172 : decode cL_law 1172 = .ok (.iconst 0, 1) := by decide +kernel
theorem dL_law_1173 : decode cL_law 1173 = .ok (.ireturn, 1) := by decide +kernel
theorem dL_law_1174 : decode cL_law 1174 = .ok (.goto 439, 3) := by decide +kernel
theorem dL_law_1177 : decode cL_law 1177 = .ok (.aload_n 1, 1) := by decide +kernel
theorem dL_law_1178 : decode cL_law 1178 = .ok (.aload_n 0, 1) := by decide +kernel
theorem dL_law_1179 : decode cL_law 1179 = .ok (.iload 4, 2) := by decide +kernel
theorem dL_law_1181 : decode cL_law 1181 = .ok (.iconst 1, 1) := by decide +kernel
theorem dL_law_1182 : decode cL_law 1182 = .ok (.iadd, 1) := by decide +kernel
theorem dL_law_1183 : decode cL_law 1183 = .ok (.iaload, 1) := by decide +kernel
theorem dL_law_1184 : decode cL_law 1184 = .ok (.aload_n 0, 1) := by decide +kernel
theorem dL_law_1185 : decode cL_law 1185 = .ok (.iload 4, 2) := by decide +kernel
theorem dL_law_1187 : decode cL_law 1187 = .ok (.iconst 2, 1) := by decide +kernel
theorem dL_law_1188 : decode cL_law 1188 = .ok (.iadd, 1) := by decide +kernel
theorem dL_law_1189 : decode cL_law 1189 = .ok (.iaload, 1) := by decide +kernel
theorem dL_law_1190 : decode cL_law 1190 = .ok (.aload_n 3, 1) := by decide +kernel
theorem dL_law_1191 : decode cL_law 1191 = .ok (.invokestatic 158, 3) := by decide +kernel
theorem dL_law_1194 : decode cL_law 1194 = .ok (.istore 5, 2) := by decide +kernel
theorem dL_law_1196 : decode cL_law 1196 = .ok (.aload_n 2, 1) := by decide +kernel
theorem dL_law_1197 : decode cL_law 1197 = .ok (.aload_n 0, 1) := by decide +kernel
theorem dL_law_1198 : decode cL_law 1198 = .ok (.iload 4, 2) := by decide +kernel
theorem dL_law_1200 : decode cL_law 1200 = .ok (.iconst 1, 1) := by decide +kernel
theorem dL_law_1201 : decode cL_law 1201 = .ok (.iadd, 1) := by decide +kernel
theorem dL_law_1202 : decode cL_law 1202 = .ok (.iaload, 1) := by decide +kernel
theorem dL_law_1203 : decode cL_law 1203 = .ok (.aload_n 0, 1) := by decide +kernel
theorem dL_law_1204 : decode cL_law 1204 = .ok (.iload 4, 2) := by decide +kernel
theorem dL_law_1206 : decode cL_law 1206 = .ok (.iconst 2, 1) := by decide +kernel
theorem dL_law_1207 : decode cL_law 1207 = .ok (.iadd, 1) := by decide +kernel
theorem dL_law_1208 : decode cL_law 1208 = .ok (.iaload, 1) := by decide +kernel
theorem dL_law_1209 : decode cL_law 1209 = .ok (.invokevirtual 160, 3) := by decide +kernel
theorem dL_law_1212 : decode cL_law 1212 = .ok (.istore 6, 2) := by decide +kernel
theorem dL_law_1214 : decode cL_law 1214 = .ok (.aload_n 2, 1) := by decide +kernel
theorem dL_law_1215 : decode cL_law 1215 = .ok (.invokevirtual 97, 3) := by decide +kernel
theorem dL_law_1218 : decode cL_law 1218 = .ok (.iload 5, 2) := by decide +kernel
theorem dL_law_1220 : decode cL_law 1220 = .ok (.if_icmp .eq 5, 3) := by decide +kernel
theorem dL_law_1223 : decode cL_law 1223 = .ok (.iconst 0, 1) := by decide +kernel
theorem dL_law_1224 : decode cL_law 1224 = .ok (.ireturn, 1) := by decide +kernel
theorem dL_law_1225 : decode cL_law 1225 = .ok (.iload 5, 2) := by decide +kernel
theorem dL_law_1227 : decode cL_law 1227 = .ok (.ifCond .ne 15, 3) := by decide +kernel
theorem dL_law_1230 : decode cL_law 1230 = .ok (.aload_n 3, 1) := by decide +kernel
theorem dL_law_1231 : decode cL_law 1231 = .ok (.iconst 0, 1) := by decide +kernel
theorem dL_law_1232 : decode cL_law 1232 = .ok (.laload, 1) := by decide +kernel
theorem dL_law_1233 : decode cL_law 1233 = .ok (.iload 6, 2) := by decide +kernel
theorem dL_law_1235 : decode cL_law 1235 = .ok (.i2l, 1) := by decide +kernel
theorem dL_law_1236 : decode cL_law 1236 = .ok (.lcmp, 1) := by decide +kernel
theorem dL_law_1237 : decode cL_law 1237 = .ok (.ifCond .eq 5, 3) := by decide +kernel
theorem dL_law_1240 : decode cL_law 1240 = .ok (.iconst 0, 1) := by decide +kernel
theorem dL_law_1241 : decode cL_law 1241 = .ok (.ireturn, 1) := by decide +kernel
theorem dL_law_1242 : decode cL_law 1242 = .ok (.goto 371, 3) := by decide +kernel
theorem dL_law_1245 : decode cL_law 1245 = .ok (.aload_n 1, 1) := by decide +kernel
theorem dL_law_1246 : decode cL_law 1246 = .ok (.aload_n 0, 1) := by decide +kernel
theorem dL_law_1247 : decode cL_law 1247 = .ok (.iload 4, 2) := by decide +kernel
theorem dL_law_1249 : decode cL_law 1249 = .ok (.iconst 1, 1) := by decide +kernel
theorem dL_law_1250 : decode cL_law 1250 = .ok (.iadd, 1) := by decide +kernel
theorem dL_law_1251 : decode cL_law 1251 = .ok (.iaload, 1) := by decide +kernel
theorem dL_law_1252 : decode cL_law 1252 = .ok (.aload_n 3, 1) := by decide +kernel
theorem dL_law_1253 : decode cL_law 1253 = .ok (.invokestatic 161, 3) := by decide +kernel
theorem dL_law_1256 : decode cL_law 1256 = .ok (.istore 5, 2) := by decide +kernel
theorem dL_law_1258 : decode cL_law 1258 = .ok (.aload_n 2, 1) := by decide +kernel
theorem dL_law_1259 : decode cL_law 1259 = .ok (.aload_n 0, 1) := by decide +kernel
theorem dL_law_1260 : decode cL_law 1260 = .ok (.iload 4, 2) := by decide +kernel
theorem dL_law_1262 : decode cL_law 1262 = .ok (.iconst 1, 1) := by decide +kernel
theorem dL_law_1263 : decode cL_law 1263 = .ok (.iadd, 1) := by decide +kernel
theorem dL_law_1264 : decode cL_law 1264 = .ok (.iaload, 1) := by decide +kernel
theorem dL_law_1265 : decode cL_law 1265 = .ok (.invokevirtual 163, 3) := by decide +kernel
theorem dL_law_1268 : decode cL_law 1268 = .ok (.istore 6, 2) := by decide +kernel
theorem dL_law_1270 : decode cL_law 1270 = .ok (.aload_n 2, 1) := by decide +kernel
theorem dL_law_1271 : decode cL_law 1271 = .ok (.invokevirtual 97, 3) := by decide +kernel
theorem dL_law_1274 : decode cL_law 1274 = .ok (.iload 5, 2) := by decide +kernel
theorem dL_law_1276 : decode cL_law 1276 = .ok (.if_icmp .eq 5, 3) := by decide +kernel
theorem dL_law_1279 : decode cL_law 1279 = .ok (.iconst 0, 1) := by decide +kernel
theorem dL_law_1280 : decode cL_law 1280 = .ok (.ireturn, 1) := by decide +kernel
theorem dL_law_1281 : decode cL_law 1281 = .ok (.iload 5, 2) := by decide +kernel
theorem dL_law_1283 : decode cL_law 1283 = .ok (.ifCond .ne 15, 3) := by decide +kernel
theorem dL_law_1286 : decode cL_law 1286 = .ok (.aload_n 3, 1) := by decide +kernel
theorem dL_law_1287 : decode cL_law 1287 = .ok (.iconst 0, 1) := by decide +kernel
theorem dL_law_1288 : decode cL_law 1288 = .ok (.laload, 1) := by decide +kernel
theorem dL_law_1289 : decode cL_law 1289 = .ok (.iload 6, 2) := by decide +kernel
theorem dL_law_1291 : decode cL_law 1291 = .ok (.i2l, 1) := by decide +kernel
theorem dL_law_1292 : decode cL_law 1292 = .ok (.lcmp, 1) := by decide +kernel
theorem dL_law_1293 : decode cL_law 1293 = .ok (.ifCond .eq 5, 3) := by decide +kernel
theorem dL_law_1296 : decode cL_law 1296 = .ok (.iconst 0, 1) := by decide +kernel
theorem dL_law_1297 : decode cL_law 1297 = .ok (.ireturn, 1) := by decide +kernel
theorem dL_law_1298 : decode cL_law 1298 = .ok (.goto 315, 3) := by decide +kernel
theorem dL_law_1301 : decode cL_law 1301 = .ok (.aload_n 1, 1) := by decide +kernel
theorem dL_law_1302 : decode cL_law 1302 = .ok (.aload_n 0, 1) := by decide +kernel
theorem dL_law_1303 : decode cL_law 1303 = .ok (.iload 4, 2) := by decide +kernel
theorem dL_law_1305 : decode cL_law 1305 = .ok (.iconst 1, 1) := by decide +kernel
theorem dL_law_1306 : decode cL_law 1306 = .ok (.iadd, 1) := by decide +kernel
theorem dL_law_1307 : decode cL_law 1307 = .ok (.iaload, 1) := by decide +kernel
theorem dL_law_1308 : decode cL_law 1308 = .ok (.aload_n 3, 1) := by decide +kernel
theorem dL_law_1309 : decode cL_law 1309 = .ok (.invokestatic 164, 3) := by decide +kernel
theorem dL_law_1312 : decode cL_law 1312 = .ok (.istore 5, 2) := by decide +kernel
theorem dL_law_1314 : decode cL_law 1314 = .ok (.aload_n 2, 1) := by decide +kernel
theorem dL_law_1315 : decode cL_law 1315 = .ok (.aload_n 0, 1) := by decide +kernel
theorem dL_law_1316 : decode cL_law 1316 = .ok (.iload 4, 2) := by decide +kernel
theorem dL_law_1318 : decode cL_law 1318 = .ok (.iconst 1, 1) := by decide +kernel
theorem dL_law_1319 : decode cL_law 1319 = .ok (.iadd, 1) := by decide +kernel
theorem dL_law_1320 : decode cL_law 1320 = .ok (.iaload, 1) := by decide +kernel
theorem dL_law_1321 : decode cL_law 1321 = .ok (.invokevirtual 166, 3) := by decide +kernel
theorem dL_law_1324 : decode cL_law 1324 = .ok (.istore 6, 2) := by decide +kernel
theorem dL_law_1326 : decode cL_law 1326 = .ok (.aload_n 2, 1) := by decide +kernel
theorem dL_law_1327 : decode cL_law 1327 = .ok (.invokevirtual 97, 3) := by decide +kernel
theorem dL_law_1330 : decode cL_law 1330 = .ok (.iload 5, 2) := by decide +kernel
theorem dL_law_1332 : decode cL_law 1332 = .ok (.if_icmp .eq 5, 3) := by decide +kernel
theorem dL_law_1335 : decode cL_law 1335 = .ok (.iconst 0, 1) := by decide +kernel
theorem dL_law_1336 : decode cL_law 1336 = .ok (.ireturn, 1) := by decide +kernel
theorem dL_law_1337 : decode cL_law 1337 = .ok (.iload 5, 2) := by decide +kernel
theorem dL_law_1339 : decode cL_law 1339 = .ok (.ifCond .ne 15, 3) := by decide +kernel
theorem dL_law_1342 : decode cL_law 1342 = .ok (.aload_n 3, 1) := by decide +kernel
theorem dL_law_1343 : decode cL_law 1343 = .ok (.iconst 0, 1) := by decide +kernel
theorem dL_law_1344 : decode cL_law 1344 = .ok (.laload, 1) := by decide +kernel
theorem dL_law_1345 : decode cL_law 1345 = .ok (.iload 6, 2) := by decide +kernel
theorem dL_law_1347 : decode cL_law 1347 = .ok (.i2l, 1) := by decide +kernel
theorem dL_law_1348 : decode cL_law 1348 = .ok (.lcmp, 1) := by decide +kernel
theorem dL_law_1349 : decode cL_law 1349 = .ok (.ifCond .eq 5, 3) := by decide +kernel
theorem dL_law_1352 : decode cL_law 1352 = .ok (.iconst 0, 1) := by decide +kernel
theorem dL_law_1353 : decode cL_law 1353 = .ok (.ireturn, 1) := by decide +kernel
theorem dL_law_1354 : decode cL_law 1354 = .ok (.goto 259, 3) := by decide +kernel
theorem dL_law_1357 : decode cL_law 1357 = .ok (.aload_n 1, 1) := by decide +kernel
theorem dL_law_1358 : decode cL_law 1358 = .ok (.aload_n 0, 1) := by decide +kernel
theorem dL_law_1359 : decode cL_law 1359 = .ok (.iload 4, 2) := by decide +kernel
theorem dL_law_1361 : decode cL_law 1361 = .ok (.iconst 1, 1) := by decide +kernel
theorem dL_law_1362 : decode cL_law 1362 = .ok (.iadd, 1) := by decide +kernel
theorem dL_law_1363 : decode cL_law 1363 = .ok (.iaload, 1) := by decide +kernel
theorem dL_law_1364 : decode cL_law 1364 = .ok (.aload_n 3, 1) := by decide +kernel
theorem dL_law_1365 : decode cL_law 1365 = .ok (.invokestatic 167, 3) := by decide +kernel
theorem dL_law_1368 : decode cL_law 1368 = .ok (.istore 5, 2) := by decide +kernel
theorem dL_law_1370 : decode cL_law 1370 = .ok (.aload_n 2, 1) := by decide +kernel
theorem dL_law_1371 : decode cL_law 1371 = .ok (.aload_n 0, 1) := by decide +kernel
theorem dL_law_1372 : decode cL_law 1372 = .ok (.iload 4, 2) := by decide +kernel
theorem dL_law_1374 : decode cL_law 1374 = .ok (.iconst 1, 1) := by decide +kernel
theorem dL_law_1375 : decode cL_law 1375 = .ok (.iadd, 1) := by decide +kernel
theorem dL_law_1376 : decode cL_law 1376 = .ok (.iaload, 1) := by decide +kernel
theorem dL_law_1377 : decode cL_law 1377 = .ok (.invokevirtual 169, 3) := by decide +kernel
theorem dL_law_1380 : decode cL_law 1380 = .ok (.istore 6, 2) := by decide +kernel
theorem dL_law_1382 : decode cL_law 1382 = .ok (.aload_n 2, 1) := by decide +kernel
theorem dL_law_1383 : decode cL_law 1383 = .ok (.invokevirtual 97, 3) := by decide +kernel
theorem dL_law_1386 : decode cL_law 1386 = .ok (.iload 5, 2) := by decide +kernel
theorem dL_law_1388 : decode cL_law 1388 = .ok (.if_icmp .eq 5, 3) := by decide +kernel
theorem dL_law_1391 : decode cL_law 1391 = .ok (.iconst 0, 1) := by decide +kernel
theorem dL_law_1392 : decode cL_law 1392 = .ok (.ireturn, 1) := by decide +kernel
theorem dL_law_1393 : decode cL_law 1393 = .ok (.iload 5, 2) := by decide +kernel
theorem dL_law_1395 : decode cL_law 1395 = .ok (.ifCond .ne 22, 3) := by decide +kernel
theorem dL_law_1398 : decode cL_law 1398 = .ok (.aload_n 3, 1) := by decide +kernel
theorem dL_law_1399 : decode cL_law 1399 = .ok (.iconst 0, 1) := by decide +kernel
theorem dL_law_1400 : decode cL_law 1400 = .ok (.laload, 1) := by decide +kernel
theorem dL_law_1401 : decode cL_law 1401 = .ok (.iload 6, 2) := by decide +kernel
theorem dL_law_1403 : decode cL_law 1403 = .ok (.ifCond .eq 7, 3) := by decide +kernel
theorem dL_law_1406 : decode cL_law 1406 = .ok (.lconst 1, 1) := by decide +kernel
theorem dL_law_1407 : decode cL_law 1407 = .ok (.goto 4, 3) := by decide +kernel
theorem dL_law_1410 : decode cL_law 1410 = .ok (.lconst 0, 1) := by decide +kernel
theorem dL_law_1411 : decode cL_law 1411 = .ok (.lcmp, 1) := by decide +kernel
theorem dL_law_1412 : decode cL_law 1412 = .ok (.ifCond .eq 5, 3) := by decide +kernel
theorem dL_law_1415 : decode cL_law 1415 = .ok (.iconst 0, 1) := by decide +kernel
theorem dL_law_1416 : decode cL_law 1416 = .ok (.ireturn, 1) := by decide +kernel
theorem dL_law_1417 : decode cL_law 1417 = .ok (.goto 196, 3) := by decide +kernel
theorem dL_law_1420 : decode cL_law 1420 = .ok (.aload_n 1, 1) := by decide +kernel
theorem dL_law_1421 : decode cL_law 1421 = .ok (.invokevirtual 170, 3) := by decide +kernel
theorem dL_law_1424 : decode cL_law 1424 = .ok (.aload_n 2, 1) := by decide +kernel
theorem dL_law_1425 : decode cL_law 1425 = .ok (.invokevirtual 173, 3) := by decide +kernel
theorem dL_law_1428 : decode cL_law 1428 = .ok (.if_icmp .eq 185, 3) := by decide +kernel
theorem dL_law_1431 : decode cL_law 1431 = .ok (.iconst 0, 1) := by decide +kernel
theorem dL_law_1432 : decode cL_law 1432 = .ok (.ireturn, 1) := by decide +kernel
theorem dL_law_1433 : decode cL_law 1433 = .ok (.aload_n 1, 1) := by decide +kernel
theorem dL_law_1434 : decode cL_law 1434 = .ok (.invokevirtual 174, 3) := by decide +kernel
theorem dL_law_1437 : decode cL_law 1437 = .ok (.aload_n 2, 1) := by decide +kernel
theorem dL_law_1438 : decode cL_law 1438 = .ok (.invokevirtual 177, 3) := by decide +kernel
theorem dL_law_1441 : decode cL_law 1441 = .ok (.if_icmp .eq 172, 3) := by decide +kernel
theorem dL_law_1444 : decode cL_law 1444 = .ok (.iconst 0, 1) := by decide +kernel
theorem dL_law_1445 : decode cL_law 1445 = .ok (.ireturn, 1) := by decide +kernel
theorem dL_law_1446 : decode cL_law 1446 = .ok (.aload_n 1, 1) := by decide +kernel
theorem dL_law_1447 : decode cL_law 1447 = .ok (.aload_n 0, 1) := by decide +kernel
theorem dL_law_1448 : decode cL_law 1448 = .ok (.iload 4, 2) := by decide +kernel
theorem dL_law_1450 : decode cL_law 1450 = .ok (.iconst 1, 1) := by decide +kernel
theorem dL_law_1451 : decode cL_law 1451 = .ok (.iadd, 1) := by decide +kernel
theorem dL_law_1452 : decode cL_law 1452 = .ok (.iaload, 1) := by decide +kernel
theorem dL_law_1453 : decode cL_law 1453 = .ok (.aload_n 3, 1) := by decide +kernel
theorem dL_law_1454 : decode cL_law 1454 = .ok (.invokestatic 178, 3) := by decide +kernel
theorem dL_law_1457 : decode cL_law 1457 = .ok (.istore 5, 2) := by decide +kernel
theorem dL_law_1459 : decode cL_law 1459 = .ok (.aload_n 2, 1) := by decide +kernel
theorem dL_law_1460 : decode cL_law 1460 = .ok (.aload_n 0, 1) := by decide +kernel
theorem dL_law_1461 : decode cL_law 1461 = .ok (.iload 4, 2) := by decide +kernel
theorem dL_law_1463 : decode cL_law 1463 = .ok (.iconst 1, 1) := by decide +kernel
theorem dL_law_1464 : decode cL_law 1464 = .ok (.iadd, 1) := by decide +kernel
theorem dL_law_1465 : decode cL_law 1465 = .ok (.iaload, 1) := by decide +kernel
theorem dL_law_1466 : decode cL_law 1466 = .ok (.invokevirtual 180, 3) := by decide +kernel
theorem dL_law_1469 : decode cL_law 1469 = .ok (.istore 6, 2) := by decide +kernel
theorem dL_law_1471 : decode cL_law 1471 = .ok (.aload_n 2, 1) := by decide +kernel
theorem dL_law_1472 : decode cL_law 1472 = .ok (.invokevirtual 97, 3) := by decide +kernel
theorem dL_law_1475 : decode cL_law 1475 = .ok (.iload 5, 2) := by decide +kernel
theorem dL_law_1477 : decode cL_law 1477 = .ok (.if_icmp .eq 5, 3) := by decide +kernel
theorem dL_law_1480 : decode cL_law 1480 = .ok (.iconst 0, 1) := by decide +kernel
theorem dL_law_1481 : decode cL_law 1481 = .ok (.ireturn, 1) := by decide +kernel
theorem dL_law_1482 : decode cL_law 1482 = .ok (.iload 5, 2) := by decide +kernel
theorem dL_law_1484 : decode cL_law 1484 = .ok (.ifCond .ne 15, 3) := by decide +kernel
theorem dL_law_1487 : decode cL_law 1487 = .ok (.aload_n 3, 1) := by decide +kernel
theorem dL_law_1488 : decode cL_law 1488 = .ok (.iconst 0, 1) := by decide +kernel
theorem dL_law_1489 : decode cL_law 1489 = .ok (.laload, 1) := by decide +kernel
theorem dL_law_1490 : decode cL_law 1490 = .ok (.iload 6, 2) := by decide +kernel
theorem dL_law_1492 : decode cL_law 1492 = .ok (.i2l, 1) := by decide +kernel
theorem dL_law_1493 : decode cL_law 1493 = .ok (.lcmp, 1) := by decide +kernel
theorem dL_law_1494 : decode cL_law 1494 = .ok (.ifCond .eq 5, 3) := by decide +kernel
theorem dL_law_1497 : decode cL_law 1497 = .ok (.iconst 0, 1) := by decide +kernel
theorem dL_law_1498 : decode cL_law 1498 = .ok (.ireturn, 1) := by decide +kernel
theorem dL_law_1499 : decode cL_law 1499 = .ok (.goto 114, 3) := by decide +kernel
theorem dL_law_1502 : decode cL_law 1502 = .ok (.aload_n 1, 1) := by decide +kernel
theorem dL_law_1503 : decode cL_law 1503 = .ok (.aload_n 0, 1) := by decide +kernel
theorem dL_law_1504 : decode cL_law 1504 = .ok (.iload 4, 2) := by decide +kernel
theorem dL_law_1506 : decode cL_law 1506 = .ok (.iconst 1, 1) := by decide +kernel
theorem dL_law_1507 : decode cL_law 1507 = .ok (.iadd, 1) := by decide +kernel
theorem dL_law_1508 : decode cL_law 1508 = .ok (.iaload, 1) := by decide +kernel
theorem dL_law_1509 : decode cL_law 1509 = .ok (.aload_n 3, 1) := by decide +kernel
theorem dL_law_1510 : decode cL_law 1510 = .ok (.invokestatic 181, 3) := by decide +kernel
theorem dL_law_1513 : decode cL_law 1513 = .ok (.istore 5, 2) := by decide +kernel
theorem dL_law_1515 : decode cL_law 1515 = .ok (.aload_n 2, 1) := by decide +kernel
theorem dL_law_1516 : decode cL_law 1516 = .ok (.aload_n 0, 1) := by decide +kernel
theorem dL_law_1517 : decode cL_law 1517 = .ok (.iload 4, 2) := by decide +kernel
theorem dL_law_1519 : decode cL_law 1519 = .ok (.iconst 1, 1) := by decide +kernel
theorem dL_law_1520 : decode cL_law 1520 = .ok (.iadd, 1) := by decide +kernel
theorem dL_law_1521 : decode cL_law 1521 = .ok (.iaload, 1) := by decide +kernel
theorem dL_law_1522 : decode cL_law 1522 = .ok (.invokevirtual 183, 3) := by decide +kernel
theorem dL_law_1525 : decode cL_law 1525 = .ok (.istore 6, 2) := by decide +kernel
theorem dL_law_1527 : decode cL_law 1527 = .ok (.aload_n 2, 1) := by decide +kernel
theorem dL_law_1528 : decode cL_law 1528 = .ok (.invokevirtual 97, 3) := by decide +kernel
theorem dL_law_1531 : decode cL_law 1531 = .ok (.iload 5, 2) := by decide +kernel
theorem dL_law_1533 : decode cL_law 1533 = .ok (.if_icmp .eq 5, 3) := by decide +kernel
theorem dL_law_1536 : decode cL_law 1536 = .ok (.iconst 0, 1) := by decide +kernel
theorem dL_law_1537 : decode cL_law 1537 = .ok (.ireturn, 1) := by decide +kernel
theorem dL_law_1538 : decode cL_law 1538 = .ok (.iload 5, 2) := by decide +kernel
theorem dL_law_1540 : decode cL_law 1540 = .ok (.ifCond .ne 15, 3) := by decide +kernel
theorem dL_law_1543 : decode cL_law 1543 = .ok (.aload_n 3, 1) := by decide +kernel
theorem dL_law_1544 : decode cL_law 1544 = .ok (.iconst 0, 1) := by decide +kernel
theorem dL_law_1545 : decode cL_law 1545 = .ok (.laload, 1) := by decide +kernel
theorem dL_law_1546 : decode cL_law 1546 = .ok (.iload 6, 2) := by decide +kernel
theorem dL_law_1548 : decode cL_law 1548 = .ok (.i2l, 1) := by decide +kernel
theorem dL_law_1549 : decode cL_law 1549 = .ok (.lcmp, 1) := by decide +kernel
theorem dL_law_1550 : decode cL_law 1550 = .ok (.ifCond .eq 5, 3) := by decide +kernel
theorem dL_law_1553 : decode cL_law 1553 = .ok (.iconst 0, 1) := by decide +kernel
theorem dL_law_1554 : decode cL_law 1554 = .ok (.ireturn, 1) := by decide +kernel
theorem dL_law_1555 : decode cL_law 1555 = .ok (.goto 58, 3) := by decide +kernel
theorem dL_law_1558 : decode cL_law 1558 = .ok (.aload_n 1, 1) := by decide +kernel
theorem dL_law_1559 : decode cL_law 1559 = .ok (.invokevirtual 184, 3) := by decide +kernel
theorem dL_law_1562 : decode cL_law 1562 = .ok (.dstore 5, 2) := by decide +kernel
theorem dL_law_1564 : decode cL_law 1564 = .ok (.aload_n 2, 1) := by decide +kernel
theorem dL_law_1565 : decode cL_law 1565 = .ok (.invokevirtual 188, 3) := by decide +kernel
theorem dL_law_1568 : decode cL_law 1568 = .ok (.dstore 7, 2) := by decide +kernel
theorem dL_law_1570 : decode cL_law 1570 = .ok (.dload 5, 2) := by decide +kernel
theorem dL_law_1572 : decode cL_law 1572 = .ok (.dload 7, 2) := by decide +kernel
theorem dL_law_1574 : decode cL_law 1574 = .ok (.dcmp .l, 1) := by decide +kernel
theorem dL_law_1575 : decode cL_law 1575 = .ok (.ifCond .eq 21, 3) := by decide +kernel
theorem dL_law_1578 : decode cL_law 1578 = .ok (.dload 5, 2) := by decide +kernel
theorem dL_law_1580 : decode cL_law 1580 = .ok (.dload 5, 2) := by decide +kernel
theorem dL_law_1582 : decode cL_law 1582 = .ok (.dcmp .l, 1) := by decide +kernel
theorem dL_law_1583 : decode cL_law 1583 = .ok (.ifCond .eq 11, 3) := by decide +kernel
theorem dL_law_1586 : decode cL_law 1586 = .ok (.dload 7, 2) := by decide +kernel
theorem dL_law_1588 : decode cL_law 1588 = .ok (.dload 7, 2) := by decide +kernel
theorem dL_law_1590 : decode cL_law 1590 = .ok (.dcmp .l, 1) := by decide +kernel
theorem dL_law_1591 : decode cL_law 1591 = .ok (.ifCond .ne 5, 3) := by decide +kernel
theorem dL_law_1594 : decode cL_law 1594 = .ok (.iconst 0, 1) := by decide +kernel
theorem dL_law_1595 : decode cL_law 1595 = .ok (.ireturn, 1) := by decide +kernel
theorem dL_law_1596 : decode cL_law 1596 = .ok (.goto 17, 3) := by decide +kernel
theorem dL_law_1599 : decode cL_law 1599 = .ok (.aload_n 1, 1) := by decide +kernel
theorem dL_law_1600 : decode cL_law 1600 = .ok (.invokevirtual 189, 3) := by decide +kernel
theorem dL_law_1603 : decode cL_law 1603 = .ok (.aload_n 2, 1) := by decide +kernel
theorem dL_law_1604 : decode cL_law 1604 = .ok (.invokevirtual 193, 3) := by decide +kernel
theorem dL_law_1607 : decode cL_law 1607 = .ok (.lcmp, 1) := by decide +kernel
theorem dL_law_1608 : decode cL_law 1608 = .ok (.ifCond .eq 5, 3) := by decide +kernel
theorem dL_law_1611 : decode cL_law 1611 = .ok (.iconst 0, 1) := by decide +kernel
theorem dL_law_1612 : decode cL_law 1612 = .ok (.ireturn, 1) := by decide +kernel
theorem dL_law_1613 : decode cL_law 1613 = .ok (.iinc 4 5, 3) := by decide +kernel
theorem dL_law_1616 : decode cL_law 1616 = .ok (.goto (-1593), 3) := by decide +kernel
theorem dL_law_1619 : decode cL_law 1619 = .ok (.iconst 1, 1) := by decide +kernel
theorem dL_law_1620 : decode cL_law 1620 = .ok (.ireturn, 1) := by decide +kernel
