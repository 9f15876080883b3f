theorem d_Tide_image_12 : decode c_Tide_image 12 = .ok (.iconst 1, 1) := by decide +kernel
theorem d_Tide_image_13 : decode c_Tide_image 13 = .ok (.putfield 292, 3) := by decide +kernel
theorem d_Tide_image_16 : decode c_Tide_image 16 = .ok (.iconst 1, 1) := by decide +kernel
theorem d_Tide_image_17 : decode c_Tide_image 17 = .ok (.ireturn, 1) := by decide +kernel
theorem d_Tide_undo_0 : decode c_Tide_undo 0 = .ok (.aload_n 0, 1) := by decide +kernel
theorem d_Tide_undo_1 : decode c_Tide_undo 1 = .ok (.getfield 292, 3) := by decide +kernel
theorem d_Tide_undo_4 : decode c_Tide_undo 4 = .ok (.ifCond .ne 10, 3) := by decide +kernel
theorem d_Tide_undo_7 : decode c_Tide_undo 7 = .ok (.aload_n 0, 1) := by decide +kernel
theorem d_Tide_undo_8 : decode c_Tide_undo 8 = .ok (.ldc 198, 2) := by decide +kernel
theorem d_Tide_undo_10 : decode c_Tide_undo 10 = .ok (.invokevirtual 69, 3) := by decide +kernel
theorem d_Tide_undo_13 : decode c_Tide_undo 13 = .ok (.ireturn, 1) := by decide +kernel
theorem d_Tide_undo_14 : decode c_Tide_undo 14 = .ok (.aload_n 0, 1) := by decide +kernel
theorem d_Tide_undo_15 : decode c_Tide_undo 15 = .ok (.getfield 16, 3) := by decide +kernel
theorem d_Tide_undo_18 : decode c_Tide_undo 18 = .ok (.aload_n 0, 1) := by decide +kernel
theorem d_Tide_undo_19 : decode c_Tide_undo 19 = .ok (.getfield 20, 3) := by decide +kernel
theorem d_Tide_undo_22 : decode c_Tide_undo 22 = .ok (.invokevirtual 241, 3) := by decide +kernel
theorem d_Tide_undo_25 : decode c_Tide_undo 25 = .ok (.aload_n 0, 1) := by decide +kernel
theorem d_Tide_undo_26 : decode c_Tide_undo 26 = .ok (.getfield 16, 3) := by decide +kernel
theorem d_Tide_undo_29 : decode c_Tide_undo 29 = .ok (.getfield 166, 3) := by decide +kernel
theorem d_Tide_undo_32 : decode c_Tide_undo 32 = .ok (.ireturn, 1) := by decide +kernel
theorem d_Tide_tear_0 : decode c_Tide_tear 0 = .ok (.aload_n 0, 1) := by decide +kernel
theorem d_Tide_tear_1 : decode c_Tide_tear 1 = .ok (.getfield 292, 3) := by decide +kernel
theorem d_Tide_tear_4 : decode c_Tide_tear 4 = .ok (.ifCond .eq 7, 3) := by decide +kernel
theorem d_Tide_tear_7 : decode c_Tide_tear 7 = .ok (.iconst 1, 1) := by decide +kernel
theorem d_Tide_tear_8 : decode c_Tide_tear 8 = .ok (.goto 4, 3) := by decide +kernel
theorem d_Tide_tear_11 : decode c_Tide_tear 11 = .ok (.iconst 0, 1) := by decide +kernel
theorem d_Tide_tear_12 : decode c_Tide_tear 12 = .ok (.istore_n 1, 1) := by decide +kernel
theorem d_Tide_tear_13 : decode c_Tide_tear 13 = .ok (.aload_n 0, 1) := by decide +kernel
theorem d_Tide_tear_14 : decode c_Tide_tear 14 = .ok (.iconst 0, 1) := by decide +kernel
theorem d_Tide_tear_15 : decode c_Tide_tear 15 = .ok (.putfield 292, 3) := by decide +kernel
theorem d_Tide_tear_18 : decode c_Tide_tear 18 = .ok (.iload_n 1, 1) := by decide +kernel
theorem d_Tide_tear_19 : decode c_Tide_tear 19 = .ok (.ireturn, 1) := by decide +kernel
theorem d_Tide_count_0 : decode c_Tide_count 0 = .ok (.iload_n 1, 1) := by decide +kernel
theorem d_Tide_count_1 : decode c_Tide_count 1 = .ok (.tableswitch 67 0 3 #[31, 39, 47, 59], 31) := by decide +kernel
theorem d_Tide_count_32 : decode c_Tide_count 32 = .ok (.aload_n 0, 1) := by decide +kernel
theorem d_Tide_count_33 : decode c_Tide_count 33 = .ok (.getfield 16, 3) := by decide +kernel
theorem d_Tide_count_36 : decode c_Tide_count 36 = .ok (.getfield 166, 3) := by decide +kernel
theorem d_Tide_count_39 : decode c_Tide_count 39 = .ok (.ireturn, 1) := by decide +kernel
theorem d_Tide_count_40 : decode c_Tide_count 40 = .ok (.aload_n 0, 1) := by decide +kernel
theorem d_Tide_count_41 : decode c_Tide_count 41 = .ok (.getfield 29, 3) := by decide +kernel
theorem d_Tide_count_44 : decode c_Tide_count 44 = .ok (.getfield 234, 3) := by decide +kernel
theorem d_Tide_count_47 : decode c_Tide_count 47 = .ok (.ireturn, 1) := by decide +kernel
theorem d_Tide_count_48 : decode c_Tide_count 48 = .ok (.aload_n 0, 1) := by decide +kernel
theorem d_Tide_count_49 : decode c_Tide_count 49 = .ok (.getfield 16, 3) := by decide +kernel
theorem d_Tide_count_52 : decode c_Tide_count 52 = .ok (.iconst 0, 1) := by decide +kernel
theorem d_Tide_count_53 : decode c_Tide_count 53 = .ok (.invokevirtual 177, 3) := by decide +kernel
theorem d_Tide_count_56 : decode c_Tide_count 56 = .ok (.invokestatic 155, 3) := by decide +kernel
theorem d_Tide_count_59 : decode c_Tide_count 59 = .ok (.ireturn, 1) := by decide +kernel
theorem d_Tide_count_60 : decode c_Tide_count 60 = .ok (.aload_n 0, 1) := by decide +kernel
theorem d_Tide_count_61 : decode c_Tide_count 61 = .ok (.getfield 16, 3) := by decide +kernel
theorem d_Tide_count_64 : decode c_Tide_count 64 = .ok (.invokevirtual 296, 3) := by decide +kernel
theorem d_Tide_count_67 : decode c_Tide_count 67 = .ok (.ireturn, 1) := by decide +kernel
theorem d_Tide_count_68 : decode c_Tide_count 68 = .ok (.aload_n 0, 1) := by decide +kernel
theorem d_Tide_count_69 : decode c_Tide_count 69 = .ok (.ldc 68, 2) := by decide +kernel
theorem d_Tide_count_71 : decode c_Tide_count 71 = .ok (.invokevirtual 69, 3) := by decide +kernel
theorem d_Tide_count_74 : decode c_Tide_count 74 = .ok (.ireturn, 1) := by decide +kernel
theorem d_Tide_status_0 : decode c_Tide_status 0 = .ok (.iload_n 1, 1) := by decide +kernel
theorem d_Tide_status_1 : decode c_Tide_status 1 = .ok (.bipush 7, 2) := by decide +kernel
theorem d_Tide_status_3 : decode c_Tide_status 3 = .ok (.invokestatic 64, 3) := by decide +kernel
theorem d_Tide_status_6 : decode c_Tide_status 6 = .ok (.ifCond .eq 10, 3) := by decide +kernel
theorem d_Tide_status_9 : decode c_Tide_status 9 = .ok (.aload_n 0, 1) := by decide +kernel
theorem d_Tide_status_10 : decode c_Tide_status 10 = .ok (.getfield 9, 3) := by decide +kernel
theorem d_Tide_status_13 : decode c_Tide_status 13 = .ok (.iload_n 1, 1) := by decide +kernel
theorem d_Tide_status_14 : decode c_Tide_status 14 = .ok (.iaload, 1) := by decide +kernel
theorem d_Tide_status_15 : decode c_Tide_status 15 = .ok (.ireturn, 1) := by decide +kernel
theorem d_Tide_status_16 : decode c_Tide_status 16 = .ok (.iload_n 1, 1) := by decide +kernel
theorem d_Tide_status_17 : decode c_Tide_status 17 = .ok (.iconst (-1), 1) := by decide +kernel
theorem d_Tide_status_18 : decode c_Tide_status 18 = .ok (.if_icmp .eq 10, 3) := by decide +kernel
theorem d_Tide_status_21 : decode c_Tide_status 21 = .ok (.aload_n 0, 1) := by decide +kernel
theorem d_Tide_status_22 : decode c_Tide_status 22 = .ok (.ldc 68, 2) := by decide +kernel
theorem d_Tide_status_24 : decode c_Tide_status 24 = .ok (.invokevirtual 69, 3) := by decide +kernel
theorem d_Tide_status_27 : decode c_Tide_status 27 = .ok (.ireturn, 1) := by decide +kernel
theorem d_Tide_status_28 : decode c_Tide_status 28 = .ok (.iconst 0, 1) := by decide +kernel
theorem d_Tide_status_29 : decode c_Tide_status 29 = .ok (.istore_n 2, 1) := by decide +kernel
theorem d_Tide_status_30 : decode c_Tide_status 30 = .ok (.iconst 0, 1) := by decide +kernel
theorem d_Tide_status_31 : decode c_Tide_status 31 = .ok (.istore_n 3, 1) := by decide +kernel
theorem d_Tide_status_32 : decode c_Tide_status 32 = .ok (.iload_n 3, 1) := by decide +kernel
theorem d_Tide_status_33 : decode c_Tide_status 33 = .ok (.bipush 7, 2) := by decide +kernel
theorem d_Tide_status_35 : decode c_Tide_status 35 = .ok (.if_icmp .ge 18, 3) := by decide +kernel
theorem d_Tide_status_38 : decode c_Tide_status 38 = .ok (.iload_n 2, 1) := by decide +kernel
theorem d_Tide_status_39 : decode c_Tide_status 39 = .ok (.aload_n 0, 1) := by decide +kernel
theorem d_Tide_status_40 : decode c_Tide_status 40 = .ok (.getfield 9, 3) := by decide +kernel
theorem d_Tide_status_43 : decode c_Tide_status 43 = .ok (.iload_n 3, 1) := by decide +kernel
theorem d_Tide_status_44 : decode c_Tide_status 44 = .ok (.iaload, 1) := by decide +kernel
theorem d_Tide_status_45 : decode c_Tide_status 45 = .ok (.iadd, 1) := by decide +kernel
theorem d_Tide_status_46 : decode c_Tide_status 46 = .ok (.istore_n 2, 1) := by decide +kernel
theorem d_Tide_status_47 : decode c_Tide_status 47 = .ok (.iinc 3 1, 3) := by decide +kernel
theorem d_Tide_status_50 : decode c_Tide_status 50 = .ok (.goto (-18), 3) := by decide +kernel
theorem d_Tide_status_53 : decode c_Tide_status 53 = .ok (.iload_n 2, 1) := by decide +kernel
theorem d_Tide_status_54 : decode c_Tide_status 54 = .ok (.ireturn, 1) := by decide +kernel
theorem d_Model_isIn_0 : decode c_Model_isIn 0 = .ok (.lload_n 0, 1) := by decide +kernel
theorem d_Model_isIn_1 : decode c_Model_isIn 1 = .ok (.lload_n 2, 1) := by decide +kernel
theorem d_Model_isIn_2 : decode c_Model_isIn 2 = .ok (.lcmp, 1) := by decide +kernel
theorem d_Model_isIn_3 : decode c_Model_isIn 3 = .ok (.ifCond .lt 14, 3) := by decide +kernel
theorem d_Model_isIn_6 : decode c_Model_isIn 6 = .ok (.lload_n 0, 1) := by decide +kernel
theorem d_Model_isIn_7 : decode c_Model_isIn 7 = .ok (.lload 4, 2) := by decide +kernel
theorem d_Model_isIn_9 : decode c_Model_isIn 9 = .ok (.lcmp, 1) := by decide +kernel
theorem d_Model_isIn_10 : decode c_Model_isIn 10 = .ok (.ifCond .gt 7, 3) := by decide +kernel
theorem d_Model_isIn_13 : decode c_Model_isIn 13 = .ok (.iconst 1, 1) := by decide +kernel
theorem d_Model_isIn_14 : decode c_Model_isIn 14 = .ok (.goto 4, 3) := by decide +kernel
theorem d_Model_isIn_17 : decode c_Model_isIn 17 = .ok (.iconst 0, 1) := by decide +kernel
theorem d_Model_isIn_18 : decode c_Model_isIn 18 = .ok (.ireturn, 1) := by decide +kernel
theorem d_Model_finds_0 : decode c_Model_finds 0 = .ok (.aload_n 0, 1) := by decide +kernel
theorem d_Model_finds_1 : decode c_Model_finds 1 = .ok (.getfield 22, 3) := by decide +kernel
theorem d_Model_finds_4 : decode c_Model_finds 4 = .ok (.iconst 0, 1) := by decide +kernel
theorem d_Model_finds_5 : decode c_Model_finds 5 = .ok (.dup2, 1) := by decide +kernel
theorem d_Model_finds_6 : decode c_Model_finds 6 = .ok (.iaload, 1) := by decide +kernel
theorem d_Model_finds_7 : decode c_Model_finds 7 = .ok (.iconst 1, 1) := by decide +kernel
theorem d_Model_finds_8 : decode c_Model_finds 8 = .ok (.iadd, 1) := by decide +kernel
theorem d_Model_finds_9 : decode c_Model_finds 9 = .ok (.iastore, 1) := by decide +kernel
theorem d_Model_finds_10 : decode c_Model_finds 10 = .ok (.aload_n 0, 1) := by decide +kernel
theorem d_Model_finds_11 : decode c_Model_finds 11 = .ok (.getfield 22, 3) := by decide +kernel
theorem d_Model_finds_14 : decode c_Model_finds 14 = .ok (.ldc 38, 2) := by decide +kernel
theorem d_Model_finds_16 : decode c_Model_finds 16 = .ok (.iload_n 1, 1) := by decide +kernel
theorem d_Model_finds_17 : decode c_Model_finds 17 = .ok (.isub, 1) := by decide +kernel
theorem d_Model_finds_18 : decode c_Model_finds 18 = .ok (.iconst 1, 1) := by decide +kernel
theorem d_Model_finds_19 : decode c_Model_finds 19 = .ok (.iadd, 1) := by decide +kernel
theorem d_Model_finds_20 : decode c_Model_finds 20 = .ok (.dup2, 1) := by decide +kernel
theorem d_Model_finds_21 : decode c_Model_finds 21 = .ok (.iaload, 1) := by decide +kernel
theorem d_Model_finds_22 : decode c_Model_finds 22 = .ok (.iconst 1, 1) := by decide +kernel
theorem d_Model_finds_23 : decode c_Model_finds 23 = .ok (.iadd, 1) := by decide +kernel
theorem d_Model_finds_24 : decode c_Model_finds 24 = .ok (.iastore, 1) := by decide +kernel
theorem d_Model_finds_25 : decode c_Model_finds 25 = .ok (.iload_n 1, 1) := by decide +kernel
theorem d_Model_finds_26 : decode c_Model_finds 26 = .ok (.ireturn, 1) := by decide +kernel
theorem d_Model_becomes_0 : decode c_Model_becomes 0 = .ok (.aload_n 0, 1) := by decide +kernel
theorem d_Model_becomes_1 : decode c_Model_becomes 1 = .ok (.getfield 7, 3) := by decide +kernel
theorem d_Model_becomes_4 : decode c_Model_becomes 4 = .ok (.iload_n 1, 1) := by decide +kernel
theorem d_Model_becomes_5 : decode c_Model_becomes 5 = .ok (.iaload, 1) := by decide +kernel
theorem d_Model_becomes_6 : decode c_Model_becomes 6 = .ok (.istore_n 3, 1) := by decide +kernel
theorem d_Model_becomes_7 : decode c_Model_becomes 7 = .ok (.aload_n 0, 1) := by decide +kernel
theorem d_Model_becomes_8 : decode c_Model_becomes 8 = .ok (.getfield 7, 3) := by decide +kernel
theorem d_Model_becomes_11 : decode c_Model_becomes 11 = .ok (.iload_n 1, 1) := by decide +kernel
theorem d_Model_becomes_12 : decode c_Model_becomes 12 = .ok (.iload_n 2, 1) := by decide +kernel
theorem d_Model_becomes_13 : decode c_Model_becomes 13 = .ok (.iastore, 1) := by decide +kernel
theorem d_Model_becomes_14 : decode c_Model_becomes 14 = .ok (.iload_n 3, 1) := by decide +kernel
theorem d_Model_becomes_15 : decode c_Model_becomes 15 = .ok (.ireturn, 1) := by decide +kernel
theorem d_Model_copyRow_0 : decode c_Model_copyRow 0 = .ok (.iconst 0, 1) := by decide +kernel
theorem d_Model_copyRow_1 : decode c_Model_copyRow 1 = .ok (.istore_n 2, 1) := by decide +kernel
theorem d_Model_copyRow_2 : decode c_Model_copyRow 2 = .ok (.iload_n 2, 1) := by decide +kernel
theorem d_Model_copyRow_3 : decode c_Model_copyRow 3 = .ok (.bipush 83, 2) := by decide +kernel
theorem d_Model_copyRow_5 : decode c_Model_copyRow 5 = .ok (.if_icmp .ge 15, 3) := by decide +kernel
theorem d_Model_copyRow_8 : decode c_Model_copyRow 8 = .ok (.aload_n 1, 1) := by decide +kernel
theorem d_Model_copyRow_9 : decode c_Model_copyRow 9 = .ok (.iload_n 2, 1) := by decide +kernel
theorem d_Model_copyRow_10 : decode c_Model_copyRow 10 = .ok (.aload_n 0, 1) := by decide +kernel
theorem d_Model_copyRow_11 : decode c_Model_copyRow 11 = .ok (.iload_n 2, 1) := by decide +kernel
theorem d_Model_copyRow_12 : decode c_Model_copyRow 12 = .ok (.iaload, 1) := by decide +kernel
theorem d_Model_copyRow_13 : decode c_Model_copyRow 13 = .ok (.iastore, 1) := by decide +kernel
theorem d_Model_copyRow_14 : decode c_Model_copyRow 14 = .ok (.iinc 2 1, 3) := by decide +kernel
theorem d_Model_copyRow_17 : decode c_Model_copyRow 17 = .ok (.goto (-15), 3) := by decide +kernel
theorem d_Model_copyRow_20 : decode c_Model_copyRow 20 = .ok (.return_, 1) := by decide +kernel
theorem d_Model_isCell_0 : decode c_Model_isCell 0 = .ok (.iload_n 0, 1) := by decide +kernel
theorem d_Model_isCell_1 : decode c_Model_isCell 1 = .ok (.ifCond .lt 13, 3) := by decide +kernel
theorem d_Model_isCell_4 : decode c_Model_isCell 4 = .ok (.iload_n 0, 1) := by decide +kernel
theorem d_Model_isCell_5 : decode c_Model_isCell 5 = .ok (.bipush 16, 2) := by decide +kernel
theorem d_Model_isCell_7 : decode c_Model_isCell 7 = .ok (.if_icmp .ge 7, 3) := by decide +kernel
theorem d_Model_isCell_10 : decode c_Model_isCell 10 = .ok (.iconst 1, 1) := by decide +kernel
theorem d_Model_isCell_11 : decode c_Model_isCell 11 = .ok (.goto 4, 3) := by decide +kernel
theorem d_Model_isCell_14 : decode c_Model_isCell 14 = .ok (.iconst 0, 1) := by decide +kernel
theorem d_Model_isCell_15 : decode c_Model_isCell 15 = .ok (.ireturn, 1) := by decide +kernel
theorem d_Model_isFamily_0 : decode c_Model_isFamily 0 = .ok (.iload_n 0, 1) := by decide +kernel
theorem d_Model_isFamily_1 : decode c_Model_isFamily 1 = .ok (.ifCond .lt 12, 3) := by decide +kernel
theorem d_Model_isFamily_4 : decode c_Model_isFamily 4 = .ok (.iload_n 0, 1) := by decide +kernel
theorem d_Model_isFamily_5 : decode c_Model_isFamily 5 = .ok (.iconst 4, 1) := by decide +kernel
theorem d_Model_isFamily_6 : decode c_Model_isFamily 6 = .ok (.if_icmp .ge 7, 3) := by decide +kernel
theorem d_Model_isFamily_9 : decode c_Model_isFamily 9 = .ok (.iconst 1, 1) := by decide +kernel
theorem d_Model_isFamily_10 : decode c_Model_isFamily 10 = .ok (.goto 4, 3) := by decide +kernel
theorem d_Model_isFamily_13 : decode c_Model_isFamily 13 = .ok (.iconst 0, 1) := by decide +kernel
theorem d_Model_isFamily_14 : decode c_Model_isFamily 14 = .ok (.ireturn, 1) := by decide +kernel
theorem d_Model_isThing_0 : decode c_Model_isThing 0 = .ok (.iload_n 1, 1) := by decide +kernel
theorem d_Model_isThing_1 : decode c_Model_isThing 1 = .ok (.ifCond .lt 17, 3) := by decide +kernel
theorem d_Model_isThing_4 : decode c_Model_isThing 4 = .ok (.iload_n 1, 1) := by decide +kernel
theorem d_Model_isThing_5 : decode c_Model_isThing 5 = .ok (.aload_n 0, 1) := by decide +kernel
theorem d_Model_isThing_6 : decode c_Model_isThing 6 = .ok (.getfield 7, 3) := by decide +kernel
theorem d_Model_isThing_9 : decode c_Model_isThing 9 = .ok (.iconst 0, 1) := by decide +kernel
theorem d_Model_isThing_10 : decode c_Model_isThing 10 = .ok (.iaload, 1) := by decide +kernel
theorem d_Model_isThing_11 : decode c_Model_isThing 11 = .ok (.if_icmp .ge 7, 3) := by decide +kernel
theorem d_Model_isThing_14 : decode c_Model_isThing 14 = .ok (.iconst 1, 1) := by decide +kernel
theorem d_Model_isThing_15 : decode c_Model_isThing 15 = .ok (.goto 4, 3) := by decide +kernel
theorem d_Model_isThing_18 : decode c_Model_isThing 18 = .ok (.iconst 0, 1) := by decide +kernel
theorem d_Model_isThing_19 : decode c_Model_isThing 19 = .ok (.ireturn, 1) := by decide +kernel
theorem d_Model_at_0 : decode c_Model_at 0 = .ok (.bipush 23, 2) := by decide +kernel
theorem d_Model_at_2 : decode c_Model_at 2 = .ok (.bipush 6, 2) := by decide +kernel
theorem d_Model_at_4 : decode c_Model_at 4 = .ok (.iload_n 0, 1) := by decide +kernel
theorem d_Model_at_5 : decode c_Model_at 5 = .ok (.imul, 1) := by decide +kernel
theorem d_Model_at_6 : decode c_Model_at 6 = .ok (.iadd, 1) := by decide +kernel
theorem d_Model_at_7 : decode c_Model_at 7 = .ok (.iload_n 1, 1) := by decide +kernel
theorem d_Model_at_8 : decode c_Model_at 8 = .ok (.iadd, 1) := by decide +kernel
theorem d_Model_at_9 : decode c_Model_at 9 = .ok (.ireturn, 1) := by decide +kernel
theorem d_Model_its_0 : decode c_Model_its 0 = .ok (.aload_n 0, 1) := by decide +kernel
theorem d_Model_its_1 : decode c_Model_its 1 = .ok (.getfield 7, 3) := by decide +kernel
theorem d_Model_its_4 : decode c_Model_its 4 = .ok (.bipush 23, 2) := by decide +kernel
theorem d_Model_its_6 : decode c_Model_its 6 = .ok (.bipush 6, 2) := by decide +kernel
theorem d_Model_its_8 : decode c_Model_its 8 = .ok (.iload_n 1, 1) := by decide +kernel
theorem d_Model_its_9 : decode c_Model_its 9 = .ok (.imul, 1) := by decide +kernel
theorem d_Model_its_10 : decode c_Model_its 10 = .ok (.iadd, 1) := by decide +kernel
theorem d_Model_its_11 : decode c_Model_its 11 = .ok (.iload_n 2, 1) := by decide +kernel
theorem d_Model_its_12 : decode c_Model_its 12 = .ok (.iadd, 1) := by decide +kernel
theorem d_Model_its_13 : decode c_Model_its 13 = .ok (.iaload, 1) := by decide +kernel
theorem d_Model_its_14 : decode c_Model_its 14 = .ok (.ireturn, 1) := by decide +kernel
theorem d_Model_isIt_0 : decode c_Model_isIt 0 = .ok (.aload_n 0, 1) := by decide +kernel
theorem d_Model_isIt_1 : decode c_Model_isIt 1 = .ok (.iload_n 1, 1) := by decide +kernel
theorem d_Model_isIt_2 : decode c_Model_isIt 2 = .ok (.iconst 4, 1) := by decide +kernel
theorem d_Model_isIt_3 : decode c_Model_isIt 3 = .ok (.invokevirtual 39, 3) := by decide +kernel
theorem d_Model_isIt_6 : decode c_Model_isIt 6 = .ok (.iload_n 2, 1) := by decide +kernel
theorem d_Model_isIt_7 : decode c_Model_isIt 7 = .ok (.if_icmp .ne 7, 3) := by decide +kernel
theorem d_Model_isIt_10 : decode c_Model_isIt 10 = .ok (.iconst 1, 1) := by decide +kernel
theorem d_Model_isIt_11 : decode c_Model_isIt 11 = .ok (.goto 4, 3) := by decide +kernel
theorem d_Model_isIt_14 : decode c_Model_isIt 14 = .ok (.iconst 0, 1) := by decide +kernel
theorem d_Model_isIt_15 : decode c_Model_isIt 15 = .ok (.ireturn, 1) := by decide +kernel
theorem d_Model_orNone_0 : decode c_Model_orNone 0 = .ok (.iload_n 1, 1) := by decide +kernel
theorem d_Model_orNone_1 : decode c_Model_orNone 1 = .ok (.ifCond .ge 12, 3) := by decide +kernel
theorem d_Model_orNone_4 : decode c_Model_orNone 4 = .ok (.aload_n 0, 1) := by decide +kernel
theorem d_Model_orNone_5 : decode c_Model_orNone 5 = .ok (.ldc 43, 2) := by decide +kernel
theorem d_Model_orNone_7 : decode c_Model_orNone 7 = .ok (.invokevirtual 44, 3) := by decide +kernel
theorem d_Model_orNone_10 : decode c_Model_orNone 10 = .ok (.goto 4, 3) := by decide +kernel
theorem d_Model_orNone_13 : decode c_Model_orNone 13 = .ok (.iload_n 1, 1) := by decide +kernel
theorem d_Model_orNone_14 : decode c_Model_orNone 14 = .ok (.ireturn, 1) := by decide +kernel
theorem d_Model_many_0 : decode c_Model_many 0 = .ok (.iconst 0, 1) := by decide +kernel
theorem d_Model_many_1 : decode c_Model_many 1 = .ok (.istore_n 1, 1) := by decide +kernel
theorem d_Model_many_2 : decode c_Model_many 2 = .ok (.iload_n 0, 1) := by decide +kernel
theorem d_Model_many_3 : decode c_Model_many 3 = .ok (.istore_n 2, 1) := by decide +kernel
theorem d_Model_many_4 : decode c_Model_many 4 = .ok (.iload_n 2, 1) := by decide +kernel
theorem d_Model_many_5 : decode c_Model_many 5 = .ok (.ifCond .eq 15, 3) := by decide +kernel
theorem d_Model_many_8 : decode c_Model_many 8 = .ok (.iinc 1 1, 3) := by decide +kernel
theorem d_Model_many_11 : decode c_Model_many 11 = .ok (.iload_n 2, 1) := by decide +kernel
theorem d_Model_many_12 : decode c_Model_many 12 = .ok (.iload_n 2, 1) := by decide +kernel
theorem d_Model_many_13 : decode c_Model_many 13 = .ok (.iconst 1, 1) := by decide +kernel
theorem d_Model_many_14 : decode c_Model_many 14 = .ok (.isub, 1) := by decide +kernel
theorem d_Model_many_15 : decode c_Model_many 15 = .ok (.iand, 1) := by decide +kernel
theorem d_Model_many_16 : decode c_Model_many 16 = .ok (.istore_n 2, 1) := by decide +kernel
theorem d_Model_many_17 : decode c_Model_many 17 = .ok (.goto (-13), 3) := by decide +kernel
theorem d_Model_many_20 : decode c_Model_many 20 = .ok (.iload_n 1, 1) := by decide +kernel
theorem d_Model_many_21 : decode c_Model_many 21 = .ok (.ireturn, 1) := by decide +kernel
theorem d_Model_height_0 : decode c_Model_height 0 = .ok (.iload_n 1, 1) := by decide +kernel
theorem d_Model_height_1 : decode c_Model_height 1 = .ok (.invokestatic 48, 3) := by decide +kernel
theorem d_Model_height_4 : decode c_Model_height 4 = .ok (.ifCond .eq 26, 3) := by decide +kernel
theorem d_Model_height_7 : decode c_Model_height 7 = .ok (.iload_n 2, 1) := by decide +kernel
theorem d_Model_height_8 : decode c_Model_height 8 = .ok (.i2l, 1) := by decide +kernel
theorem d_Model_height_9 : decode c_Model_height 9 = .ok (.lconst 0, 1) := by decide +kernel
theorem d_Model_height_10 : decode c_Model_height 10 = .ok (.ldc2_w 52, 3) := by decide +kernel
theorem d_Model_height_13 : decode c_Model_height 13 = .ok (.invokestatic 54, 3) := by decide +kernel
theorem d_Model_height_16 : decode c_Model_height 16 = .ok (.ifCond .eq 14, 3) := by decide +kernel
theorem d_Model_height_19 : decode c_Model_height 19 = .ok (.aload_n 0, 1) := by decide +kernel
theorem d_Model_height_20 : decode c_Model_height 20 = .ok (.iconst 3, 1) := by decide +kernel
theorem d_Model_height_21 : decode c_Model_height 21 = .ok (.iload_n 1, 1) := by decide +kernel
theorem d_Model_height_22 : decode c_Model_height 22 = .ok (.iadd, 1) := by decide +kernel
theorem d_Model_height_23 : decode c_Model_height 23 = .ok (.iload_n 2, 1) := by decide +kernel
theorem d_Model_height_24 : decode c_Model_height 24 = .ok (.invokevirtual 58, 3) := by decide +kernel
theorem d_Model_height_27 : decode c_Model_height 27 = .ok (.goto 9, 3) := by decide +kernel
theorem d_Model_height_30 : decode c_Model_height 30 = .ok (.aload_n 0, 1) := by decide +kernel
theorem d_Model_height_31 : decode c_Model_height 31 = .ok (.ldc 38, 2) := by decide +kernel
theorem d_Model_height_33 : decode c_Model_height 33 = .ok (.invokevirtual 44, 3) := by decide +kernel
theorem d_Model_height_36 : decode c_Model_height 36 = .ok (.ireturn, 1) := by decide +kernel
theorem d_Model_laidAt_0 : decode c_Model_laidAt 0 = .ok (.iconst 0, 1) := by decide +kernel
theorem d_Model_laidAt_1 : decode c_Model_laidAt 1 = .ok (.istore_n 2, 1) := by decide +kernel
theorem d_Model_laidAt_2 : decode c_Model_laidAt 2 = .ok (.iconst 0, 1) := by decide +kernel
theorem d_Model_laidAt_3 : decode c_Model_laidAt 3 = .ok (.istore_n 3, 1) := by decide +kernel
theorem d_Model_laidAt_4 : decode c_Model_laidAt 4 = .ok (.iload_n 3, 1) := by decide +kernel
theorem d_Model_laidAt_5 : decode c_Model_laidAt 5 = .ok (.aload_n 0, 1) := by decide +kernel
theorem d_Model_laidAt_6 : decode c_Model_laidAt 6 = .ok (.getfield 7, 3) := by decide +kernel
theorem d_Model_laidAt_9 : decode c_Model_laidAt 9 = .ok (.iconst 0, 1) := by decide +kernel
theorem d_Model_laidAt_10 : decode c_Model_laidAt 10 = .ok (.iaload, 1) := by decide +kernel
theorem d_Model_laidAt_11 : decode c_Model_laidAt 11 = .ok (.if_icmp .ge 38, 3) := by decide +kernel
theorem d_Model_laidAt_14 : decode c_Model_laidAt 14 = .ok (.iload_n 2, 1) := by decide +kernel
theorem d_Model_laidAt_15 : decode c_Model_laidAt 15 = .ok (.aload_n 0, 1) := by decide +kernel
theorem d_Model_laidAt_16 : decode c_Model_laidAt 16 = .ok (.iload_n 3, 1) := by decide +kernel
theorem d_Model_laidAt_17 : decode c_Model_laidAt 17 = .ok (.iconst 1, 1) := by decide +kernel
theorem d_Model_laidAt_18 : decode c_Model_laidAt 18 = .ok (.invokevirtual 61, 3) := by decide +kernel
theorem d_Model_laidAt_21 : decode c_Model_laidAt 21 = .ok (.ifCond .eq 19, 3) := by decide +kernel
theorem d_Model_laidAt_24 : decode c_Model_laidAt 24 = .ok (.aload_n 0, 1) := by decide +kernel
theorem d_Model_laidAt_25 : decode c_Model_laidAt 25 = .ok (.iload_n 3, 1) := by decide +kernel
theorem d_Model_laidAt_26 : decode c_Model_laidAt 26 = .ok (.iconst 2, 1) := by decide +kernel
theorem d_Model_laidAt_27 : decode c_Model_laidAt 27 = .ok (.invokevirtual 39, 3) := by decide +kernel
theorem d_Model_laidAt_30 : decode c_Model_laidAt 30 = .ok (.iload_n 1, 1) := by decide +kernel
theorem d_Model_laidAt_31 : decode c_Model_laidAt 31 = .ok (.if_icmp .ne 9, 3) := by decide +kernel
theorem d_Model_laidAt_34 : decode c_Model_laidAt 34 = .ok (.iconst 1, 1) := by decide +kernel
theorem d_Model_laidAt_35 : decode c_Model_laidAt 35 = .ok (.iload_n 3, 1) := by decide +kernel
theorem d_Model_laidAt_36 : decode c_Model_laidAt 36 = .ok (.ishl, 1) := by decide +kernel
theorem d_Model_laidAt_37 : decode c_Model_laidAt 37 = .ok (.goto 4, 3) := by decide +kernel
theorem d_Model_laidAt_40 : decode c_Model_laidAt 40 = .ok (.iconst 0, 1) := by decide +kernel
theorem d_Model_laidAt_41 : decode c_Model_laidAt 41 = .ok (.ior, 1) := by decide +kernel
theorem d_Model_laidAt_42 : decode c_Model_laidAt 42 = .ok (.istore_n 2, 1) := by decide +kernel
theorem d_Model_laidAt_43 : decode c_Model_laidAt 43 = .ok (.iinc 3 1, 3) := by decide +kernel
theorem d_Model_laidAt_46 : decode c_Model_laidAt 46 = .ok (.goto (-42), 3) := by decide +kernel
theorem d_Model_laidAt_49 : decode c_Model_laidAt 49 = .ok (.iload_n 2, 1) := by decide +kernel
theorem d_Model_laidAt_50 : decode c_Model_laidAt 50 = .ok (.ireturn, 1) := by decide +kernel
theorem d_Model_cell_0 : decode c_Model_cell 0 = .ok (.iload_n 1, 1) := by decide +kernel
theorem d_Model_cell_1 : decode c_Model_cell 1 = .ok (.invokestatic 48, 3) := by decide +kernel
theorem d_Model_cell_4 : decode c_Model_cell 4 = .ok (.ifCond .eq 13, 3) := by decide +kernel
theorem d_Model_cell_7 : decode c_Model_cell 7 = .ok (.iload_n 2, 1) := by decide +kernel
theorem d_Model_cell_8 : decode c_Model_cell 8 = .ok (.i2l, 1) := by decide +kernel
theorem d_Model_cell_9 : decode c_Model_cell 9 = .ok (.lconst 0, 1) := by decide +kernel
theorem d_Model_cell_10 : decode c_Model_cell 10 = .ok (.lconst 1, 1) := by decide +kernel
theorem d_Model_cell_11 : decode c_Model_cell 11 = .ok (.invokestatic 54, 3) := by decide +kernel
theorem d_Model_cell_14 : decode c_Model_cell 14 = .ok (.ifCond .ne 10, 3) := by decide +kernel
theorem d_Model_cell_17 : decode c_Model_cell 17 = .ok (.aload_n 0, 1) := by decide +kernel
theorem d_Model_cell_18 : decode c_Model_cell 18 = .ok (.ldc 38, 2) := by decide +kernel
theorem d_Model_cell_20 : decode c_Model_cell 20 = .ok (.invokevirtual 44, 3) := by decide +kernel
theorem d_Model_cell_23 : decode c_Model_cell 23 = .ok (.ireturn, 1) := by decide +kernel
theorem d_Model_cell_24 : decode c_Model_cell 24 = .ok (.iload_n 2, 1) := by decide +kernel
theorem d_Model_cell_25 : decode c_Model_cell 25 = .ok (.ifCond .ne 14, 3) := by decide +kernel
theorem d_Model_cell_28 : decode c_Model_cell 28 = .ok (.aload_n 0, 1) := by decide +kernel
theorem d_Model_cell_29 : decode c_Model_cell 29 = .ok (.getfield 7, 3) := by decide +kernel
theorem d_Model_cell_32 : decode c_Model_cell 32 = .ok (.iconst 3, 1) := by decide +kernel
theorem d_Model_cell_33 : decode c_Model_cell 33 = .ok (.iload_n 1, 1) := by decide +kernel
theorem d_Model_cell_34 : decode c_Model_cell 34 = .ok (.iadd, 1) := by decide +kernel
theorem d_Model_cell_35 : decode c_Model_cell 35 = .ok (.iaload, 1) := by decide +kernel
theorem d_Model_cell_36 : decode c_Model_cell 36 = .ok (.goto 8, 3) := by decide +kernel
theorem d_Model_cell_39 : decode c_Model_cell 39 = .ok (.aload_n 0, 1) := by decide +kernel
theorem d_Model_cell_40 : decode c_Model_cell 40 = .ok (.iload_n 1, 1) := by decide +kernel
theorem d_Model_cell_41 : decode c_Model_cell 41 = .ok (.invokevirtual 65, 3) := by decide +kernel
theorem d_Model_cell_44 : decode c_Model_cell 44 = .ok (.ireturn, 1) := by decide +kernel
theorem d_Model_interest_0 : decode c_Model_interest 0 = .ok (.iload_n 1, 1) := by decide +kernel
theorem d_Model_interest_1 : decode c_Model_interest 1 = .ok (.i2l, 1) := by decide +kernel
theorem d_Model_interest_2 : decode c_Model_interest 2 = .ok (.lconst 0, 1) := by decide +kernel
theorem d_Model_interest_3 : decode c_Model_interest 3 = .ok (.ldc2_w 68, 3) := by decide +kernel
theorem d_Model_interest_6 : decode c_Model_interest 6 = .ok (.invokestatic 54, 3) := by decide +kernel
theorem d_Model_interest_9 : decode c_Model_interest 9 = .ok (.ifCond .eq 12, 3) := by decide +kernel
theorem d_Model_interest_12 : decode c_Model_interest 12 = .ok (.aload_n 0, 1) := by decide +kernel
theorem d_Model_interest_13 : decode c_Model_interest 13 = .ok (.iconst 2, 1) := by decide +kernel
theorem d_Model_interest_14 : decode c_Model_interest 14 = .ok (.iload_n 1, 1) := by decide +kernel
theorem d_Model_interest_15 : decode c_Model_interest 15 = .ok (.invokevirtual 58, 3) := by decide +kernel
theorem d_Model_interest_18 : decode c_Model_interest 18 = .ok (.goto 9, 3) := by decide +kernel
theorem d_Model_interest_21 : decode c_Model_interest 21 = .ok (.aload_n 0, 1) := by decide +kernel
theorem d_Model_interest_22 : decode c_Model_interest 22 = .ok (.ldc 38, 2) := by decide +kernel
theorem d_Model_interest_24 : decode c_Model_interest 24 = .ok (.invokevirtual 44, 3) := by decide +kernel
theorem d_Model_interest_27 : decode c_Model_interest 27 = .ok (.ireturn, 1) := by decide +kernel
theorem d_Model_isSpring_0 : decode c_Model_isSpring 0 = .ok (.iload_n 0, 1) := by decide +kernel
theorem d_Model_isSpring_1 : decode c_Model_isSpring 1 = .ok (.bipush 14, 2) := by decide +kernel
theorem d_Model_isSpring_3 : decode c_Model_isSpring 3 = .ok (.irem, 1) := by decide +kernel
theorem d_Model_isSpring_4 : decode c_Model_isSpring 4 = .ok (.ifCond .ne 7, 3) := by decide +kernel
theorem d_Model_isSpring_7 : decode c_Model_isSpring 7 = .ok (.iconst 1, 1) := by decide +kernel
theorem d_Model_isSpring_8 : decode c_Model_isSpring 8 = .ok (.goto 4, 3) := by decide +kernel
theorem d_Model_isSpring_11 : decode c_Model_isSpring 11 = .ok (.iconst 0, 1) := by decide +kernel
theorem d_Model_isSpring_12 : decode c_Model_isSpring 12 = .ok (.ireturn, 1) := by decide +kernel
theorem d_Model_mark_0 : decode c_Model_mark 0 = .ok (.iload_n 0, 1) := by decide +kernel
theorem d_Model_mark_1 : decode c_Model_mark 1 = .ok (.bipush 14, 2) := by decide +kernel
theorem d_Model_mark_3 : decode c_Model_mark 3 = .ok (.irem, 1) := by decide +kernel
theorem d_Model_mark_4 : decode c_Model_mark 4 = .ok (.istore_n 1, 1) := by decide +kernel
theorem d_Model_mark_5 : decode c_Model_mark 5 = .ok (.iload_n 1, 1) := by decide +kernel
theorem d_Model_mark_6 : decode c_Model_mark 6 = .ok (.bipush 7, 2) := by decide +kernel
theorem d_Model_mark_8 : decode c_Model_mark 8 = .ok (.if_icmp .ge 10, 3) := by decide +kernel
theorem d_Model_mark_11 : decode c_Model_mark 11 = .ok (.bipush 9, 2) := by decide +kernel
theorem d_Model_mark_13 : decode c_Model_mark 13 = .ok (.iload_n 1, 1) := by decide +kernel
theorem d_Model_mark_14 : decode c_Model_mark 14 = .ok (.isub, 1) := by decide +kernel
theorem d_Model_mark_15 : decode c_Model_mark 15 = .ok (.goto 6, 3) := by decide +kernel
theorem d_Model_mark_18 : decode c_Model_mark 18 = .ok (.iload_n 1, 1) := by decide +kernel
theorem d_Model_mark_19 : decode c_Model_mark 19 = .ok (.iconst 5, 1) := by decide +kernel
theorem d_Model_mark_20 : decode c_Model_mark 20 = .ok (.isub, 1) := by decide +kernel
theorem d_Model_mark_21 : decode c_Model_mark 21 = .ok (.ireturn, 1) := by decide +kernel
theorem d_Model_tide_0 : decode c_Model_tide 0 = .ok (.iload_n 1, 1) := by decide +kernel
theorem d_Model_tide_1 : decode c_Model_tide 1 = .ok (.i2l, 1) := by decide +kernel
theorem d_Model_tide_2 : decode c_Model_tide 2 = .ok (.lconst 0, 1) := by decide +kernel
theorem d_Model_tide_3 : decode c_Model_tide 3 = .ok (.ldc2_w 70, 3) := by decide +kernel
theorem d_Model_tide_6 : decode c_Model_tide 6 = .ok (.invokestatic 54, 3) := by decide +kernel
theorem d_Model_tide_9 : decode c_Model_tide 9 = .ok (.ifCond .eq 15, 3) := by decide +kernel
theorem d_Model_tide_12 : decode c_Model_tide 12 = .ok (.iload_n 2, 1) := by decide +kernel
theorem d_Model_tide_13 : decode c_Model_tide 13 = .ok (.i2l, 1) := by decide +kernel
theorem d_Model_tide_14 : decode c_Model_tide 14 = .ok (.lconst 0, 1) := by decide +kernel
theorem d_Model_tide_15 : decode c_Model_tide 15 = .ok (.ldc2_w 72, 3) := by decide +kernel
theorem d_Model_tide_18 : decode c_Model_tide 18 = .ok (.invokestatic 54, 3) := by decide +kernel
theorem d_Model_tide_21 : decode c_Model_tide 21 = .ok (.ifCond .ne 10, 3) := by decide +kernel
theorem d_Model_tide_24 : decode c_Model_tide 24 = .ok (.aload_n 0, 1) := by decide +kernel
theorem d_Model_tide_25 : decode c_Model_tide 25 = .ok (.ldc 38, 2) := by decide +kernel
theorem d_Model_tide_27 : decode c_Model_tide 27 = .ok (.invokevirtual 44, 3) := by decide +kernel
theorem d_Model_tide_30 : decode c_Model_tide 30 = .ok (.ireturn, 1) := by decide +kernel
theorem d_Model_tide_31 : decode c_Model_tide 31 = .ok (.iload_n 2, 1) := by decide +kernel
theorem d_Model_tide_32 : decode c_Model_tide 32 = .ok (.iconst 3, 1) := by decide +kernel
theorem d_Model_tide_33 : decode c_Model_tide 33 = .ok (.if_icmp .ge 39, 3) := by decide +kernel
theorem d_Model_tide_36 : decode c_Model_tide 36 = .ok (.iload_n 2, 1) := by decide +kernel
theorem d_Model_tide_37 : decode c_Model_tide 37 = .ok (.ifCond .ne 10, 3) := by decide +kernel
theorem d_Model_tide_40 : decode c_Model_tide 40 = .ok (.iload_n 1, 1) := by decide +kernel
theorem d_Model_tide_41 : decode c_Model_tide 41 = .ok (.invokestatic 74, 3) := by decide +kernel
theorem d_Model_tide_44 : decode c_Model_tide 44 = .ok (.goto 27, 3) := by decide +kernel
theorem d_Model_tide_47 : decode c_Model_tide 47 = .ok (.iload_n 2, 1) := by decide +kernel
theorem d_Model_tide_48 : decode c_Model_tide 48 = .ok (.iconst 1, 1) := by decide +kernel
theorem d_Model_tide_49 : decode c_Model_tide 49 = .ok (.if_icmp .ne 10, 3) := by decide +kernel
theorem d_Model_tide_52 : decode c_Model_tide 52 = .ok (.iload_n 1, 1) := by decide +kernel
theorem d_Model_tide_53 : decode c_Model_tide 53 = .ok (.bipush 28, 2) := by decide +kernel
theorem d_Model_tide_55 : decode c_Model_tide 55 = .ok (.irem, 1) := by decide +kernel
theorem d_Model_tide_56 : decode c_Model_tide 56 = .ok (.goto 15, 3) := by decide +kernel
theorem d_Model_tide_59 : decode c_Model_tide 59 = .ok (.iload_n 1, 1) := by decide +kernel
theorem d_Model_tide_60 : decode c_Model_tide 60 = .ok (.invokestatic 77, 3) := by decide +kernel
theorem d_Model_tide_63 : decode c_Model_tide 63 = .ok (.ifCond .eq 7, 3) := by decide +kernel
theorem d_Model_tide_66 : decode c_Model_tide 66 = .ok (.iconst 1, 1) := by decide +kernel
theorem d_Model_tide_67 : decode c_Model_tide 67 = .ok (.goto 4, 3) := by decide +kernel
theorem d_Model_tide_70 : decode c_Model_tide 70 = .ok (.iconst 0, 1) := by decide +kernel
theorem d_Model_tide_71 : decode c_Model_tide 71 = .ok (.ireturn, 1) := by decide +kernel
theorem d_Model_tide_72 : decode c_Model_tide 72 = .ok (.iconst 0, 1) := by decide +kernel
theorem d_Model_tide_73 : decode c_Model_tide 73 = .ok (.istore_n 3, 1) := by decide +kernel
theorem d_Model_tide_74 : decode c_Model_tide 74 = .ok (.iconst 0, 1) := by decide +kernel
theorem d_Model_tide_75 : decode c_Model_tide 75 = .ok (.istore 4, 2) := by decide +kernel
theorem d_Model_tide_77 : decode c_Model_tide 77 = .ok (.iload 4, 2) := by decide +kernel
theorem d_Model_tide_79 : decode c_Model_tide 79 = .ok (.bipush 16, 2) := by decide +kernel
theorem d_Model_tide_81 : decode c_Model_tide 81 = .ok (.if_icmp .ge 33, 3) := by decide +kernel
theorem d_Model_tide_84 : decode c_Model_tide 84 = .ok (.iload_n 3, 1) := by decide +kernel
theorem d_Model_tide_85 : decode c_Model_tide 85 = .ok (.aload_n 0, 1) := by decide +kernel
theorem d_Model_tide_86 : decode c_Model_tide 86 = .ok (.getfield 7, 3) := by decide +kernel
theorem d_Model_tide_89 : decode c_Model_tide 89 = .ok (.iconst 3, 1) := by decide +kernel
theorem d_Model_tide_90 : decode c_Model_tide 90 = .ok (.iload 4, 2) := by decide +kernel
theorem d_Model_tide_92 : decode c_Model_tide 92 = .ok (.iadd, 1) := by decide +kernel
theorem d_Model_tide_93 : decode c_Model_tide 93 = .ok (.iaload, 1) := by decide +kernel
theorem d_Model_tide_94 : decode c_Model_tide 94 = .ok (.iload_n 1, 1) := by decide +kernel
theorem d_Model_tide_95 : decode c_Model_tide 95 = .ok (.invokestatic 74, 3) := by decide +kernel
theorem d_Model_tide_98 : decode c_Model_tide 98 = .ok (.if_icmp .ge 7, 3) := by decide +kernel
theorem d_Model_tide_101 : decode c_Model_tide 101 = .ok (.iconst 1, 1) := by decide +kernel
theorem d_Model_tide_102 : decode c_Model_tide 102 = .ok (.goto 4, 3) := by decide +kernel
theorem d_Model_tide_105 : decode c_Model_tide 105 = .ok (.iconst 0, 1) := by decide +kernel
theorem d_Model_tide_106 : decode c_Model_tide 106 = .ok (.iadd, 1) := by decide +kernel
theorem d_Model_tide_107 : decode c_Model_tide 107 = .ok (.istore_n 3, 1) := by decide +kernel
theorem d_Model_tide_108 : decode c_Model_tide 108 = .ok (.iinc 4 1, 3) := by decide +kernel
theorem d_Model_tide_111 : decode c_Model_tide 111 = .ok (.goto (-34), 3) := by decide +kernel
theorem d_Model_tide_114 : decode c_Model_tide 114 = .ok (.iload_n 3, 1) := by decide +kernel
theorem d_Model_tide_115 : decode c_Model_tide 115 = .ok (.ireturn, 1) := by decide +kernel
theorem d_Model_purse_0 : decode c_Model_purse 0 = .ok (.iload_n 1, 1) := by decide +kernel
theorem d_Model_purse_1 : decode c_Model_purse 1 = .ok (.invokestatic 80, 3) := by decide +kernel
theorem d_Model_purse_4 : decode c_Model_purse 4 = .ok (.ifCond .eq 27, 3) := by decide +kernel
theorem d_Model_purse_7 : decode c_Model_purse 7 = .ok (.iload_n 2, 1) := by decide +kernel
theorem d_Model_purse_8 : decode c_Model_purse 8 = .ok (.i2l, 1) := by decide +kernel
theorem d_Model_purse_9 : decode c_Model_purse 9 = .ok (.lconst 0, 1) := by decide +kernel
theorem d_Model_purse_10 : decode c_Model_purse 10 = .ok (.ldc2_w 83, 3) := by decide +kernel
theorem d_Model_purse_13 : decode c_Model_purse 13 = .ok (.invokestatic 54, 3) := by decide +kernel
theorem d_Model_purse_16 : decode c_Model_purse 16 = .ok (.ifCond .eq 15, 3) := by decide +kernel
theorem d_Model_purse_19 : decode c_Model_purse 19 = .ok (.aload_n 0, 1) := by decide +kernel
theorem d_Model_purse_20 : decode c_Model_purse 20 = .ok (.bipush 19, 2) := by decide +kernel
theorem d_Model_purse_22 : decode c_Model_purse 22 = .ok (.iload_n 1, 1) := by decide +kernel
theorem d_Model_purse_23 : decode c_Model_purse 23 = .ok (.iadd, 1) := by decide +kernel
theorem d_Model_purse_24 : decode c_Model_purse 24 = .ok (.iload_n 2, 1) := by decide +kernel
theorem d_Model_purse_25 : decode c_Model_purse 25 = .ok (.invokevirtual 58, 3) := by decide +kernel
theorem d_Model_purse_28 : decode c_Model_purse 28 = .ok (.goto 9, 3) := by decide +kernel
theorem d_Model_purse_31 : decode c_Model_purse 31 = .ok (.aload_n 0, 1) := by decide +kernel
theorem d_Model_purse_32 : decode c_Model_purse 32 = .ok (.ldc 38, 2) := by decide +kernel
theorem d_Model_purse_34 : decode c_Model_purse 34 = .ok (.invokevirtual 44, 3) := by decide +kernel
theorem d_Model_purse_37 : decode c_Model_purse 37 = .ok (.ireturn, 1) := by decide +kernel
theorem d_Model_comes_0 : decode c_Model_comes 0 = .ok (.aload_n 0, 1) := by decide +kernel
theorem d_Model_comes_1 : decode c_Model_comes 1 = .ok (.getfield 7, 3) := by decide +kernel
theorem d_Model_comes_4 : decode c_Model_comes 4 = .ok (.iconst 0, 1) := by decide +kernel
theorem d_Model_comes_5 : decode c_Model_comes 5 = .ok (.iaload, 1) := by decide +kernel
theorem d_Model_comes_6 : decode c_Model_comes 6 = .ok (.istore_n 3, 1) := by decide +kernel
theorem d_Model_comes_7 : decode c_Model_comes 7 = .ok (.aload_n 0, 1) := by decide +kernel
theorem d_Model_comes_8 : decode c_Model_comes 8 = .ok (.getfield 7, 3) := by decide +kernel
theorem d_Model_comes_11 : decode c_Model_comes 11 = .ok (.iload_n 3, 1) := by decide +kernel
theorem d_Model_comes_12 : decode c_Model_comes 12 = .ok (.iconst 0, 1) := by decide +kernel
theorem d_Model_comes_13 : decode c_Model_comes 13 = .ok (.invokestatic 85, 3) := by decide +kernel
theorem d_Model_comes_16 : decode c_Model_comes 16 = .ok (.iload_n 1, 1) := by decide +kernel
theorem d_Model_comes_17 : decode c_Model_comes 17 = .ok (.iastore, 1) := by decide +kernel
theorem d_Model_comes_18 : decode c_Model_comes 18 = .ok (.aload_n 0, 1) := by decide +kernel
theorem d_Model_comes_19 : decode c_Model_comes 19 = .ok (.getfield 7, 3) := by decide +kernel
theorem d_Model_comes_22 : decode c_Model_comes 22 = .ok (.iload_n 3, 1) := by decide +kernel
theorem d_Model_comes_23 : decode c_Model_comes 23 = .ok (.iconst 1, 1) := by decide +kernel
theorem d_Model_comes_24 : decode c_Model_comes 24 = .ok (.invokestatic 85, 3) := by decide +kernel
theorem d_Model_comes_27 : decode c_Model_comes 27 = .ok (.iload_n 2, 1) := by decide +kernel
theorem d_Model_comes_28 : decode c_Model_comes 28 = .ok (.iastore, 1) := by decide +kernel
theorem d_Model_comes_29 : decode c_Model_comes 29 = .ok (.aload_n 0, 1) := by decide +kernel
theorem d_Model_comes_30 : decode c_Model_comes 30 = .ok (.getfield 7, 3) := by decide +kernel
theorem d_Model_comes_33 : decode c_Model_comes 33 = .ok (.iload_n 3, 1) := by decide +kernel
theorem d_Model_comes_34 : decode c_Model_comes 34 = .ok (.iconst 2, 1) := by decide +kernel
theorem d_Model_comes_35 : decode c_Model_comes 35 = .ok (.invokestatic 85, 3) := by decide +kernel
theorem d_Model_comes_38 : decode c_Model_comes 38 = .ok (.iconst 0, 1) := by decide +kernel
theorem d_Model_comes_39 : decode c_Model_comes 39 = .ok (.iastore, 1) := by decide +kernel
theorem d_Model_comes_40 : decode c_Model_comes 40 = .ok (.aload_n 0, 1) := by decide +kernel
theorem d_Model_comes_41 : decode c_Model_comes 41 = .ok (.getfield 7, 3) := by decide +kernel
theorem d_Model_comes_44 : decode c_Model_comes 44 = .ok (.iload_n 3, 1) := by decide +kernel
theorem d_Model_comes_45 : decode c_Model_comes 45 = .ok (.iconst 3, 1) := by decide +kernel
theorem d_Model_comes_46 : decode c_Model_comes 46 = .ok (.invokestatic 85, 3) := by decide +kernel
theorem d_Model_comes_49 : decode c_Model_comes 49 = .ok (.bipush 10, 2) := by decide +kernel
theorem d_Model_comes_51 : decode c_Model_comes 51 = .ok (.iastore, 1) := by decide +kernel
theorem d_Model_comes_52 : decode c_Model_comes 52 = .ok (.aload_n 0, 1) := by decide +kernel
theorem d_Model_comes_53 : decode c_Model_comes 53 = .ok (.getfield 7, 3) := by decide +kernel
theorem d_Model_comes_56 : decode c_Model_comes 56 = .ok (.iload_n 3, 1) := by decide +kernel
theorem d_Model_comes_57 : decode c_Model_comes 57 = .ok (.iconst 4, 1) := by decide +kernel
theorem d_Model_comes_58 : decode c_Model_comes 58 = .ok (.invokestatic 85, 3) := by decide +kernel
theorem d_Model_comes_61 : decode c_Model_comes 61 = .ok (.iconst 0, 1) := by decide +kernel
theorem d_Model_comes_62 : decode c_Model_comes 62 = .ok (.iastore, 1) := by decide +kernel
theorem d_Model_comes_63 : decode c_Model_comes 63 = .ok (.aload_n 0, 1) := by decide +kernel
theorem d_Model_comes_64 : decode c_Model_comes 64 = .ok (.getfield 7, 3) := by decide +kernel
theorem d_Model_comes_67 : decode c_Model_comes 67 = .ok (.iload_n 3, 1) := by decide +kernel
theorem d_Model_comes_68 : decode c_Model_comes 68 = .ok (.iconst 5, 1) := by decide +kernel
theorem d_Model_comes_69 : decode c_Model_comes 69 = .ok (.invokestatic 85, 3) := by decide +kernel
theorem d_Model_comes_72 : decode c_Model_comes 72 = .ok (.iconst 0, 1) := by decide +kernel
theorem d_Model_comes_73 : decode c_Model_comes 73 = .ok (.iastore, 1) := by decide +kernel
theorem d_Model_comes_74 : decode c_Model_comes 74 = .ok (.aload_n 0, 1) := by decide +kernel
theorem d_Model_comes_75 : decode c_Model_comes 75 = .ok (.getfield 7, 3) := by decide +kernel
theorem d_Model_comes_78 : decode c_Model_comes 78 = .ok (.iconst 0, 1) := by decide +kernel
theorem d_Model_comes_79 : decode c_Model_comes 79 = .ok (.dup2, 1) := by decide +kernel
theorem d_Model_comes_80 : decode c_Model_comes 80 = .ok (.iaload, 1) := by decide +kernel
theorem d_Model_comes_81 : decode c_Model_comes 81 = .ok (.iconst 1, 1) := by decide +kernel
theorem d_Model_comes_82 : decode c_Model_comes 82 = .ok (.iadd, 1) := by decide +kernel
theorem d_Model_comes_83 : decode c_Model_comes 83 = .ok (.iastore, 1) := by decide +kernel
theorem d_Model_comes_84 : decode c_Model_comes 84 = .ok (.return_, 1) := by decide +kernel
theorem d_Model_thing_0 : decode c_Model_thing 0 = .ok (.iload_n 1, 1) := by decide +kernel
theorem d_Model_thing_1 : decode c_Model_thing 1 = .ok (.i2l, 1) := by decide +kernel
theorem d_Model_thing_2 : decode c_Model_thing 2 = .ok (.lconst 0, 1) := by decide +kernel
theorem d_Model_thing_3 : decode c_Model_thing 3 = .ok (.ldc2_w 88, 3) := by decide +kernel
theorem d_Model_thing_6 : decode c_Model_thing 6 = .ok (.invokestatic 54, 3) := by decide +kernel
theorem d_Model_thing_9 : decode c_Model_thing 9 = .ok (.ifCond .eq 10, 3) := by decide +kernel
theorem d_Model_thing_12 : decode c_Model_thing 12 = .ok (.iload_n 2, 1) := by decide +kernel
theorem d_Model_thing_13 : decode c_Model_thing 13 = .ok (.invokestatic 80, 3) := by decide +kernel
theorem d_Model_thing_16 : decode c_Model_thing 16 = .ok (.ifCond .ne 10, 3) := by decide +kernel
theorem d_Model_thing_19 : decode c_Model_thing 19 = .ok (.aload_n 0, 1) := by decide +kernel
theorem d_Model_thing_20 : decode c_Model_thing 20 = .ok (.ldc 38, 2) := by decide +kernel
theorem d_Model_thing_22 : decode c_Model_thing 22 = .ok (.invokevirtual 44, 3) := by decide +kernel
theorem d_Model_thing_25 : decode c_Model_thing 25 = .ok (.ireturn, 1) := by decide +kernel
theorem d_Model_thing_26 : decode c_Model_thing 26 = .ok (.aload_n 0, 1) := by decide +kernel
theorem d_Model_thing_27 : decode c_Model_thing 27 = .ok (.getfield 7, 3) := by decide +kernel
theorem d_Model_thing_30 : decode c_Model_thing 30 = .ok (.iconst 0, 1) := by decide +kernel
theorem d_Model_thing_31 : decode c_Model_thing 31 = .ok (.iaload, 1) := by decide +kernel
theorem d_Model_thing_32 : decode c_Model_thing 32 = .ok (.bipush 10, 2) := by decide +kernel
theorem d_Model_thing_34 : decode c_Model_thing 34 = .ok (.if_icmp .ne 10, 3) := by decide +kernel
theorem d_Model_thing_37 : decode c_Model_thing 37 = .ok (.aload_n 0, 1) := by decide +kernel
theorem d_Model_thing_38 : decode c_Model_thing 38 = .ok (.ldc 90, 2) := by decide +kernel
theorem d_Model_thing_40 : decode c_Model_thing 40 = .ok (.invokevirtual 44, 3) := by decide +kernel
theorem d_Model_thing_43 : decode c_Model_thing 43 = .ok (.ireturn, 1) := by decide +kernel
theorem d_Model_thing_44 : decode c_Model_thing 44 = .ok (.aload_n 0, 1) := by decide +kernel
theorem d_Model_thing_45 : decode c_Model_thing 45 = .ok (.iload_n 1, 1) := by decide +kernel
theorem d_Model_thing_46 : decode c_Model_thing 46 = .ok (.iload_n 2, 1) := by decide +kernel
theorem d_Model_thing_47 : decode c_Model_thing 47 = .ok (.invokevirtual 91, 3) := by decide +kernel
theorem d_Model_thing_50 : decode c_Model_thing 50 = .ok (.aload_n 0, 1) := by decide +kernel
theorem d_Model_thing_51 : decode c_Model_thing 51 = .ok (.getfield 7, 3) := by decide +kernel
theorem d_Model_thing_54 : decode c_Model_thing 54 = .ok (.iconst 0, 1) := by decide +kernel
theorem d_Model_thing_55 : decode c_Model_thing 55 = .ok (.iaload, 1) := by decide +kernel
theorem d_Model_thing_56 : decode c_Model_thing 56 = .ok (.iconst 1, 1) := by decide +kernel
theorem d_Model_thing_57 : decode c_Model_thing 57 = .ok (.isub, 1) := by decide +kernel
theorem d_Model_thing_58 : decode c_Model_thing 58 = .ok (.ireturn, 1) := by decide +kernel
theorem d_Model_term_0 : decode c_Model_term 0 = .ok (.iload_n 0, 1) := by decide +kernel
theorem d_Model_term_1 : decode c_Model_term 1 = .ok (.tableswitch 47 1 5 #[35, 47, 38, 41, 44], 35) := by decide +kernel
theorem d_Model_term_36 : decode c_Model_term 36 = .ok (.bipush 8, 2) := by decide +kernel
theorem d_Model_term_38 : decode c_Model_term 38 = .ok (.ireturn, 1) := by decide +kernel
theorem d_Model_term_39 : decode c_Model_term 39 = .ok (.bipush 28, 2) := by decide +kernel
theorem d_Model_term_41 : decode c_Model_term 41 = .ok (.ireturn, 1) := by decide +kernel
theorem d_Model_term_42 : decode c_Model_term 42 = .ok (.bipush 16, 2) := by decide +kernel
theorem d_Model_term_44 : decode c_Model_term 44 = .ok (.ireturn, 1) := by decide +kernel
theorem d_Model_term_45 : decode c_Model_term 45 = .ok (.bipush 15, 2) := by decide +kernel
theorem d_Model_term_47 : decode c_Model_term 47 = .ok (.ireturn, 1) := by decide +kernel
theorem d_Model_term_48 : decode c_Model_term 48 = .ok (.iconst 1, 1) := by decide +kernel
theorem d_Model_term_49 : decode c_Model_term 49 = .ok (.ireturn, 1) := by decide +kernel
theorem d_Model_repays_0 : decode c_Model_repays 0 = .ok (.aload_n 0, 1) := by decide +kernel
theorem d_Model_repays_1 : decode c_Model_repays 1 = .ok (.iload_n 1, 1) := by decide +kernel
theorem d_Model_repays_2 : decode c_Model_repays 2 = .ok (.iconst 3, 1) := by decide +kernel
theorem d_Model_repays_3 : decode c_Model_repays 3 = .ok (.invokevirtual 39, 3) := by decide +kernel
theorem d_Model_repays_6 : decode c_Model_repays 6 = .ok (.i2l, 1) := by decide +kernel
theorem d_Model_repays_7 : decode c_Model_repays 7 = .ok (.lstore_n 3, 1) := by decide +kernel
theorem d_Model_repays_8 : decode c_Model_repays 8 = .ok (.lload_n 3, 1) := by decide +kernel
theorem d_Model_repays_9 : decode c_Model_repays 9 = .ok (.lload_n 3, 1) := by decide +kernel
theorem d_Model_repays_10 : decode c_Model_repays 10 = .ok (.aload_n 0, 1) := by decide +kernel
theorem d_Model_repays_11 : decode c_Model_repays 11 = .ok (.getfield 7, 3) := by decide +kernel
theorem d_Model_repays_14 : decode c_Model_repays 14 = .ok (.iconst 2, 1) := by decide +kernel
theorem d_Model_repays_15 : decode c_Model_repays 15 = .ok (.iaload, 1) := by decide +kernel
theorem d_Model_repays_16 : decode c_Model_repays 16 = .ok (.i2l, 1) := by decide +kernel
theorem d_Model_repays_17 : decode c_Model_repays 17 = .ok (.lmul, 1) := by decide +kernel
theorem d_Model_repays_18 : decode c_Model_repays 18 = .ok (.iload_n 2, 1) := by decide +kernel
theorem d_Model_repays_19 : decode c_Model_repays 19 = .ok (.i2l, 1) := by decide +kernel
theorem d_Model_repays_20 : decode c_Model_repays 20 = .ok (.lmul, 1) := by decide +kernel
theorem d_Model_repays_21 : decode c_Model_repays 21 = .ok (.ldc2_w 95, 3) := by decide +kernel
theorem d_Model_repays_24 : decode c_Model_repays 24 = .ok (.ldiv, 1) := by decide +kernel
theorem d_Model_repays_25 : decode c_Model_repays 25 = .ok (.ladd, 1) := by decide +kernel
theorem d_Model_repays_26 : decode c_Model_repays 26 = .ok (.lstore 5, 2) := by decide +kernel
theorem d_Model_repays_28 : decode c_Model_repays 28 = .ok (.lload 5, 2) := by decide +kernel
theorem d_Model_repays_30 : decode c_Model_repays 30 = .ok (.lstore 7, 2) := by decide +kernel
theorem d_Model_repays_32 : decode c_Model_repays 32 = .ok (.aload_n 0, 1) := by decide +kernel
theorem d_Model_repays_33 : decode c_Model_repays 33 = .ok (.iload_n 1, 1) := by decide +kernel
theorem d_Model_repays_34 : decode c_Model_repays 34 = .ok (.iconst 0, 1) := by decide +kernel
theorem d_Model_repays_35 : decode c_Model_repays 35 = .ok (.invokevirtual 39, 3) := by decide +kernel
theorem d_Model_repays_38 : decode c_Model_repays 38 = .ok (.tableswitch 111 1 5 #[34, 45, 56, 81, 96], 34) := by decide +kernel
theorem d_Model_repays_72 : decode c_Model_repays 72 = .ok (.lload 5, 2) := by decide +kernel
theorem d_Model_repays_74 : decode c_Model_repays 74 = .ok (.ldc2_w 88, 3) := by decide +kernel
theorem d_Model_repays_77 : decode c_Model_repays 77 = .ok (.ladd, 1) := by decide +kernel
theorem d_Model_repays_78 : decode c_Model_repays 78 = .ok (.lstore 7, 2) := by decide +kernel
theorem d_Model_repays_80 : decode c_Model_repays 80 = .ok (.goto 69, 3) := by decide +kernel
theorem d_Model_repays_83 : decode c_Model_repays 83 = .ok (.lload 5, 2) := by decide +kernel
theorem d_Model_repays_85 : decode c_Model_repays 85 = .ok (.ldc2_w 97, 3) := by decide +kernel
theorem d_Model_repays_88 : decode c_Model_repays 88 = .ok (.ldiv, 1) := by decide +kernel
theorem d_Model_repays_89 : decode c_Model_repays 89 = .ok (.lstore 7, 2) := by decide +kernel
theorem d_Model_repays_91 : decode c_Model_repays 91 = .ok (.goto 58, 3) := by decide +kernel
theorem d_Model_repays_94 : decode c_Model_repays 94 = .ok (.aload_n 0, 1) := by decide +kernel
theorem d_Model_repays_95 : decode c_Model_repays 95 = .ok (.iload_n 1, 1) := by decide +kernel
theorem d_Model_repays_96 : decode c_Model_repays 96 = .ok (.iconst 5, 1) := by decide +kernel
theorem d_Model_repays_97 : decode c_Model_repays 97 = .ok (.invokevirtual 39, 3) := by decide +kernel
theorem d_Model_repays_100 : decode c_Model_repays 100 = .ok (.bipush 28, 2) := by decide +kernel
theorem d_Model_repays_102 : decode c_Model_repays 102 = .ok (.irem, 1) := by decide +kernel
theorem d_Model_repays_103 : decode c_Model_repays 103 = .ok (.bipush 14, 2) := by decide +kernel
theorem d_Model_repays_105 : decode c_Model_repays 105 = .ok (.if_icmp .ne 7, 3) := by decide +kernel
theorem d_Model_repays_108 : decode c_Model_repays 108 = .ok (.lconst 0, 1) := by decide +kernel
theorem d_Model_repays_109 : decode c_Model_repays 109 = .ok (.goto 5, 3) := by decide +kernel
theorem d_Model_repays_112 : decode c_Model_repays 112 = .ok (.lload 5, 2) := by decide +kernel
theorem d_Model_repays_114 : decode c_Model_repays 114 = .ok (.lstore 7, 2) := by decide +kernel
theorem d_Model_repays_116 : decode c_Model_repays 116 = .ok (.goto 33, 3) := by decide +kernel
theorem d_Model_repays_119 : decode c_Model_repays 119 = .ok (.ldc2_w 97, 3) := by decide +kernel
theorem d_Model_repays_122 : decode c_Model_repays 122 = .ok (.lload 5, 2) := by decide +kernel
theorem d_Model_repays_124 : decode c_Model_repays 124 = .ok (.ldc2_w 88, 3) := by decide +kernel
theorem d_Model_repays_127 : decode c_Model_repays 127 = .ok (.ladd, 1) := by decide +kernel
theorem d_Model_repays_128 : decode c_Model_repays 128 = .ok (.lmul, 1) := by decide +kernel
theorem d_Model_repays_129 : decode c_Model_repays 129 = .ok (.lstore 7, 2) := by decide +kernel
theorem d_Model_repays_131 : decode c_Model_repays 131 = .ok (.goto 18, 3) := by decide +kernel
theorem d_Model_repays_134 : decode c_Model_repays 134 = .ok (.lload 5, 2) := by decide +kernel
theorem d_Model_repays_136 : decode c_Model_repays 136 = .ok (.ldc2_w 97, 3) := by decide +kernel
theorem d_Model_repays_139 : decode c_Model_repays 139 = .ok (.ldiv, 1) := by decide +kernel
theorem d_Model_repays_140 : decode c_Model_repays 140 = .ok (.ldc2_w 72, 3) := by decide +kernel
theorem d_Model_repays_143 : decode c_Model_repays 143 = .ok (.ladd, 1) := by decide +kernel
theorem d_Model_repays_144 : decode c_Model_repays 144 = .ok (.lstore 7, 2) := by decide +kernel
theorem d_Model_repays_146 : decode c_Model_repays 146 = .ok (.goto 3, 3) := by decide +kernel
theorem d_Model_repays_149 : decode c_Model_repays 149 = .ok (.lload 7, 2) := by decide +kernel
theorem d_Model_repays_151 : decode c_Model_repays 151 = .ok (.ldc2_w 99, 3) := by decide +kernel
theorem d_Model_repays_154 : decode c_Model_repays 154 = .ok (.lcmp, 1) := by decide +kernel
theorem d_Model_repays_155 : decode c_Model_repays 155 = .ok (.ifCond .le 9, 3) := by decide +kernel
theorem d_Model_repays_158 : decode c_Model_repays 158 = .ok (.ldc2_w 99, 3) := by decide +kernel
theorem d_Model_repays_161 : decode c_Model_repays 161 = .ok (.goto 5, 3) := by decide +kernel
theorem d_Model_repays_164 : decode c_Model_repays 164 = .ok (.lload 7, 2) := by decide +kernel
theorem d_Model_repays_166 : decode c_Model_repays 166 = .ok (.l2i, 1) := by decide +kernel
theorem d_Model_repays_167 : decode c_Model_repays 167 = .ok (.ireturn, 1) := by decide +kernel
theorem d_Model_wouldRepay_0 : decode c_Model_wouldRepay 0 = .ok (.aload_n 0, 1) := by decide +kernel
theorem d_Model_wouldRepay_1 : decode c_Model_wouldRepay 1 = .ok (.iload_n 1, 1) := by decide +kernel
theorem d_Model_wouldRepay_2 : decode c_Model_wouldRepay 2 = .ok (.iconst 2, 1) := by decide +kernel
theorem d_Model_wouldRepay_3 : decode c_Model_wouldRepay 3 = .ok (.invokevirtual 61, 3) := by decide +kernel
theorem d_Model_wouldRepay_6 : decode c_Model_wouldRepay 6 = .ok (.ifCond .eq 24, 3) := by decide +kernel
theorem d_Model_wouldRepay_9 : decode c_Model_wouldRepay 9 = .ok (.aload_n 0, 1) := by decide +kernel
theorem d_Model_wouldRepay_10 : decode c_Model_wouldRepay 10 = .ok (.iload_n 1, 1) := by decide +kernel
theorem d_Model_wouldRepay_11 : decode c_Model_wouldRepay 11 = .ok (.aload_n 0, 1) := by decide +kernel
theorem d_Model_wouldRepay_12 : decode c_Model_wouldRepay 12 = .ok (.getfield 7, 3) := by decide +kernel
theorem d_Model_wouldRepay_15 : decode c_Model_wouldRepay 15 = .ok (.iconst 1, 1) := by decide +kernel
theorem d_Model_wouldRepay_16 : decode c_Model_wouldRepay 16 = .ok (.iaload, 1) := by decide +kernel
theorem d_Model_wouldRepay_17 : decode c_Model_wouldRepay 17 = .ok (.aload_n 0, 1) := by decide +kernel
theorem d_Model_wouldRepay_18 : decode c_Model_wouldRepay 18 = .ok (.iload_n 1, 1) := by decide +kernel
theorem d_Model_wouldRepay_19 : decode c_Model_wouldRepay 19 = .ok (.iconst 5, 1) := by decide +kernel
theorem d_Model_wouldRepay_20 : decode c_Model_wouldRepay 20 = .ok (.invokevirtual 39, 3) := by decide +kernel
theorem d_Model_wouldRepay_23 : decode c_Model_wouldRepay 23 = .ok (.isub, 1) := by decide +kernel
theorem d_Model_wouldRepay_24 : decode c_Model_wouldRepay 24 = .ok (.invokevirtual 101, 3) := by decide +kernel
theorem d_Model_wouldRepay_27 : decode c_Model_wouldRepay 27 = .ok (.goto 4, 3) := by decide +kernel
theorem d_Model_wouldRepay_30 : decode c_Model_wouldRepay 30 = .ok (.iconst 0, 1) := by decide +kernel
theorem d_Model_wouldRepay_31 : decode c_Model_wouldRepay 31 = .ok (.ireturn, 1) := by decide +kernel
theorem d_Model_of_0 : decode c_Model_of 0 = .ok (.aload_n 0, 1) := by decide +kernel
theorem d_Model_of_1 : decode c_Model_of 1 = .ok (.iload_n 1, 1) := by decide +kernel
theorem d_Model_of_2 : decode c_Model_of 2 = .ok (.invokevirtual 104, 3) := by decide +kernel
theorem d_Model_of_5 : decode c_Model_of 5 = .ok (.ifCond .eq 15, 3) := by decide +kernel
theorem d_Model_of_8 : decode c_Model_of 8 = .ok (.iload_n 2, 1) := by decide +kernel
theorem d_Model_of_9 : decode c_Model_of 9 = .ok (.i2l, 1) := by decide +kernel
theorem d_Model_of_10 : decode c_Model_of 10 = .ok (.lconst 0, 1) := by decide +kernel
theorem d_Model_of_11 : decode c_Model_of 11 = .ok (.ldc2_w 107, 3) := by decide +kernel
theorem d_Model_of_14 : decode c_Model_of 14 = .ok (.invokestatic 54, 3) := by decide +kernel
theorem d_Model_of_17 : decode c_Model_of 17 = .ok (.ifCond .ne 10, 3) := by decide +kernel
theorem d_Model_of_20 : decode c_Model_of 20 = .ok (.aload_n 0, 1) := by decide +kernel
theorem d_Model_of_21 : decode c_Model_of 21 = .ok (.ldc 38, 2) := by decide +kernel
theorem d_Model_of_23 : decode c_Model_of 23 = .ok (.invokevirtual 44, 3) := by decide +kernel
theorem d_Model_of_26 : decode c_Model_of 26 = .ok (.ireturn, 1) := by decide +kernel
theorem d_Model_of_27 : decode c_Model_of 27 = .ok (.iload_n 2, 1) := by decide +kernel
theorem d_Model_of_28 : decode c_Model_of 28 = .ok (.bipush 6, 2) := by decide +kernel
theorem d_Model_of_30 : decode c_Model_of 30 = .ok (.if_icmp .ge 12, 3) := by decide +kernel
theorem d_Model_of_33 : decode c_Model_of 33 = .ok (.aload_n 0, 1) := by decide +kernel
theorem d_Model_of_34 : decode c_Model_of 34 = .ok (.iload_n 1, 1) := by decide +kernel
theorem d_Model_of_35 : decode c_Model_of 35 = .ok (.iload_n 2, 1) := by decide +kernel
theorem d_Model_of_36 : decode c_Model_of 36 = .ok (.invokevirtual 39, 3) := by decide +kernel
theorem d_Model_of_39 : decode c_Model_of 39 = .ok (.goto 26, 3) := by decide +kernel
theorem d_Model_of_42 : decode c_Model_of 42 = .ok (.iload_n 2, 1) := by decide +kernel
theorem d_Model_of_43 : decode c_Model_of 43 = .ok (.bipush 6, 2) := by decide +kernel
theorem d_Model_of_45 : decode c_Model_of 45 = .ok (.if_icmp .ne 15, 3) := by decide +kernel
theorem d_Model_of_48 : decode c_Model_of 48 = .ok (.aload_n 0, 1) := by decide +kernel
theorem d_Model_of_49 : decode c_Model_of 49 = .ok (.iload_n 1, 1) := by decide +kernel
theorem d_Model_of_50 : decode c_Model_of 50 = .ok (.iconst 0, 1) := by decide +kernel
theorem d_Model_of_51 : decode c_Model_of 51 = .ok (.invokevirtual 39, 3) := by decide +kernel
theorem d_Model_of_54 : decode c_Model_of 54 = .ok (.invokestatic 109, 3) := by decide +kernel
theorem d_Model_of_57 : decode c_Model_of 57 = .ok (.goto 8, 3) := by decide +kernel
theorem d_Model_of_60 : decode c_Model_of 60 = .ok (.aload_n 0, 1) := by decide +kernel
theorem d_Model_of_61 : decode c_Model_of 61 = .ok (.iload_n 1, 1) := by decide +kernel
theorem d_Model_of_62 : decode c_Model_of 62 = .ok (.invokevirtual 112, 3) := by decide +kernel
theorem d_Model_of_65 : decode c_Model_of 65 = .ok (.ireturn, 1) := by decide +kernel
theorem d_Model_set_0 : decode c_Model_set 0 = .ok (.aload_n 0, 1) := by decide +kernel
theorem d_Model_set_1 : decode c_Model_set 1 = .ok (.iload_n 1, 1) := by decide +kernel
theorem d_Model_set_2 : decode c_Model_set 2 = .ok (.invokevirtual 104, 3) := by decide +kernel
theorem d_Model_set_5 : decode c_Model_set 5 = .ok (.ifCond .eq 36, 3) := by decide +kernel
theorem d_Model_set_8 : decode c_Model_set 8 = .ok (.iload_n 2, 1) := by decide +kernel
theorem d_Model_set_9 : decode c_Model_set 9 = .ok (.iconst 1, 1) := by decide +kernel
theorem d_Model_set_10 : decode c_Model_set 10 = .ok (.if_icmp .ne 10, 3) := by decide +kernel
theorem d_Model_set_13 : decode c_Model_set 13 = .ok (.iload_n 3, 1) := by decide +kernel
theorem d_Model_set_14 : decode c_Model_set 14 = .ok (.invokestatic 80, 3) := by decide +kernel
theorem d_Model_set_17 : decode c_Model_set 17 = .ok (.ifCond .ne 20, 3) := by decide +kernel
theorem d_Model_set_20 : decode c_Model_set 20 = .ok (.iload_n 2, 1) := by decide +kernel
theorem d_Model_set_21 : decode c_Model_set 21 = .ok (.iconst 3, 1) := by decide +kernel
theorem d_Model_set_22 : decode c_Model_set 22 = .ok (.if_icmp .ne 19, 3) := by decide +kernel
theorem d_Model_set_25 : decode c_Model_set 25 = .ok (.iload_n 3, 1) := by decide +kernel
theorem d_Model_set_26 : decode c_Model_set 26 = .ok (.i2l, 1) := by decide +kernel
theorem d_Model_set_27 : decode c_Model_set 27 = .ok (.lconst 0, 1) := by decide +kernel
theorem d_Model_set_28 : decode c_Model_set 28 = .ok (.ldc2_w 115, 3) := by decide +kernel
theorem d_Model_set_31 : decode c_Model_set 31 = .ok (.invokestatic 54, 3) := by decide +kernel
theorem d_Model_set_34 : decode c_Model_set 34 = .ok (.ifCond .eq 7, 3) := by decide +kernel
theorem d_Model_set_37 : decode c_Model_set 37 = .ok (.iconst 1, 1) := by decide +kernel
theorem d_Model_set_38 : decode c_Model_set 38 = .ok (.goto 4, 3) := by decide +kernel
theorem d_Model_set_41 : decode c_Model_set 41 = .ok (.iconst 0, 1) := by decide +kernel
theorem d_Model_set_42 : decode c_Model_set 42 = .ok (.istore 4, 2) := by decide +kernel
theorem d_Model_set_44 : decode c_Model_set 44 = .ok (.iload 4, 2) := by decide +kernel
theorem d_Model_set_46 : decode c_Model_set 46 = .ok (.ifCond .eq 16, 3) := by decide +kernel
theorem d_Model_set_49 : decode c_Model_set 49 = .ok (.aload_n 0, 1) := by decide +kernel
theorem d_Model_set_50 : decode c_Model_set 50 = .ok (.iload_n 1, 1) := by decide +kernel
theorem d_Model_set_51 : decode c_Model_set 51 = .ok (.iload_n 2, 1) := by decide +kernel
theorem d_Model_set_52 : decode c_Model_set 52 = .ok (.invokestatic 85, 3) := by decide +kernel
theorem d_Model_set_55 : decode c_Model_set 55 = .ok (.iload_n 3, 1) := by decide +kernel
theorem d_Model_set_56 : decode c_Model_set 56 = .ok (.invokevirtual 58, 3) := by decide +kernel
theorem d_Model_set_59 : decode c_Model_set 59 = .ok (.goto 9, 3) := by decide +kernel
theorem d_Model_set_62 : decode c_Model_set 62 = .ok (.aload_n 0, 1) := by decide +kernel
theorem d_Model_set_63 : decode c_Model_set 63 = .ok (.ldc 38, 2) := by decide +kernel
theorem d_Model_set_65 : decode c_Model_set 65 = .ok (.invokevirtual 44, 3) := by decide +kernel
theorem d_Model_set_68 : decode c_Model_set 68 = .ok (.ireturn, 1) := by decide +kernel
theorem d_Model_turn_0 : decode c_Model_turn 0 = .ok (.aload_n 0, 1) := by decide +kernel
theorem d_Model_turn_1 : decode c_Model_turn 1 = .ok (.iload_n 1, 1) := by decide +kernel
theorem d_Model_turn_2 : decode c_Model_turn 2 = .ok (.invokevirtual 104, 3) := by decide +kernel
theorem d_Model_turn_5 : decode c_Model_turn 5 = .ok (.ifCond .eq 28, 3) := by decide +kernel
theorem d_Model_turn_8 : decode c_Model_turn 8 = .ok (.iload_n 2, 1) := by decide +kernel
theorem d_Model_turn_9 : decode c_Model_turn 9 = .ok (.i2l, 1) := by decide +kernel
theorem d_Model_turn_10 : decode c_Model_turn 10 = .ok (.lconst 0, 1) := by decide +kernel
theorem d_Model_turn_11 : decode c_Model_turn 11 = .ok (.ldc2_w 88, 3) := by decide +kernel
theorem d_Model_turn_14 : decode c_Model_turn 14 = .ok (.invokestatic 54, 3) := by decide +kernel
theorem d_Model_turn_17 : decode c_Model_turn 17 = .ok (.ifCond .eq 16, 3) := by decide +kernel
theorem d_Model_turn_20 : decode c_Model_turn 20 = .ok (.aload_n 0, 1) := by decide +kernel
theorem d_Model_turn_21 : decode c_Model_turn 21 = .ok (.iload_n 1, 1) := by decide +kernel
theorem d_Model_turn_22 : decode c_Model_turn 22 = .ok (.iconst 0, 1) := by decide +kernel
theorem d_Model_turn_23 : decode c_Model_turn 23 = .ok (.invokestatic 85, 3) := by decide +kernel
theorem d_Model_turn_26 : decode c_Model_turn 26 = .ok (.iload_n 2, 1) := by decide +kernel
theorem d_Model_turn_27 : decode c_Model_turn 27 = .ok (.invokevirtual 58, 3) := by decide +kernel
theorem d_Model_turn_30 : decode c_Model_turn 30 = .ok (.goto 9, 3) := by decide +kernel
theorem d_Model_turn_33 : decode c_Model_turn 33 = .ok (.aload_n 0, 1) := by decide +kernel
theorem d_Model_turn_34 : decode c_Model_turn 34 = .ok (.ldc 38, 2) := by decide +kernel
theorem d_Model_turn_36 : decode c_Model_turn 36 = .ok (.invokevirtual 44, 3) := by decide +kernel
theorem d_Model_turn_39 : decode c_Model_turn 39 = .ok (.ireturn, 1) := by decide +kernel
theorem d_Model_as_0 : decode c_Model_as 0 = .ok (.aload_n 0, 1) := by decide +kernel
theorem d_Model_as_1 : decode c_Model_as 1 = .ok (.iload_n 1, 1) := by decide +kernel
theorem d_Model_as_2 : decode c_Model_as 2 = .ok (.invokevirtual 104, 3) := by decide +kernel
theorem d_Model_as_5 : decode c_Model_as 5 = .ok (.ifCond .eq 15, 3) := by decide +kernel
theorem d_Model_as_8 : decode c_Model_as 8 = .ok (.iload_n 2, 1) := by decide +kernel
theorem d_Model_as_9 : decode c_Model_as 9 = .ok (.i2l, 1) := by decide +kernel
theorem d_Model_as_10 : decode c_Model_as 10 = .ok (.lconst 0, 1) := by decide +kernel
theorem d_Model_as_11 : decode c_Model_as 11 = .ok (.ldc2_w 88, 3) := by decide +kernel
theorem d_Model_as_14 : decode c_Model_as 14 = .ok (.invokestatic 54, 3) := by decide +kernel
theorem d_Model_as_17 : decode c_Model_as 17 = .ok (.ifCond .ne 10, 3) := by decide +kernel
theorem d_Model_as_20 : decode c_Model_as 20 = .ok (.aload_n 0, 1) := by decide +kernel
theorem d_Model_as_21 : decode c_Model_as 21 = .ok (.ldc 38, 2) := by decide +kernel
theorem d_Model_as_23 : decode c_Model_as 23 = .ok (.invokevirtual 44, 3) := by decide +kernel
theorem d_Model_as_26 : decode c_Model_as 26 = .ok (.ireturn, 1) := by decide +kernel
theorem d_Model_as_27 : decode c_Model_as 27 = .ok (.aload_n 0, 1) := by decide +kernel
theorem d_Model_as_28 : decode c_Model_as 28 = .ok (.iload_n 1, 1) := by decide +kernel
theorem d_Model_as_29 : decode c_Model_as 29 = .ok (.iconst 0, 1) := by decide +kernel
theorem d_Model_as_30 : decode c_Model_as 30 = .ok (.invokevirtual 39, 3) := by decide +kernel
theorem d_Model_as_33 : decode c_Model_as 33 = .ok (.istore_n 3, 1) := by decide +kernel
theorem d_Model_as_34 : decode c_Model_as 34 = .ok (.iload_n 2, 1) := by decide +kernel
theorem d_Model_as_35 : decode c_Model_as 35 = .ok (.ifCond .eq 28, 3) := by decide +kernel
theorem d_Model_as_38 : decode c_Model_as 38 = .ok (.iload_n 3, 1) := by decide +kernel
theorem d_Model_as_39 : decode c_Model_as 39 = .ok (.iload_n 2, 1) := by decide +kernel
theorem d_Model_as_40 : decode c_Model_as 40 = .ok (.if_icmp .eq 23, 3) := by decide +kernel
theorem d_Model_as_43 : decode c_Model_as 43 = .ok (.iload_n 2, 1) := by decide +kernel
theorem d_Model_as_44 : decode c_Model_as 44 = .ok (.iconst 1, 1) := by decide +kernel
theorem d_Model_as_45 : decode c_Model_as 45 = .ok (.if_icmp .ne 8, 3) := by decide +kernel
theorem d_Model_as_48 : decode c_Model_as 48 = .ok (.iload_n 3, 1) := by decide +kernel
theorem d_Model_as_49 : decode c_Model_as 49 = .ok (.iconst 4, 1) := by decide +kernel
theorem d_Model_as_50 : decode c_Model_as 50 = .ok (.if_icmp .eq 13, 3) := by decide +kernel
theorem d_Model_as_53 : decode c_Model_as 53 = .ok (.iload_n 2, 1) := by decide +kernel
theorem d_Model_as_54 : decode c_Model_as 54 = .ok (.iconst 2, 1) := by decide +kernel
theorem d_Model_as_55 : decode c_Model_as 55 = .ok (.if_icmp .ne 12, 3) := by decide +kernel
theorem d_Model_as_58 : decode c_Model_as 58 = .ok (.iload_n 3, 1) := by decide +kernel
theorem d_Model_as_59 : decode c_Model_as 59 = .ok (.iconst 5, 1) := by decide +kernel
theorem d_Model_as_60 : decode c_Model_as 60 = .ok (.if_icmp .ne 7, 3) := by decide +kernel
theorem d_Model_as_63 : decode c_Model_as 63 = .ok (.iconst 1, 1) := by decide +kernel
theorem d_Model_as_64 : decode c_Model_as 64 = .ok (.goto 4, 3) := by decide +kernel
theorem d_Model_as_67 : decode c_Model_as 67 = .ok (.iconst 0, 1) := by decide +kernel
theorem d_Model_as_68 : decode c_Model_as 68 = .ok (.istore 4, 2) := by decide +kernel
theorem d_Model_as_70 : decode c_Model_as 70 = .ok (.iload 4, 2) := by decide +kernel
theorem d_Model_as_72 : decode c_Model_as 72 = .ok (.ifCond .eq 12, 3) := by decide +kernel
theorem d_Model_as_75 : decode c_Model_as 75 = .ok (.aload_n 0, 1) := by decide +kernel
theorem d_Model_as_76 : decode c_Model_as 76 = .ok (.iload_n 1, 1) := by decide +kernel
theorem d_Model_as_77 : decode c_Model_as 77 = .ok (.iconst 3, 1) := by decide +kernel
theorem d_Model_as_78 : decode c_Model_as 78 = .ok (.invokevirtual 39, 3) := by decide +kernel
theorem d_Model_as_81 : decode c_Model_as 81 = .ok (.goto 9, 3) := by decide +kernel
theorem d_Model_as_84 : decode c_Model_as 84 = .ok (.aload_n 0, 1) := by decide +kernel
theorem d_Model_as_85 : decode c_Model_as 85 = .ok (.ldc 117, 2) := by decide +kernel
theorem d_Model_as_87 : decode c_Model_as 87 = .ok (.invokevirtual 44, 3) := by decide +kernel
theorem d_Model_as_90 : decode c_Model_as 90 = .ok (.ireturn, 1) := by decide +kernel
theorem d_Model_lies_0 : decode c_Model_lies 0 = .ok (.aload_n 0, 1) := by decide +kernel
theorem d_Model_lies_1 : decode c_Model_lies 1 = .ok (.getfield 7, 3) := by decide +kernel
theorem d_Model_lies_4 : decode c_Model_lies 4 = .ok (.iload_n 1, 1) := by decide +kernel
theorem d_Model_lies_5 : decode c_Model_lies 5 = .ok (.iconst 2, 1) := by decide +kernel
theorem d_Model_lies_6 : decode c_Model_lies 6 = .ok (.invokestatic 85, 3) := by decide +kernel
theorem d_Model_lies_9 : decode c_Model_lies 9 = .ok (.iload_n 2, 1) := by decide +kernel
theorem d_Model_lies_10 : decode c_Model_lies 10 = .ok (.iastore, 1) := by decide +kernel
theorem d_Model_lies_11 : decode c_Model_lies 11 = .ok (.aload_n 0, 1) := by decide +kernel
theorem d_Model_lies_12 : decode c_Model_lies 12 = .ok (.getfield 7, 3) := by decide +kernel
theorem d_Model_lies_15 : decode c_Model_lies 15 = .ok (.iload_n 1, 1) := by decide +kernel
theorem d_Model_lies_16 : decode c_Model_lies 16 = .ok (.iconst 4, 1) := by decide +kernel
theorem d_Model_lies_17 : decode c_Model_lies 17 = .ok (.invokestatic 85, 3) := by decide +kernel
theorem d_Model_lies_20 : decode c_Model_lies 20 = .ok (.iconst 1, 1) := by decide +kernel
theorem d_Model_lies_21 : decode c_Model_lies 21 = .ok (.iastore, 1) := by decide +kernel
theorem d_Model_lies_22 : decode c_Model_lies 22 = .ok (.return_, 1) := by decide +kernel
theorem d_Model_lay_0 : decode c_Model_lay 0 = .ok (.aload_n 0, 1) := by decide +kernel
theorem d_Model_lay_1 : decode c_Model_lay 1 = .ok (.iload_n 1, 1) := by decide +kernel
theorem d_Model_lay_2 : decode c_Model_lay 2 = .ok (.invokevirtual 104, 3) := by decide +kernel
theorem d_Model_lay_5 : decode c_Model_lay 5 = .ok (.ifCond .eq 10, 3) := by decide +kernel
theorem d_Model_lay_8 : decode c_Model_lay 8 = .ok (.iload_n 2, 1) := by decide +kernel
theorem d_Model_lay_9 : decode c_Model_lay 9 = .ok (.invokestatic 48, 3) := by decide +kernel
theorem d_Model_lay_12 : decode c_Model_lay 12 = .ok (.ifCond .ne 10, 3) := by decide +kernel
theorem d_Model_lay_15 : decode c_Model_lay 15 = .ok (.aload_n 0, 1) := by decide +kernel
theorem d_Model_lay_16 : decode c_Model_lay 16 = .ok (.ldc 38, 2) := by decide +kernel
theorem d_Model_lay_18 : decode c_Model_lay 18 = .ok (.invokevirtual 44, 3) := by decide +kernel
theorem d_Model_lay_21 : decode c_Model_lay 21 = .ok (.ireturn, 1) := by decide +kernel
theorem d_Model_lay_22 : decode c_Model_lay 22 = .ok (.aload_n 0, 1) := by decide +kernel
theorem d_Model_lay_23 : decode c_Model_lay 23 = .ok (.iload_n 1, 1) := by decide +kernel
theorem d_Model_lay_24 : decode c_Model_lay 24 = .ok (.iconst 2, 1) := by decide +kernel
theorem d_Model_lay_25 : decode c_Model_lay 25 = .ok (.invokevirtual 61, 3) := by decide +kernel
theorem d_Model_lay_28 : decode c_Model_lay 28 = .ok (.ifCond .eq 10, 3) := by decide +kernel
theorem d_Model_lay_31 : decode c_Model_lay 31 = .ok (.aload_n 0, 1) := by decide +kernel
theorem d_Model_lay_32 : decode c_Model_lay 32 = .ok (.ldc 118, 2) := by decide +kernel
theorem d_Model_lay_34 : decode c_Model_lay 34 = .ok (.invokevirtual 44, 3) := by decide +kernel
theorem d_Model_lay_37 : decode c_Model_lay 37 = .ok (.ireturn, 1) := by decide +kernel
theorem d_Model_lay_38 : decode c_Model_lay 38 = .ok (.aload_n 0, 1) := by decide +kernel
theorem d_Model_lay_39 : decode c_Model_lay 39 = .ok (.iload_n 1, 1) := by decide +kernel
theorem d_Model_lay_40 : decode c_Model_lay 40 = .ok (.iload_n 2, 1) := by decide +kernel
theorem d_Model_lay_41 : decode c_Model_lay 41 = .ok (.invokevirtual 119, 3) := by decide +kernel
theorem d_Model_lay_44 : decode c_Model_lay 44 = .ok (.aload_n 0, 1) := by decide +kernel
theorem d_Model_lay_45 : decode c_Model_lay 45 = .ok (.iload_n 2, 1) := by decide +kernel
theorem d_Model_lay_46 : decode c_Model_lay 46 = .ok (.invokevirtual 65, 3) := by decide +kernel
theorem d_Model_lay_49 : decode c_Model_lay 49 = .ok (.invokestatic 122, 3) := by decide +kernel
theorem d_Model_lay_52 : decode c_Model_lay 52 = .ok (.ireturn, 1) := by decide +kernel
theorem d_Model_fetch_0 : decode c_Model_fetch 0 = .ok (.aload_n 0, 1) := by decide +kernel
theorem d_Model_fetch_1 : decode c_Model_fetch 1 = .ok (.iload_n 1, 1) := by decide +kernel
theorem d_Model_fetch_2 : decode c_Model_fetch 2 = .ok (.invokevirtual 104, 3) := by decide +kernel
theorem d_Model_fetch_5 : decode c_Model_fetch 5 = .ok (.ifCond .ne 10, 3) := by decide +kernel
theorem d_Model_fetch_8 : decode c_Model_fetch 8 = .ok (.aload_n 0, 1) := by decide +kernel
theorem d_Model_fetch_9 : decode c_Model_fetch 9 = .ok (.ldc 38, 2) := by decide +kernel
theorem d_Model_fetch_11 : decode c_Model_fetch 11 = .ok (.invokevirtual 44, 3) := by decide +kernel
theorem d_Model_fetch_14 : decode c_Model_fetch 14 = .ok (.ireturn, 1) := by decide +kernel
theorem d_Model_fetch_15 : decode c_Model_fetch 15 = .ok (.aload_n 0, 1) := by decide +kernel
theorem d_Model_fetch_16 : decode c_Model_fetch 16 = .ok (.iload_n 1, 1) := by decide +kernel
theorem d_Model_fetch_17 : decode c_Model_fetch 17 = .ok (.iconst 1, 1) := by decide +kernel
theorem d_Model_fetch_18 : decode c_Model_fetch 18 = .ok (.invokevirtual 61, 3) := by decide +kernel
theorem d_Model_fetch_21 : decode c_Model_fetch 21 = .ok (.ifCond .ne 10, 3) := by decide +kernel
theorem d_Model_fetch_24 : decode c_Model_fetch 24 = .ok (.aload_n 0, 1) := by decide +kernel
theorem d_Model_fetch_25 : decode c_Model_fetch 25 = .ok (.ldc 118, 2) := by decide +kernel
theorem d_Model_fetch_27 : decode c_Model_fetch 27 = .ok (.invokevirtual 44, 3) := by decide +kernel
theorem d_Model_fetch_30 : decode c_Model_fetch 30 = .ok (.ireturn, 1) := by decide +kernel
theorem d_Model_fetch_31 : decode c_Model_fetch 31 = .ok (.aload_n 0, 1) := by decide +kernel
theorem d_Model_fetch_32 : decode c_Model_fetch 32 = .ok (.getfield 7, 3) := by decide +kernel
theorem d_Model_fetch_35 : decode c_Model_fetch 35 = .ok (.iload_n 1, 1) := by decide +kernel
theorem d_Model_fetch_36 : decode c_Model_fetch 36 = .ok (.iconst 4, 1) := by decide +kernel
theorem d_Model_fetch_37 : decode c_Model_fetch 37 = .ok (.invokestatic 85, 3) := by decide +kernel
theorem d_Model_fetch_40 : decode c_Model_fetch 40 = .ok (.iconst 0, 1) := by decide +kernel
theorem d_Model_fetch_41 : decode c_Model_fetch 41 = .ok (.iastore, 1) := by decide +kernel
theorem d_Model_fetch_42 : decode c_Model_fetch 42 = .ok (.aload_n 0, 1) := by decide +kernel
theorem d_Model_fetch_43 : decode c_Model_fetch 43 = .ok (.iload_n 1, 1) := by decide +kernel
theorem d_Model_fetch_44 : decode c_Model_fetch 44 = .ok (.iconst 2, 1) := by decide +kernel
theorem d_Model_fetch_45 : decode c_Model_fetch 45 = .ok (.invokevirtual 39, 3) := by decide +kernel
theorem d_Model_fetch_48 : decode c_Model_fetch 48 = .ok (.ireturn, 1) := by decide +kernel
theorem d_Model_isTaken_0 : decode c_Model_isTaken 0 = .ok (.aload_n 0, 1) := by decide +kernel
theorem d_Model_isTaken_1 : decode c_Model_isTaken 1 = .ok (.getfield 7, 3) := by decide +kernel
theorem d_Model_isTaken_4 : decode c_Model_isTaken 4 = .ok (.iconst 3, 1) := by decide +kernel
theorem d_Model_isTaken_5 : decode c_Model_isTaken 5 = .ok (.aload_n 0, 1) := by decide +kernel
theorem d_Model_isTaken_6 : decode c_Model_isTaken 6 = .ok (.iload_n 1, 1) := by decide +kernel
theorem d_Model_isTaken_7 : decode c_Model_isTaken 7 = .ok (.iconst 2, 1) := by decide +kernel
theorem d_Model_isTaken_8 : decode c_Model_isTaken 8 = .ok (.invokevirtual 39, 3) := by decide +kernel
theorem d_Model_isTaken_11 : decode c_Model_isTaken 11 = .ok (.iadd, 1) := by decide +kernel
theorem d_Model_isTaken_12 : decode c_Model_isTaken 12 = .ok (.iaload, 1) := by decide +kernel
theorem d_Model_isTaken_13 : decode c_Model_isTaken 13 = .ok (.istore_n 2, 1) := by decide +kernel
theorem d_Model_isTaken_14 : decode c_Model_isTaken 14 = .ok (.aload_n 0, 1) := by decide +kernel
theorem d_Model_isTaken_15 : decode c_Model_isTaken 15 = .ok (.getfield 7, 3) := by decide +kernel
theorem d_Model_isTaken_18 : decode c_Model_isTaken 18 = .ok (.iconst 1, 1) := by decide +kernel
theorem d_Model_isTaken_19 : decode c_Model_isTaken 19 = .ok (.iaload, 1) := by decide +kernel
theorem d_Model_isTaken_20 : decode c_Model_isTaken 20 = .ok (.invokestatic 74, 3) := by decide +kernel
theorem d_Model_isTaken_23 : decode c_Model_isTaken 23 = .ok (.istore_n 3, 1) := by decide +kernel
theorem d_Model_isTaken_24 : decode c_Model_isTaken 24 = .ok (.aload_n 0, 1) := by decide +kernel
theorem d_Model_isTaken_25 : decode c_Model_isTaken 25 = .ok (.getfield 7, 3) := by decide +kernel
theorem d_Model_isTaken_28 : decode c_Model_isTaken 28 = .ok (.iconst 1, 1) := by decide +kernel
theorem d_Model_isTaken_29 : decode c_Model_isTaken 29 = .ok (.iaload, 1) := by decide +kernel
theorem d_Model_isTaken_30 : decode c_Model_isTaken 30 = .ok (.invokestatic 77, 3) := by decide +kernel
theorem d_Model_isTaken_33 : decode c_Model_isTaken 33 = .ok (.istore 4, 2) := by decide +kernel
theorem d_Model_isTaken_35 : decode c_Model_isTaken 35 = .ok (.aload_n 0, 1) := by decide +kernel
theorem d_Model_isTaken_36 : decode c_Model_isTaken 36 = .ok (.iload_n 1, 1) := by decide +kernel
theorem d_Model_isTaken_37 : decode c_Model_isTaken 37 = .ok (.iconst 0, 1) := by decide +kernel
theorem d_Model_isTaken_38 : decode c_Model_isTaken 38 = .ok (.invokevirtual 39, 3) := by decide +kernel
theorem d_Model_isTaken_41 : decode c_Model_isTaken 41 = .ok (.tableswitch 78 1 5 #[35, 51, 78, 35, 62], 35) := by decide +kernel
theorem d_Model_isTaken_76 : decode c_Model_isTaken 76 = .ok (.iload_n 2, 1) := by decide +kernel
theorem d_Model_isTaken_77 : decode c_Model_isTaken 77 = .ok (.iload_n 3, 1) := by decide +kernel
theorem d_Model_isTaken_78 : decode c_Model_isTaken 78 = .ok (.if_icmp .ge 12, 3) := by decide +kernel
theorem d_Model_isTaken_81 : decode c_Model_isTaken 81 = .ok (.iload 4, 2) := by decide +kernel
theorem d_Model_isTaken_83 : decode c_Model_isTaken 83 = .ok (.ifCond .ne 7, 3) := by decide +kernel
theorem d_Model_isTaken_86 : decode c_Model_isTaken 86 = .ok (.iconst 1, 1) := by decide +kernel
theorem d_Model_isTaken_87 : decode c_Model_isTaken 87 = .ok (.goto 4, 3) := by decide +kernel
theorem d_Model_isTaken_90 : decode c_Model_isTaken 90 = .ok (.iconst 0, 1) := by decide +kernel
theorem d_Model_isTaken_91 : decode c_Model_isTaken 91 = .ok (.ireturn, 1) := by decide +kernel
theorem d_Model_isTaken_92 : decode c_Model_isTaken 92 = .ok (.iload_n 2, 1) := by decide +kernel
theorem d_Model_isTaken_93 : decode c_Model_isTaken 93 = .ok (.iload_n 3, 1) := by decide +kernel
theorem d_Model_isTaken_94 : decode c_Model_isTaken 94 = .ok (.if_icmp .gt 7, 3) := by decide +kernel
theorem d_Model_isTaken_97 : decode c_Model_isTaken 97 = .ok (.iconst 1, 1) := by decide +kernel
theorem d_Model_isTaken_98 : decode c_Model_isTaken 98 = .ok (.goto 4, 3) := by decide +kernel
theorem d_Model_isTaken_101 : decode c_Model_isTaken 101 = .ok (.iconst 0, 1) := by decide +kernel
theorem d_Model_isTaken_102 : decode c_Model_isTaken 102 = .ok (.ireturn, 1) := by decide +kernel
theorem d_Model_isTaken_103 : decode c_Model_isTaken 103 = .ok (.iload_n 2, 1) := by decide +kernel
theorem d_Model_isTaken_104 : decode c_Model_isTaken 104 = .ok (.iload_n 3, 1) := by decide +kernel
theorem d_Model_isTaken_105 : decode c_Model_isTaken 105 = .ok (.if_icmp .gt 12, 3) := by decide +kernel
theorem d_Model_isTaken_108 : decode c_Model_isTaken 108 = .ok (.iload 4, 2) := by decide +kernel
theorem d_Model_isTaken_110 : decode c_Model_isTaken 110 = .ok (.ifCond .eq 7, 3) := by decide +kernel
theorem d_Model_isTaken_113 : decode c_Model_isTaken 113 = .ok (.iconst 1, 1) := by decide +kernel
theorem d_Model_isTaken_114 : decode c_Model_isTaken 114 = .ok (.goto 4, 3) := by decide +kernel
theorem d_Model_isTaken_117 : decode c_Model_isTaken 117 = .ok (.iconst 0, 1) := by decide +kernel
theorem d_Model_isTaken_118 : decode c_Model_isTaken 118 = .ok (.ireturn, 1) := by decide +kernel
theorem d_Model_isTaken_119 : decode c_Model_isTaken 119 = .ok (.iload_n 2, 1) := by decide +kernel
theorem d_Model_isTaken_120 : decode c_Model_isTaken 120 = .ok (.iload_n 3, 1) := by decide +kernel
theorem d_Model_isTaken_121 : decode c_Model_isTaken 121 = .ok (.if_icmp .ge 7, 3) := by decide +kernel
theorem d_Model_isTaken_124 : decode c_Model_isTaken 124 = .ok (.iconst 1, 1) := by decide +kernel
theorem d_Model_isTaken_125 : decode c_Model_isTaken 125 = .ok (.goto 4, 3) := by decide +kernel
theorem d_Model_isTaken_128 : decode c_Model_isTaken 128 = .ok (.iconst 0, 1) := by decide +kernel
theorem d_Model_isTaken_129 : decode c_Model_isTaken 129 = .ok (.ireturn, 1) := by decide +kernel
theorem d_Model_comesHome_0 : decode c_Model_comesHome 0 = .ok (.aload_n 0, 1) := by decide +kernel
theorem d_Model_comesHome_1 : decode c_Model_comesHome 1 = .ok (.getfield 7, 3) := by decide +kernel
theorem d_Model_comesHome_4 : decode c_Model_comesHome 4 = .ok (.bipush 19, 2) := by decide +kernel
theorem d_Model_comesHome_6 : decode c_Model_comesHome 6 = .ok (.aload_n 0, 1) := by decide +kernel
theorem d_Model_comesHome_7 : decode c_Model_comesHome 7 = .ok (.iload_n 1, 1) := by decide +kernel
theorem d_Model_comesHome_8 : decode c_Model_comesHome 8 = .ok (.iconst 1, 1) := by decide +kernel
theorem d_Model_comesHome_9 : decode c_Model_comesHome 9 = .ok (.invokevirtual 39, 3) := by decide +kernel
theorem d_Model_comesHome_12 : decode c_Model_comesHome 12 = .ok (.iadd, 1) := by decide +kernel
theorem d_Model_comesHome_13 : decode c_Model_comesHome 13 = .ok (.iaload, 1) := by decide +kernel
theorem d_Model_comesHome_14 : decode c_Model_comesHome 14 = .ok (.i2l, 1) := by decide +kernel
theorem d_Model_comesHome_15 : decode c_Model_comesHome 15 = .ok (.aload_n 0, 1) := by decide +kernel
theorem d_Model_comesHome_16 : decode c_Model_comesHome 16 = .ok (.iload_n 1, 1) := by decide +kernel
theorem d_Model_comesHome_17 : decode c_Model_comesHome 17 = .ok (.iload_n 2, 1) := by decide +kernel
theorem d_Model_comesHome_18 : decode c_Model_comesHome 18 = .ok (.invokevirtual 101, 3) := by decide +kernel
theorem d_Model_comesHome_21 : decode c_Model_comesHome 21 = .ok (.i2l, 1) := by decide +kernel
theorem d_Model_comesHome_22 : decode c_Model_comesHome 22 = .ok (.ladd, 1) := by decide +kernel
theorem d_Model_comesHome_23 : decode c_Model_comesHome 23 = .ok (.lstore_n 3, 1) := by decide +kernel
theorem d_Model_comesHome_24 : decode c_Model_comesHome 24 = .ok (.aload_n 0, 1) := by decide +kernel
theorem d_Model_comesHome_25 : decode c_Model_comesHome 25 = .ok (.getfield 7, 3) := by decide +kernel
theorem d_Model_comesHome_28 : decode c_Model_comesHome 28 = .ok (.bipush 19, 2) := by decide +kernel
theorem d_Model_comesHome_30 : decode c_Model_comesHome 30 = .ok (.aload_n 0, 1) := by decide +kernel
theorem d_Model_comesHome_31 : decode c_Model_comesHome 31 = .ok (.iload_n 1, 1) := by decide +kernel
theorem d_Model_comesHome_32 : decode c_Model_comesHome 32 = .ok (.iconst 1, 1) := by decide +kernel
theorem d_Model_comesHome_33 : decode c_Model_comesHome 33 = .ok (.invokevirtual 39, 3) := by decide +kernel
theorem d_Model_comesHome_36 : decode c_Model_comesHome 36 = .ok (.iadd, 1) := by decide +kernel
theorem d_Model_comesHome_37 : decode c_Model_comesHome 37 = .ok (.lload_n 3, 1) := by decide +kernel
theorem d_Model_comesHome_38 : decode c_Model_comesHome 38 = .ok (.ldc2_w 83, 3) := by decide +kernel
theorem d_Model_comesHome_41 : decode c_Model_comesHome 41 = .ok (.lcmp, 1) := by decide +kernel
theorem d_Model_comesHome_42 : decode c_Model_comesHome 42 = .ok (.ifCond .le 9, 3) := by decide +kernel
theorem d_Model_comesHome_45 : decode c_Model_comesHome 45 = .ok (.ldc2_w 83, 3) := by decide +kernel
theorem d_Model_comesHome_48 : decode c_Model_comesHome 48 = .ok (.goto 4, 3) := by decide +kernel
theorem d_Model_comesHome_51 : decode c_Model_comesHome 51 = .ok (.lload_n 3, 1) := by decide +kernel
theorem d_Model_comesHome_52 : decode c_Model_comesHome 52 = .ok (.l2i, 1) := by decide +kernel
theorem d_Model_comesHome_53 : decode c_Model_comesHome 53 = .ok (.iastore, 1) := by decide +kernel
theorem d_Model_comesHome_54 : decode c_Model_comesHome 54 = .ok (.aload_n 0, 1) := by decide +kernel
theorem d_Model_comesHome_55 : decode c_Model_comesHome 55 = .ok (.getfield 7, 3) := by decide +kernel
theorem d_Model_comesHome_58 : decode c_Model_comesHome 58 = .ok (.iload_n 1, 1) := by decide +kernel
theorem d_Model_comesHome_59 : decode c_Model_comesHome 59 = .ok (.iconst 4, 1) := by decide +kernel
theorem d_Model_comesHome_60 : decode c_Model_comesHome 60 = .ok (.invokestatic 85, 3) := by decide +kernel
theorem d_Model_comesHome_63 : decode c_Model_comesHome 63 = .ok (.iconst 0, 1) := by decide +kernel
theorem d_Model_comesHome_64 : decode c_Model_comesHome 64 = .ok (.iastore, 1) := by decide +kernel
theorem d_Model_comesHome_65 : decode c_Model_comesHome 65 = .ok (.return_, 1) := by decide +kernel
theorem d_Model_day_0 : decode c_Model_day 0 = .ok (.iconst 0, 1) := by decide +kernel
theorem d_Model_day_1 : decode c_Model_day 1 = .ok (.istore_n 1, 1) := by decide +kernel
theorem d_Model_day_2 : decode c_Model_day 2 = .ok (.iload_n 1, 1) := by decide +kernel
theorem d_Model_day_3 : decode c_Model_day 3 = .ok (.aload_n 0, 1) := by decide +kernel
theorem d_Model_day_4 : decode c_Model_day 4 = .ok (.getfield 7, 3) := by decide +kernel
theorem d_Model_day_7 : decode c_Model_day 7 = .ok (.iconst 0, 1) := by decide +kernel
theorem d_Model_day_8 : decode c_Model_day 8 = .ok (.iaload, 1) := by decide +kernel
theorem d_Model_day_9 : decode c_Model_day 9 = .ok (.if_icmp .ge 110, 3) := by decide +kernel
theorem d_Model_day_12 : decode c_Model_day 12 = .ok (.aload_n 0, 1) := by decide +kernel
theorem d_Model_day_13 : decode c_Model_day 13 = .ok (.getfield 7, 3) := by decide +kernel
theorem d_Model_day_16 : decode c_Model_day 16 = .ok (.iconst 1, 1) := by decide +kernel
theorem d_Model_day_17 : decode c_Model_day 17 = .ok (.iaload, 1) := by decide +kernel
theorem d_Model_day_18 : decode c_Model_day 18 = .ok (.aload_n 0, 1) := by decide +kernel
theorem d_Model_day_19 : decode c_Model_day 19 = .ok (.iload_n 1, 1) := by decide +kernel
theorem d_Model_day_20 : decode c_Model_day 20 = .ok (.iconst 5, 1) := by decide +kernel
theorem d_Model_day_21 : decode c_Model_day 21 = .ok (.invokevirtual 39, 3) := by decide +kernel
theorem d_Model_day_24 : decode c_Model_day 24 = .ok (.isub, 1) := by decide +kernel
theorem d_Model_day_25 : decode c_Model_day 25 = .ok (.istore_n 2, 1) := by decide +kernel
theorem d_Model_day_26 : decode c_Model_day 26 = .ok (.aload_n 0, 1) := by decide +kernel
theorem d_Model_day_27 : decode c_Model_day 27 = .ok (.iload_n 1, 1) := by decide +kernel
theorem d_Model_day_28 : decode c_Model_day 28 = .ok (.iconst 2, 1) := by decide +kernel
theorem d_Model_day_29 : decode c_Model_day 29 = .ok (.invokevirtual 61, 3) := by decide +kernel
theorem d_Model_day_32 : decode c_Model_day 32 = .ok (.ifCond .eq 37, 3) := by decide +kernel
theorem d_Model_day_35 : decode c_Model_day 35 = .ok (.aload_n 0, 1) := by decide +kernel
theorem d_Model_day_36 : decode c_Model_day 36 = .ok (.getfield 7, 3) := by decide +kernel
theorem d_Model_day_39 : decode c_Model_day 39 = .ok (.iconst 1, 1) := by decide +kernel
theorem d_Model_day_40 : decode c_Model_day 40 = .ok (.iaload, 1) := by decide +kernel
theorem d_Model_day_41 : decode c_Model_day 41 = .ok (.invokestatic 77, 3) := by decide +kernel
theorem d_Model_day_44 : decode c_Model_day 44 = .ok (.ifCond .eq 69, 3) := by decide +kernel
theorem d_Model_day_47 : decode c_Model_day 47 = .ok (.iload_n 2, 1) := by decide +kernel
theorem d_Model_day_48 : decode c_Model_day 48 = .ok (.aload_n 0, 1) := by decide +kernel
theorem d_Model_day_49 : decode c_Model_day 49 = .ok (.iload_n 1, 1) := by decide +kernel
theorem d_Model_day_50 : decode c_Model_day 50 = .ok (.iconst 0, 1) := by decide +kernel
theorem d_Model_day_51 : decode c_Model_day 51 = .ok (.invokevirtual 39, 3) := by decide +kernel
theorem d_Model_day_54 : decode c_Model_day 54 = .ok (.invokestatic 109, 3) := by decide +kernel
theorem d_Model_day_57 : decode c_Model_day 57 = .ok (.if_icmp .lt 56, 3) := by decide +kernel
theorem d_Model_day_60 : decode c_Model_day 60 = .ok (.aload_n 0, 1) := by decide +kernel
theorem d_Model_day_61 : decode c_Model_day 61 = .ok (.iload_n 1, 1) := by decide +kernel
theorem d_Model_day_62 : decode c_Model_day 62 = .ok (.iload_n 2, 1) := by decide +kernel
theorem d_Model_day_63 : decode c_Model_day 63 = .ok (.invokevirtual 125, 3) := by decide +kernel
theorem d_Model_day_66 : decode c_Model_day 66 = .ok (.goto 47, 3) := by decide +kernel
theorem d_Model_day_69 : decode c_Model_day 69 = .ok (.aload_n 0, 1) := by decide +kernel
theorem d_Model_day_70 : decode c_Model_day 70 = .ok (.iload_n 1, 1) := by decide +kernel
theorem d_Model_day_71 : decode c_Model_day 71 = .ok (.iconst 1, 1) := by decide +kernel
theorem d_Model_day_72 : decode c_Model_day 72 = .ok (.invokevirtual 61, 3) := by decide +kernel
theorem d_Model_day_75 : decode c_Model_day 75 = .ok (.ifCond .eq 38, 3) := by decide +kernel
theorem d_Model_day_78 : decode c_Model_day 78 = .ok (.aload_n 0, 1) := by decide +kernel
theorem d_Model_day_79 : decode c_Model_day 79 = .ok (.iload_n 1, 1) := by decide +kernel
theorem d_Model_day_80 : decode c_Model_day 80 = .ok (.invokevirtual 128, 3) := by decide +kernel
theorem d_Model_day_83 : decode c_Model_day 83 = .ok (.ifCond .eq 30, 3) := by decide +kernel
theorem d_Model_day_86 : decode c_Model_day 86 = .ok (.aload_n 0, 1) := by decide +kernel
theorem d_Model_day_87 : decode c_Model_day 87 = .ok (.getfield 7, 3) := by decide +kernel
theorem d_Model_day_90 : decode c_Model_day 90 = .ok (.iload_n 1, 1) := by decide +kernel
theorem d_Model_day_91 : decode c_Model_day 91 = .ok (.iconst 4, 1) := by decide +kernel
theorem d_Model_day_92 : decode c_Model_day 92 = .ok (.invokestatic 85, 3) := by decide +kernel
theorem d_Model_day_95 : decode c_Model_day 95 = .ok (.iconst 2, 1) := by decide +kernel
theorem d_Model_day_96 : decode c_Model_day 96 = .ok (.iastore, 1) := by decide +kernel
theorem d_Model_day_97 : decode c_Model_day 97 = .ok (.aload_n 0, 1) := by decide +kernel
theorem d_Model_day_98 : decode c_Model_day 98 = .ok (.getfield 7, 3) := by decide +kernel
theorem d_Model_day_101 : decode c_Model_day 101 = .ok (.iload_n 1, 1) := by decide +kernel
theorem d_Model_day_102 : decode c_Model_day 102 = .ok (.iconst 5, 1) := by decide +kernel
theorem d_Model_day_103 : decode c_Model_day 103 = .ok (.invokestatic 85, 3) := by decide +kernel
theorem d_Model_day_106 : decode c_Model_day 106 = .ok (.aload_n 0, 1) := by decide +kernel
theorem d_Model_day_107 : decode c_Model_day 107 = .ok (.getfield 7, 3) := by decide +kernel
theorem d_Model_day_110 : decode c_Model_day 110 = .ok (.iconst 1, 1) := by decide +kernel
theorem d_Model_day_111 : decode c_Model_day 111 = .ok (.iaload, 1) := by decide +kernel
theorem d_Model_day_112 : decode c_Model_day 112 = .ok (.iastore, 1) := by decide +kernel
theorem d_Model_day_113 : decode c_Model_day 113 = .ok (.iinc 1 1, 3) := by decide +kernel
theorem d_Model_day_116 : decode c_Model_day 116 = .ok (.goto (-114), 3) := by decide +kernel
theorem d_Model_day_119 : decode c_Model_day 119 = .ok (.aload_n 0, 1) := by decide +kernel
theorem d_Model_day_120 : decode c_Model_day 120 = .ok (.getfield 7, 3) := by decide +kernel
theorem d_Model_day_123 : decode c_Model_day 123 = .ok (.iconst 1, 1) := by decide +kernel
theorem d_Model_day_124 : decode c_Model_day 124 = .ok (.dup2, 1) := by decide +kernel
theorem d_Model_day_125 : decode c_Model_day 125 = .ok (.iaload, 1) := by decide +kernel
theorem d_Model_day_126 : decode c_Model_day 126 = .ok (.iconst 1, 1) := by decide +kernel
theorem d_Model_day_127 : decode c_Model_day 127 = .ok (.iadd, 1) := by decide +kernel
theorem d_Model_day_128 : decode c_Model_day 128 = .ok (.iastore, 1) := by decide +kernel
theorem d_Model_day_129 : decode c_Model_day 129 = .ok (.return_, 1) := by decide +kernel
theorem d_Model_goes_0 : decode c_Model_goes 0 = .ok (.iconst 0, 1) := by decide +kernel
theorem d_Model_goes_1 : decode c_Model_goes 1 = .ok (.istore_n 2, 1) := by decide +kernel
theorem d_Model_goes_2 : decode c_Model_goes 2 = .ok (.iload_n 2, 1) := by decide +kernel
theorem d_Model_goes_3 : decode c_Model_goes 3 = .ok (.iload_n 1, 1) := by decide +kernel
theorem d_Model_goes_4 : decode c_Model_goes 4 = .ok (.if_icmp .ge 13, 3) := by decide +kernel
theorem d_Model_goes_7 : decode c_Model_goes 7 = .ok (.aload_n 0, 1) := by decide +kernel
theorem d_Model_goes_8 : decode c_Model_goes 8 = .ok (.invokevirtual 131, 3) := by decide +kernel
theorem d_Model_goes_11 : decode c_Model_goes 11 = .ok (.iinc 2 1, 3) := by decide +kernel
theorem d_Model_goes_14 : decode c_Model_goes 14 = .ok (.goto (-12), 3) := by decide +kernel
theorem d_Model_goes_17 : decode c_Model_goes 17 = .ok (.return_, 1) := by decide +kernel
theorem d_Model_purses_0 : decode c_Model_purses 0 = .ok (.aload_n 0, 1) := by decide +kernel
theorem d_Model_purses_1 : decode c_Model_purses 1 = .ok (.getfield 7, 3) := by decide +kernel
theorem d_Model_purses_4 : decode c_Model_purses 4 = .ok (.bipush 19, 2) := by decide +kernel
theorem d_Model_purses_6 : decode c_Model_purses 6 = .ok (.iaload, 1) := by decide +kernel
theorem d_Model_purses_7 : decode c_Model_purses 7 = .ok (.i2l, 1) := by decide +kernel
theorem d_Model_purses_8 : decode c_Model_purses 8 = .ok (.aload_n 0, 1) := by decide +kernel
theorem d_Model_purses_9 : decode c_Model_purses 9 = .ok (.getfield 7, 3) := by decide +kernel
theorem d_Model_purses_12 : decode c_Model_purses 12 = .ok (.bipush 20, 2) := by decide +kernel
theorem d_Model_purses_14 : decode c_Model_purses 14 = .ok (.iaload, 1) := by decide +kernel
theorem d_Model_purses_15 : decode c_Model_purses 15 = .ok (.i2l, 1) := by decide +kernel
theorem d_Model_purses_16 : decode c_Model_purses 16 = .ok (.ladd, 1) := by decide +kernel
theorem d_Model_purses_17 : decode c_Model_purses 17 = .ok (.aload_n 0, 1) := by decide +kernel
theorem d_Model_purses_18 : decode c_Model_purses 18 = .ok (.getfield 7, 3) := by decide +kernel
theorem d_Model_purses_21 : decode c_Model_purses 21 = .ok (.bipush 21, 2) := by decide +kernel
theorem d_Model_purses_23 : decode c_Model_purses 23 = .ok (.iaload, 1) := by decide +kernel
theorem d_Model_purses_24 : decode c_Model_purses 24 = .ok (.i2l, 1) := by decide +kernel
theorem d_Model_purses_25 : decode c_Model_purses 25 = .ok (.ladd, 1) := by decide +kernel
theorem d_Model_purses_26 : decode c_Model_purses 26 = .ok (.aload_n 0, 1) := by decide +kernel
theorem d_Model_purses_27 : decode c_Model_purses 27 = .ok (.getfield 7, 3) := by decide +kernel
theorem d_Model_purses_30 : decode c_Model_purses 30 = .ok (.bipush 22, 2) := by decide +kernel
theorem d_Model_purses_32 : decode c_Model_purses 32 = .ok (.iaload, 1) := by decide +kernel
theorem d_Model_purses_33 : decode c_Model_purses 33 = .ok (.i2l, 1) := by decide +kernel
theorem d_Model_purses_34 : decode c_Model_purses 34 = .ok (.ladd, 1) := by decide +kernel
theorem d_Model_purses_35 : decode c_Model_purses 35 = .ok (.lreturn, 1) := by decide +kernel
theorem d_Model_days_0 : decode c_Model_days 0 = .ok (.iload_n 1, 1) := by decide +kernel
theorem d_Model_days_1 : decode c_Model_days 1 = .ok (.i2l, 1) := by decide +kernel
theorem d_Model_days_2 : decode c_Model_days 2 = .ok (.lconst 1, 1) := by decide +kernel
theorem d_Model_days_3 : decode c_Model_days 3 = .ok (.ldc2_w 134, 3) := by decide +kernel
theorem d_Model_days_6 : decode c_Model_days 6 = .ok (.invokestatic 54, 3) := by decide +kernel
theorem d_Model_days_9 : decode c_Model_days 9 = .ok (.ifCond .ne 11, 3) := by decide +kernel
theorem d_Model_days_12 : decode c_Model_days 12 = .ok (.aload_n 0, 1) := by decide +kernel
theorem d_Model_days_13 : decode c_Model_days 13 = .ok (.ldc 38, 2) := by decide +kernel
theorem d_Model_days_15 : decode c_Model_days 15 = .ok (.invokevirtual 44, 3) := by decide +kernel
theorem d_Model_days_18 : decode c_Model_days 18 = .ok (.i2l, 1) := by decide +kernel
theorem d_Model_days_19 : decode c_Model_days 19 = .ok (.lreturn, 1) := by decide +kernel
theorem d_Model_days_20 : decode c_Model_days 20 = .ok (.aload_n 0, 1) := by decide +kernel
theorem d_Model_days_21 : decode c_Model_days 21 = .ok (.getfield 7, 3) := by decide +kernel
theorem d_Model_days_24 : decode c_Model_days 24 = .ok (.iconst 1, 1) := by decide +kernel
theorem d_Model_days_25 : decode c_Model_days 25 = .ok (.iaload, 1) := by decide +kernel
theorem d_Model_days_26 : decode c_Model_days 26 = .ok (.iload_n 1, 1) := by decide +kernel
theorem d_Model_days_27 : decode c_Model_days 27 = .ok (.iadd, 1) := by decide +kernel
theorem d_Model_days_28 : decode c_Model_days 28 = .ok (.ldc 136, 2) := by decide +kernel
theorem d_Model_days_30 : decode c_Model_days 30 = .ok (.if_icmp .le 11, 3) := by decide +kernel
theorem d_Model_days_33 : decode c_Model_days 33 = .ok (.aload_n 0, 1) := by decide +kernel
theorem d_Model_days_34 : decode c_Model_days 34 = .ok (.ldc 118, 2) := by decide +kernel
theorem d_Model_days_36 : decode c_Model_days 36 = .ok (.invokevirtual 44, 3) := by decide +kernel
theorem d_Model_days_39 : decode c_Model_days 39 = .ok (.i2l, 1) := by decide +kernel
theorem d_Model_days_40 : decode c_Model_days 40 = .ok (.lreturn, 1) := by decide +kernel
theorem d_Model_days_41 : decode c_Model_days 41 = .ok (.aload_n 0, 1) := by decide +kernel
theorem d_Model_days_42 : decode c_Model_days 42 = .ok (.iload_n 1, 1) := by decide +kernel
theorem d_Model_days_43 : decode c_Model_days 43 = .ok (.invokevirtual 137, 3) := by decide +kernel
theorem d_Model_days_46 : decode c_Model_days 46 = .ok (.aload_n 0, 1) := by decide +kernel
theorem d_Model_days_47 : decode c_Model_days 47 = .ok (.invokevirtual 141, 3) := by decide +kernel
theorem d_Model_days_50 : decode c_Model_days 50 = .ok (.lreturn, 1) := by decide +kernel
theorem d_Model_thoseThatAre_0 : decode c_Model_thoseThatAre 0 = .ok (.iconst 0, 1) := by decide +kernel
theorem d_Model_thoseThatAre_1 : decode c_Model_thoseThatAre 1 = .ok (.istore_n 2, 1) := by decide +kernel
theorem d_Model_thoseThatAre_2 : decode c_Model_thoseThatAre 2 = .ok (.iconst 0, 1) := by decide +kernel
theorem d_Model_thoseThatAre_3 : decode c_Model_thoseThatAre 3 = .ok (.istore_n 3, 1) := by decide +kernel
theorem d_Model_thoseThatAre_4 : decode c_Model_thoseThatAre 4 = .ok (.iload_n 3, 1) := by decide +kernel
theorem d_Model_thoseThatAre_5 : decode c_Model_thoseThatAre 5 = .ok (.aload_n 0, 1) := by decide +kernel
theorem d_Model_thoseThatAre_6 : decode c_Model_thoseThatAre 6 = .ok (.getfield 7, 3) := by decide +kernel
theorem d_Model_thoseThatAre_9 : decode c_Model_thoseThatAre 9 = .ok (.iconst 0, 1) := by decide +kernel
theorem d_Model_thoseThatAre_10 : decode c_Model_thoseThatAre 10 = .ok (.iaload, 1) := by decide +kernel
theorem d_Model_thoseThatAre_11 : decode c_Model_thoseThatAre 11 = .ok (.if_icmp .ge 28, 3) := by decide +kernel
theorem d_Model_thoseThatAre_14 : decode c_Model_thoseThatAre 14 = .ok (.iload_n 2, 1) := by decide +kernel
theorem d_Model_thoseThatAre_15 : decode c_Model_thoseThatAre 15 = .ok (.aload_n 0, 1) := by decide +kernel
theorem d_Model_thoseThatAre_16 : decode c_Model_thoseThatAre 16 = .ok (.iload_n 3, 1) := by decide +kernel
theorem d_Model_thoseThatAre_17 : decode c_Model_thoseThatAre 17 = .ok (.iload_n 1, 1) := by decide +kernel
theorem d_Model_thoseThatAre_18 : decode c_Model_thoseThatAre 18 = .ok (.invokevirtual 61, 3) := by decide +kernel
theorem d_Model_thoseThatAre_21 : decode c_Model_thoseThatAre 21 = .ok (.ifCond .eq 9, 3) := by decide +kernel
theorem d_Model_thoseThatAre_24 : decode c_Model_thoseThatAre 24 = .ok (.iconst 1, 1) := by decide +kernel
theorem d_Model_thoseThatAre_25 : decode c_Model_thoseThatAre 25 = .ok (.iload_n 3, 1) := by decide +kernel
theorem d_Model_thoseThatAre_26 : decode c_Model_thoseThatAre 26 = .ok (.ishl, 1) := by decide +kernel
theorem d_Model_thoseThatAre_27 : decode c_Model_thoseThatAre 27 = .ok (.goto 4, 3) := by decide +kernel
theorem d_Model_thoseThatAre_30 : decode c_Model_thoseThatAre 30 = .ok (.iconst 0, 1) := by decide +kernel
theorem d_Model_thoseThatAre_31 : decode c_Model_thoseThatAre 31 = .ok (.ior, 1) := by decide +kernel
theorem d_Model_thoseThatAre_32 : decode c_Model_thoseThatAre 32 = .ok (.istore_n 2, 1) := by decide +kernel
theorem d_Model_thoseThatAre_33 : decode c_Model_thoseThatAre 33 = .ok (.iinc 3 1, 3) := by decide +kernel
theorem d_Model_thoseThatAre_36 : decode c_Model_thoseThatAre 36 = .ok (.goto (-32), 3) := by decide +kernel
theorem d_Model_thoseThatAre_39 : decode c_Model_thoseThatAre 39 = .ok (.iload_n 2, 1) := by decide +kernel
theorem d_Model_thoseThatAre_40 : decode c_Model_thoseThatAre 40 = .ok (.ireturn, 1) := by decide +kernel
theorem d_Model_now_0 : decode c_Model_now 0 = .ok (.iconst 0, 1) := by decide +kernel
theorem d_Model_now_1 : decode c_Model_now 1 = .ok (.istore_n 2, 1) := by decide +kernel
theorem d_Model_now_2 : decode c_Model_now 2 = .ok (.iload_n 1, 1) := by decide +kernel
theorem d_Model_now_3 : decode c_Model_now 3 = .ok (.tableswitch 115 0 5 #[37, 37, 46, 52, 58, 86], 37) := by decide +kernel
theorem d_Model_now_40 : decode c_Model_now 40 = .ok (.aload_n 0, 1) := by decide +kernel
theorem d_Model_now_41 : decode c_Model_now 41 = .ok (.getfield 7, 3) := by decide +kernel
theorem d_Model_now_44 : decode c_Model_now 44 = .ok (.iconst 1, 1) := by decide +kernel
theorem d_Model_now_45 : decode c_Model_now 45 = .ok (.iload_n 1, 1) := by decide +kernel
theorem d_Model_now_46 : decode c_Model_now 46 = .ok (.iadd, 1) := by decide +kernel
theorem d_Model_now_47 : decode c_Model_now 47 = .ok (.iaload, 1) := by decide +kernel
theorem d_Model_now_48 : decode c_Model_now 48 = .ok (.ireturn, 1) := by decide +kernel
theorem d_Model_now_49 : decode c_Model_now 49 = .ok (.aload_n 0, 1) := by decide +kernel
theorem d_Model_now_50 : decode c_Model_now 50 = .ok (.iconst 1, 1) := by decide +kernel
theorem d_Model_now_51 : decode c_Model_now 51 = .ok (.invokevirtual 145, 3) := by decide +kernel
theorem d_Model_now_54 : decode c_Model_now 54 = .ok (.ireturn, 1) := by decide +kernel
theorem d_Model_now_55 : decode c_Model_now 55 = .ok (.aload_n 0, 1) := by decide +kernel
theorem d_Model_now_56 : decode c_Model_now 56 = .ok (.iconst 2, 1) := by decide +kernel
theorem d_Model_now_57 : decode c_Model_now 57 = .ok (.invokevirtual 145, 3) := by decide +kernel
theorem d_Model_now_60 : decode c_Model_now 60 = .ok (.ireturn, 1) := by decide +kernel
theorem d_Model_now_61 : decode c_Model_now 61 = .ok (.iconst 0, 1) := by decide +kernel
theorem d_Model_now_62 : decode c_Model_now 62 = .ok (.istore_n 3, 1) := by decide +kernel
theorem d_Model_now_63 : decode c_Model_now 63 = .ok (.iload_n 3, 1) := by decide +kernel
theorem d_Model_now_64 : decode c_Model_now 64 = .ok (.aload_n 0, 1) := by decide +kernel
theorem d_Model_now_65 : decode c_Model_now 65 = .ok (.getfield 7, 3) := by decide +kernel
theorem d_Model_now_68 : decode c_Model_now 68 = .ok (.iconst 0, 1) := by decide +kernel
theorem d_Model_now_69 : decode c_Model_now 69 = .ok (.iaload, 1) := by decide +kernel
theorem d_Model_now_70 : decode c_Model_now 70 = .ok (.if_icmp .ge 17, 3) := by decide +kernel
theorem d_Model_now_73 : decode c_Model_now 73 = .ok (.iload_n 2, 1) := by decide +kernel
theorem d_Model_now_74 : decode c_Model_now 74 = .ok (.aload_n 0, 1) := by decide +kernel
theorem d_Model_now_75 : decode c_Model_now 75 = .ok (.iload_n 3, 1) := by decide +kernel
theorem d_Model_now_76 : decode c_Model_now 76 = .ok (.invokevirtual 112, 3) := by decide +kernel
theorem d_Model_now_79 : decode c_Model_now 79 = .ok (.iadd, 1) := by decide +kernel
theorem d_Model_now_80 : decode c_Model_now 80 = .ok (.istore_n 2, 1) := by decide +kernel
theorem d_Model_now_81 : decode c_Model_now 81 = .ok (.iinc 3 1, 3) := by decide +kernel
theorem d_Model_now_84 : decode c_Model_now 84 = .ok (.goto (-21), 3) := by decide +kernel
theorem d_Model_now_87 : decode c_Model_now 87 = .ok (.iload_n 2, 1) := by decide +kernel
theorem d_Model_now_88 : decode c_Model_now 88 = .ok (.ireturn, 1) := by decide +kernel
theorem d_Model_now_89 : decode c_Model_now 89 = .ok (.iconst 0, 1) := by decide +kernel
theorem d_Model_now_90 : decode c_Model_now 90 = .ok (.istore_n 3, 1) := by decide +kernel
theorem d_Model_now_91 : decode c_Model_now 91 = .ok (.iload_n 3, 1) := by decide +kernel
theorem d_Model_now_92 : decode c_Model_now 92 = .ok (.aload_n 0, 1) := by decide +kernel
theorem d_Model_now_93 : decode c_Model_now 93 = .ok (.getfield 7, 3) := by decide +kernel
theorem d_Model_now_96 : decode c_Model_now 96 = .ok (.iconst 0, 1) := by decide +kernel
theorem d_Model_now_97 : decode c_Model_now 97 = .ok (.iaload, 1) := by decide +kernel
theorem d_Model_now_98 : decode c_Model_now 98 = .ok (.if_icmp .ge 18, 3) := by decide +kernel
theorem d_Model_now_101 : decode c_Model_now 101 = .ok (.iload_n 2, 1) := by decide +kernel
theorem d_Model_now_102 : decode c_Model_now 102 = .ok (.aload_n 0, 1) := by decide +kernel
theorem d_Model_now_103 : decode c_Model_now 103 = .ok (.iload_n 3, 1) := by decide +kernel
theorem d_Model_now_104 : decode c_Model_now 104 = .ok (.iconst 3, 1) := by decide +kernel
theorem d_Model_now_105 : decode c_Model_now 105 = .ok (.invokevirtual 39, 3) := by decide +kernel
theorem d_Model_now_108 : decode c_Model_now 108 = .ok (.iadd, 1) := by decide +kernel
theorem d_Model_now_109 : decode c_Model_now 109 = .ok (.istore_n 2, 1) := by decide +kernel
theorem d_Model_now_110 : decode c_Model_now 110 = .ok (.iinc 3 1, 3) := by decide +kernel
theorem d_Model_now_113 : decode c_Model_now 113 = .ok (.goto (-22), 3) := by decide +kernel
theorem d_Model_now_116 : decode c_Model_now 116 = .ok (.iload_n 2, 1) := by decide +kernel
theorem d_Model_now_117 : decode c_Model_now 117 = .ok (.ireturn, 1) := by decide +kernel
theorem d_Model_now_118 : decode c_Model_now 118 = .ok (.aload_n 0, 1) := by decide +kernel
theorem d_Model_now_119 : decode c_Model_now 119 = .ok (.ldc 38, 2) := by decide +kernel
theorem d_Model_now_121 : decode c_Model_now 121 = .ok (.invokevirtual 44, 3) := by decide +kernel
theorem d_Model_now_124 : decode c_Model_now 124 = .ok (.ireturn, 1) := by decide +kernel
theorem d_Model_purseOn_0 : decode c_Model_purseOn 0 = .ok (.aload_n 0, 1) := by decide +kernel
theorem d_Model_purseOn_1 : decode c_Model_purseOn 1 = .ok (.getfield 7, 3) := by decide +kernel
theorem d_Model_purseOn_4 : decode c_Model_purseOn 4 = .ok (.aload_n 0, 1) := by decide +kernel
theorem d_Model_purseOn_5 : decode c_Model_purseOn 5 = .ok (.getfield 19, 3) := by decide +kernel
theorem d_Model_purseOn_8 : decode c_Model_purseOn 8 = .ok (.invokestatic 148, 3) := by decide +kernel
theorem d_Model_purseOn_11 : decode c_Model_purseOn 11 = .ok (.aload_n 0, 1) := by decide +kernel
theorem d_Model_purseOn_12 : decode c_Model_purseOn 12 = .ok (.iload_n 2, 1) := by decide +kernel
theorem d_Model_purseOn_13 : decode c_Model_purseOn 13 = .ok (.invokevirtual 137, 3) := by decide +kernel
theorem d_Model_purseOn_16 : decode c_Model_purseOn 16 = .ok (.aload_n 0, 1) := by decide +kernel
theorem d_Model_purseOn_17 : decode c_Model_purseOn 17 = .ok (.getfield 7, 3) := by decide +kernel
theorem d_Model_purseOn_20 : decode c_Model_purseOn 20 = .ok (.bipush 19, 2) := by decide +kernel
theorem d_Model_purseOn_22 : decode c_Model_purseOn 22 = .ok (.iload_n 1, 1) := by decide +kernel
theorem d_Model_purseOn_23 : decode c_Model_purseOn 23 = .ok (.iadd, 1) := by decide +kernel
theorem d_Model_purseOn_24 : decode c_Model_purseOn 24 = .ok (.iaload, 1) := by decide +kernel
theorem d_Model_purseOn_25 : decode c_Model_purseOn 25 = .ok (.istore_n 3, 1) := by decide +kernel
theorem d_Model_purseOn_26 : decode c_Model_purseOn 26 = .ok (.aload_n 0, 1) := by decide +kernel
theorem d_Model_purseOn_27 : decode c_Model_purseOn 27 = .ok (.getfield 19, 3) := by decide +kernel
theorem d_Model_purseOn_30 : decode c_Model_purseOn 30 = .ok (.aload_n 0, 1) := by decide +kernel
theorem d_Model_purseOn_31 : decode c_Model_purseOn 31 = .ok (.getfield 7, 3) := by decide +kernel
theorem d_Model_purseOn_34 : decode c_Model_purseOn 34 = .ok (.invokestatic 148, 3) := by decide +kernel
theorem d_Model_purseOn_37 : decode c_Model_purseOn 37 = .ok (.iload_n 3, 1) := by decide +kernel
theorem d_Model_purseOn_38 : decode c_Model_purseOn 38 = .ok (.ireturn, 1) := by decide +kernel
theorem d_Model_on_0 : decode c_Model_on 0 = .ok (.iload_n 1, 1) := by decide +kernel
theorem d_Model_on_1 : decode c_Model_on 1 = .ok (.invokestatic 80, 3) := by decide +kernel
theorem d_Model_on_4 : decode c_Model_on 4 = .ok (.ifCond .eq 24, 3) := by decide +kernel
theorem d_Model_on_7 : decode c_Model_on 7 = .ok (.iload_n 2, 1) := by decide +kernel
theorem d_Model_on_8 : decode c_Model_on 8 = .ok (.i2l, 1) := by decide +kernel
theorem d_Model_on_9 : decode c_Model_on 9 = .ok (.lconst 0, 1) := by decide +kernel
theorem d_Model_on_10 : decode c_Model_on 10 = .ok (.ldc2_w 134, 3) := by decide +kernel
theorem d_Model_on_13 : decode c_Model_on 13 = .ok (.invokestatic 54, 3) := by decide +kernel
theorem d_Model_on_16 : decode c_Model_on 16 = .ok (.ifCond .eq 12, 3) := by decide +kernel
theorem d_Model_on_19 : decode c_Model_on 19 = .ok (.aload_n 0, 1) := by decide +kernel
theorem d_Model_on_20 : decode c_Model_on 20 = .ok (.iload_n 1, 1) := by decide +kernel
theorem d_Model_on_21 : decode c_Model_on 21 = .ok (.iload_n 2, 1) := by decide +kernel
theorem d_Model_on_22 : decode c_Model_on 22 = .ok (.invokevirtual 152, 3) := by decide +kernel
theorem d_Model_on_25 : decode c_Model_on 25 = .ok (.goto 9, 3) := by decide +kernel
theorem d_Model_on_28 : decode c_Model_on 28 = .ok (.aload_n 0, 1) := by decide +kernel
theorem d_Model_on_29 : decode c_Model_on 29 = .ok (.ldc 38, 2) := by decide +kernel
theorem d_Model_on_31 : decode c_Model_on 31 = .ok (.invokevirtual 44, 3) := by decide +kernel
theorem d_Model_on_34 : decode c_Model_on 34 = .ok (.ireturn, 1) := by decide +kernel
theorem d_Model_whenIt_0 : decode c_Model_whenIt 0 = .ok (.aload_n 0, 1) := by decide +kernel
theorem d_Model_whenIt_1 : decode c_Model_whenIt 1 = .ok (.getfield 7, 3) := by decide +kernel
theorem d_Model_whenIt_4 : decode c_Model_whenIt 4 = .ok (.aload_n 0, 1) := by decide +kernel
theorem d_Model_whenIt_5 : decode c_Model_whenIt 5 = .ok (.getfield 19, 3) := by decide +kernel
theorem d_Model_whenIt_8 : decode c_Model_whenIt 8 = .ok (.invokestatic 148, 3) := by decide +kernel
theorem d_Model_whenIt_11 : decode c_Model_whenIt 11 = .ok (.iconst 0, 1) := by decide +kernel
theorem d_Model_whenIt_12 : decode c_Model_whenIt 12 = .ok (.istore_n 3, 1) := by decide +kernel
theorem d_Model_whenIt_13 : decode c_Model_whenIt 13 = .ok (.iload_n 3, 1) := by decide +kernel
theorem d_Model_whenIt_14 : decode c_Model_whenIt 14 = .ok (.sipush 400, 3) := by decide +kernel
theorem d_Model_whenIt_17 : decode c_Model_whenIt 17 = .ok (.if_icmp .gt 22, 3) := by decide +kernel
theorem d_Model_whenIt_20 : decode c_Model_whenIt 20 = .ok (.aload_n 0, 1) := by decide +kernel
theorem d_Model_whenIt_21 : decode c_Model_whenIt 21 = .ok (.iload_n 1, 1) := by decide +kernel
theorem d_Model_whenIt_22 : decode c_Model_whenIt 22 = .ok (.iload_n 2, 1) := by decide +kernel
theorem d_Model_whenIt_23 : decode c_Model_whenIt 23 = .ok (.invokevirtual 61, 3) := by decide +kernel
theorem d_Model_whenIt_26 : decode c_Model_whenIt 26 = .ok (.ifCond .ne 13, 3) := by decide +kernel
theorem d_Model_whenIt_29 : decode c_Model_whenIt 29 = .ok (.aload_n 0, 1) := by decide +kernel
theorem d_Model_whenIt_30 : decode c_Model_whenIt 30 = .ok (.invokevirtual 131, 3) := by decide +kernel
theorem d_Model_whenIt_33 : decode c_Model_whenIt 33 = .ok (.iinc 3 1, 3) := by decide +kernel
theorem d_Model_whenIt_36 : decode c_Model_whenIt 36 = .ok (.goto (-23), 3) := by decide +kernel
theorem d_Model_whenIt_39 : decode c_Model_whenIt 39 = .ok (.aload_n 0, 1) := by decide +kernel
theorem d_Model_whenIt_40 : decode c_Model_whenIt 40 = .ok (.getfield 19, 3) := by decide +kernel
theorem d_Model_whenIt_43 : decode c_Model_whenIt 43 = .ok (.aload_n 0, 1) := by decide +kernel
theorem d_Model_whenIt_44 : decode c_Model_whenIt 44 = .ok (.getfield 7, 3) := by decide +kernel
theorem d_Model_whenIt_47 : decode c_Model_whenIt 47 = .ok (.invokestatic 148, 3) := by decide +kernel
theorem d_Model_whenIt_50 : decode c_Model_whenIt 50 = .ok (.iload_n 3, 1) := by decide +kernel
theorem d_Model_whenIt_51 : decode c_Model_whenIt 51 = .ok (.sipush 400, 3) := by decide +kernel
theorem d_Model_whenIt_54 : decode c_Model_whenIt 54 = .ok (.if_icmp .gt 7, 3) := by decide +kernel
theorem d_Model_whenIt_57 : decode c_Model_whenIt 57 = .ok (.iload_n 3, 1) := by decide +kernel
theorem d_Model_whenIt_58 : decode c_Model_whenIt 58 = .ok (.goto 4, 3) := by decide +kernel
theorem d_Model_whenIt_61 : decode c_Model_whenIt 61 = .ok (.iconst (-1), 1) := by decide +kernel
theorem d_Model_whenIt_62 : decode c_Model_whenIt 62 = .ok (.ireturn, 1) := by decide +kernel
theorem d_Model_taken_0 : decode c_Model_taken 0 = .ok (.aload_n 0, 1) := by decide +kernel
theorem d_Model_taken_1 : decode c_Model_taken 1 = .ok (.iload_n 1, 1) := by decide +kernel
theorem d_Model_taken_2 : decode c_Model_taken 2 = .ok (.invokevirtual 104, 3) := by decide +kernel
theorem d_Model_taken_5 : decode c_Model_taken 5 = .ok (.ifCond .ne 10, 3) := by decide +kernel
theorem d_Model_taken_8 : decode c_Model_taken 8 = .ok (.aload_n 0, 1) := by decide +kernel
theorem d_Model_taken_9 : decode c_Model_taken 9 = .ok (.ldc 38, 2) := by decide +kernel
theorem d_Model_taken_11 : decode c_Model_taken 11 = .ok (.invokevirtual 44, 3) := by decide +kernel
theorem d_Model_taken_14 : decode c_Model_taken 14 = .ok (.ireturn, 1) := by decide +kernel
theorem d_Model_taken_15 : decode c_Model_taken 15 = .ok (.aload_n 0, 1) := by decide +kernel
theorem d_Model_taken_16 : decode c_Model_taken 16 = .ok (.iload_n 1, 1) := by decide +kernel
theorem d_Model_taken_17 : decode c_Model_taken 17 = .ok (.iconst 1, 1) := by decide +kernel
theorem d_Model_taken_18 : decode c_Model_taken 18 = .ok (.invokevirtual 61, 3) := by decide +kernel
theorem d_Model_taken_21 : decode c_Model_taken 21 = .ok (.ifCond .eq 16, 3) := by decide +kernel
theorem d_Model_taken_24 : decode c_Model_taken 24 = .ok (.aload_n 0, 1) := by decide +kernel
theorem d_Model_taken_25 : decode c_Model_taken 25 = .ok (.aload_n 0, 1) := by decide +kernel
theorem d_Model_taken_26 : decode c_Model_taken 26 = .ok (.iload_n 1, 1) := by decide +kernel
theorem d_Model_taken_27 : decode c_Model_taken 27 = .ok (.iconst 2, 1) := by decide +kernel
theorem d_Model_taken_28 : decode c_Model_taken 28 = .ok (.invokevirtual 155, 3) := by decide +kernel
theorem d_Model_taken_31 : decode c_Model_taken 31 = .ok (.invokevirtual 158, 3) := by decide +kernel
theorem d_Model_taken_34 : decode c_Model_taken 34 = .ok (.goto 9, 3) := by decide +kernel
theorem d_Model_taken_37 : decode c_Model_taken 37 = .ok (.aload_n 0, 1) := by decide +kernel
theorem d_Model_taken_38 : decode c_Model_taken 38 = .ok (.ldc 118, 2) := by decide +kernel
theorem d_Model_taken_40 : decode c_Model_taken 40 = .ok (.invokevirtual 44, 3) := by decide +kernel
theorem d_Model_taken_43 : decode c_Model_taken 43 = .ok (.ireturn, 1) := by decide +kernel
theorem d_Model_home_0 : decode c_Model_home 0 = .ok (.aload_n 0, 1) := by decide +kernel
theorem d_Model_home_1 : decode c_Model_home 1 = .ok (.iload_n 1, 1) := by decide +kernel
theorem d_Model_home_2 : decode c_Model_home 2 = .ok (.invokevirtual 104, 3) := by decide +kernel
theorem d_Model_home_5 : decode c_Model_home 5 = .ok (.ifCond .ne 10, 3) := by decide +kernel
theorem d_Model_home_8 : decode c_Model_home 8 = .ok (.aload_n 0, 1) := by decide +kernel
theorem d_Model_home_9 : decode c_Model_home 9 = .ok (.ldc 38, 2) := by decide +kernel
theorem d_Model_home_11 : decode c_Model_home 11 = .ok (.invokevirtual 44, 3) := by decide +kernel
theorem d_Model_home_14 : decode c_Model_home 14 = .ok (.ireturn, 1) := by decide +kernel
theorem d_Model_home_15 : decode c_Model_home 15 = .ok (.aload_n 0, 1) := by decide +kernel
theorem d_Model_home_16 : decode c_Model_home 16 = .ok (.iload_n 1, 1) := by decide +kernel
theorem d_Model_home_17 : decode c_Model_home 17 = .ok (.iconst 0, 1) := by decide +kernel
theorem d_Model_home_18 : decode c_Model_home 18 = .ok (.invokevirtual 61, 3) := by decide +kernel
theorem d_Model_home_21 : decode c_Model_home 21 = .ok (.ifCond .eq 12, 3) := by decide +kernel
theorem d_Model_home_24 : decode c_Model_home 24 = .ok (.aload_n 0, 1) := by decide +kernel
theorem d_Model_home_25 : decode c_Model_home 25 = .ok (.ldc 118, 2) := by decide +kernel
theorem d_Model_home_27 : decode c_Model_home 27 = .ok (.invokevirtual 44, 3) := by decide +kernel
theorem d_Model_home_30 : decode c_Model_home 30 = .ok (.goto 13, 3) := by decide +kernel
theorem d_Model_home_33 : decode c_Model_home 33 = .ok (.aload_n 0, 1) := by decide +kernel
theorem d_Model_home_34 : decode c_Model_home 34 = .ok (.aload_n 0, 1) := by decide +kernel
theorem d_Model_home_35 : decode c_Model_home 35 = .ok (.iload_n 1, 1) := by decide +kernel
theorem d_Model_home_36 : decode c_Model_home 36 = .ok (.iconst 0, 1) := by decide +kernel
theorem d_Model_home_37 : decode c_Model_home 37 = .ok (.invokevirtual 155, 3) := by decide +kernel
theorem d_Model_home_40 : decode c_Model_home 40 = .ok (.invokevirtual 158, 3) := by decide +kernel
theorem d_Model_home_43 : decode c_Model_home 43 = .ok (.ireturn, 1) := by decide +kernel
theorem d_Model_due_0 : decode c_Model_due 0 = .ok (.aload_n 0, 1) := by decide +kernel
theorem d_Model_due_1 : decode c_Model_due 1 = .ok (.getfield 7, 3) := by decide +kernel
theorem d_Model_due_4 : decode c_Model_due 4 = .ok (.aload_n 0, 1) := by decide +kernel
theorem d_Model_due_5 : decode c_Model_due 5 = .ok (.getfield 19, 3) := by decide +kernel
theorem d_Model_due_8 : decode c_Model_due 8 = .ok (.invokestatic 148, 3) := by decide +kernel
theorem d_Model_due_11 : decode c_Model_due 11 = .ok (.aload_n 0, 1) := by decide +kernel
theorem d_Model_due_12 : decode c_Model_due 12 = .ok (.getfield 7, 3) := by decide +kernel
theorem d_Model_due_15 : decode c_Model_due 15 = .ok (.iconst 1, 1) := by decide +kernel
theorem d_Model_due_16 : decode c_Model_due 16 = .ok (.iaload, 1) := by decide +kernel
theorem d_Model_due_17 : decode c_Model_due 17 = .ok (.invokestatic 77, 3) := by decide +kernel
theorem d_Model_due_20 : decode c_Model_due 20 = .ok (.ifCond .ne 10, 3) := by decide +kernel
theorem d_Model_due_23 : decode c_Model_due 23 = .ok (.aload_n 0, 1) := by decide +kernel
theorem d_Model_due_24 : decode c_Model_due 24 = .ok (.invokevirtual 131, 3) := by decide +kernel
theorem d_Model_due_27 : decode c_Model_due 27 = .ok (.goto (-16), 3) := by decide +kernel
theorem d_Model_due_30 : decode c_Model_due 30 = .ok (.aload_n 0, 1) := by decide +kernel
theorem d_Model_due_31 : decode c_Model_due 31 = .ok (.iconst 2, 1) := by decide +kernel
theorem d_Model_due_32 : decode c_Model_due 32 = .ok (.invokevirtual 145, 3) := by decide +kernel
theorem d_Model_due_35 : decode c_Model_due 35 = .ok (.istore_n 1, 1) := by decide +kernel
theorem d_Model_due_36 : decode c_Model_due 36 = .ok (.aload_n 0, 1) := by decide +kernel
theorem d_Model_due_37 : decode c_Model_due 37 = .ok (.invokevirtual 131, 3) := by decide +kernel
theorem d_Model_due_40 : decode c_Model_due 40 = .ok (.aload_n 0, 1) := by decide +kernel
theorem d_Model_due_41 : decode c_Model_due 41 = .ok (.iconst 0, 1) := by decide +kernel
theorem d_Model_due_42 : decode c_Model_due 42 = .ok (.invokevirtual 145, 3) := by decide +kernel
theorem d_Model_due_45 : decode c_Model_due 45 = .ok (.istore_n 2, 1) := by decide +kernel
theorem d_Model_due_46 : decode c_Model_due 46 = .ok (.aload_n 0, 1) := by decide +kernel
theorem d_Model_due_47 : decode c_Model_due 47 = .ok (.getfield 19, 3) := by decide +kernel
theorem d_Model_due_50 : decode c_Model_due 50 = .ok (.aload_n 0, 1) := by decide +kernel
theorem d_Model_due_51 : decode c_Model_due 51 = .ok (.getfield 7, 3) := by decide +kernel
theorem d_Model_due_54 : decode c_Model_due 54 = .ok (.invokestatic 148, 3) := by decide +kernel
theorem d_Model_due_57 : decode c_Model_due 57 = .ok (.iload_n 1, 1) := by decide +kernel
theorem d_Model_due_58 : decode c_Model_due 58 = .ok (.iload_n 2, 1) := by decide +kernel
theorem d_Model_due_59 : decode c_Model_due 59 = .ok (.iand, 1) := by decide +kernel
theorem d_Model_due_60 : decode c_Model_due 60 = .ok (.ireturn, 1) := by decide +kernel
theorem d_Model_pursesOn_0 : decode c_Model_pursesOn 0 = .ok (.aload_n 0, 1) := by decide +kernel
theorem d_Model_pursesOn_1 : decode c_Model_pursesOn 1 = .ok (.getfield 7, 3) := by decide +kernel
theorem d_Model_pursesOn_4 : decode c_Model_pursesOn 4 = .ok (.aload_n 0, 1) := by decide +kernel
theorem d_Model_pursesOn_5 : decode c_Model_pursesOn 5 = .ok (.getfield 19, 3) := by decide +kernel
theorem d_Model_pursesOn_8 : decode c_Model_pursesOn 8 = .ok (.invokestatic 148, 3) := by decide +kernel
theorem d_Model_pursesOn_11 : decode c_Model_pursesOn 11 = .ok (.aload_n 0, 1) := by decide +kernel
theorem d_Model_pursesOn_12 : decode c_Model_pursesOn 12 = .ok (.iload_n 1, 1) := by decide +kernel
theorem d_Model_pursesOn_13 : decode c_Model_pursesOn 13 = .ok (.invokevirtual 137, 3) := by decide +kernel
theorem d_Model_pursesOn_16 : decode c_Model_pursesOn 16 = .ok (.aload_n 0, 1) := by decide +kernel
theorem d_Model_pursesOn_17 : decode c_Model_pursesOn 17 = .ok (.invokevirtual 141, 3) := by decide +kernel
theorem d_Model_pursesOn_20 : decode c_Model_pursesOn 20 = .ok (.lstore_n 2, 1) := by decide +kernel
theorem d_Model_pursesOn_21 : decode c_Model_pursesOn 21 = .ok (.aload_n 0, 1) := by decide +kernel
theorem d_Model_pursesOn_22 : decode c_Model_pursesOn 22 = .ok (.getfield 19, 3) := by decide +kernel
theorem d_Model_pursesOn_25 : decode c_Model_pursesOn 25 = .ok (.aload_n 0, 1) := by decide +kernel
theorem d_Model_pursesOn_26 : decode c_Model_pursesOn 26 = .ok (.getfield 7, 3) := by decide +kernel
theorem d_Model_pursesOn_29 : decode c_Model_pursesOn 29 = .ok (.invokestatic 148, 3) := by decide +kernel
theorem d_Model_pursesOn_32 : decode c_Model_pursesOn 32 = .ok (.lload_n 2, 1) := by decide +kernel
theorem d_Model_pursesOn_33 : decode c_Model_pursesOn 33 = .ok (.lreturn, 1) := by decide +kernel
theorem d_Model_spot_0 : decode c_Model_spot 0 = .ok (.aload_n 0, 1) := by decide +kernel
theorem d_Model_spot_1 : decode c_Model_spot 1 = .ok (.iload_n 1, 1) := by decide +kernel
theorem d_Model_spot_2 : decode c_Model_spot 2 = .ok (.invokevirtual 104, 3) := by decide +kernel
theorem d_Model_spot_5 : decode c_Model_spot 5 = .ok (.ifCond .eq 15, 3) := by decide +kernel
theorem d_Model_spot_8 : decode c_Model_spot 8 = .ok (.iload_n 2, 1) := by decide +kernel
theorem d_Model_spot_9 : decode c_Model_spot 9 = .ok (.i2l, 1) := by decide +kernel
theorem d_Model_spot_10 : decode c_Model_spot 10 = .ok (.lconst 1, 1) := by decide +kernel
theorem d_Model_spot_11 : decode c_Model_spot 11 = .ok (.ldc2_w 95, 3) := by decide +kernel
theorem d_Model_spot_14 : decode c_Model_spot 14 = .ok (.invokestatic 54, 3) := by decide +kernel
theorem d_Model_spot_17 : decode c_Model_spot 17 = .ok (.ifCond .ne 10, 3) := by decide +kernel
theorem d_Model_spot_20 : decode c_Model_spot 20 = .ok (.aload_n 0, 1) := by decide +kernel
theorem d_Model_spot_21 : decode c_Model_spot 21 = .ok (.ldc 38, 2) := by decide +kernel
theorem d_Model_spot_23 : decode c_Model_spot 23 = .ok (.invokevirtual 44, 3) := by decide +kernel
theorem d_Model_spot_26 : decode c_Model_spot 26 = .ok (.ireturn, 1) := by decide +kernel
theorem d_Model_spot_27 : decode c_Model_spot 27 = .ok (.aload_n 0, 1) := by decide +kernel
theorem d_Model_spot_28 : decode c_Model_spot 28 = .ok (.iload_n 1, 1) := by decide +kernel
theorem d_Model_spot_29 : decode c_Model_spot 29 = .ok (.iconst 2, 1) := by decide +kernel
theorem d_Model_spot_30 : decode c_Model_spot 30 = .ok (.invokevirtual 61, 3) := by decide +kernel
theorem d_Model_spot_33 : decode c_Model_spot 33 = .ok (.ifCond .eq 10, 3) := by decide +kernel
theorem d_Model_spot_36 : decode c_Model_spot 36 = .ok (.aload_n 0, 1) := by decide +kernel
theorem d_Model_spot_37 : decode c_Model_spot 37 = .ok (.ldc 118, 2) := by decide +kernel
theorem d_Model_spot_39 : decode c_Model_spot 39 = .ok (.invokevirtual 44, 3) := by decide +kernel
theorem d_Model_spot_42 : decode c_Model_spot 42 = .ok (.ireturn, 1) := by decide +kernel
theorem d_Model_spot_43 : decode c_Model_spot 43 = .ok (.aload_n 0, 1) := by decide +kernel
theorem d_Model_spot_44 : decode c_Model_spot 44 = .ok (.iload_n 1, 1) := by decide +kernel
theorem d_Model_spot_45 : decode c_Model_spot 45 = .ok (.iconst 2, 1) := by decide +kernel
theorem d_Model_spot_46 : decode c_Model_spot 46 = .ok (.invokevirtual 39, 3) := by decide +kernel
theorem d_Model_spot_49 : decode c_Model_spot 49 = .ok (.istore_n 3, 1) := by decide +kernel
theorem d_Model_spot_50 : decode c_Model_spot 50 = .ok (.aload_n 0, 1) := by decide +kernel
theorem d_Model_spot_51 : decode c_Model_spot 51 = .ok (.iload_n 1, 1) := by decide +kernel
theorem d_Model_spot_52 : decode c_Model_spot 52 = .ok (.iconst 4, 1) := by decide +kernel
theorem d_Model_spot_53 : decode c_Model_spot 53 = .ok (.invokevirtual 39, 3) := by decide +kernel
theorem d_Model_spot_56 : decode c_Model_spot 56 = .ok (.istore 4, 2) := by decide +kernel
theorem d_Model_spot_58 : decode c_Model_spot 58 = .ok (.iconst 0, 1) := by decide +kernel
theorem d_Model_spot_59 : decode c_Model_spot 59 = .ok (.istore 5, 2) := by decide +kernel
theorem d_Model_spot_61 : decode c_Model_spot 61 = .ok (.ldc2_w 161, 3) := by decide +kernel
theorem d_Model_spot_64 : decode c_Model_spot 64 = .ok (.lstore 6, 2) := by decide +kernel
theorem d_Model_spot_66 : decode c_Model_spot 66 = .ok (.iconst 0, 1) := by decide +kernel
theorem d_Model_spot_67 : decode c_Model_spot 67 = .ok (.istore 8, 2) := by decide +kernel
theorem d_Model_spot_69 : decode c_Model_spot 69 = .ok (.iload 8, 2) := by decide +kernel
theorem d_Model_spot_71 : decode c_Model_spot 71 = .ok (.bipush 16, 2) := by decide +kernel
theorem d_Model_spot_73 : decode c_Model_spot 73 = .ok (.if_icmp .ge 57, 3) := by decide +kernel
theorem d_Model_spot_76 : decode c_Model_spot 76 = .ok (.aload_n 0, 1) := by decide +kernel
theorem d_Model_spot_77 : decode c_Model_spot 77 = .ok (.iload_n 1, 1) := by decide +kernel
theorem d_Model_spot_78 : decode c_Model_spot 78 = .ok (.iload 8, 2) := by decide +kernel
theorem d_Model_spot_80 : decode c_Model_spot 80 = .ok (.invokevirtual 119, 3) := by decide +kernel
theorem d_Model_spot_83 : decode c_Model_spot 83 = .ok (.aload_n 0, 1) := by decide +kernel
theorem d_Model_spot_84 : decode c_Model_spot 84 = .ok (.iload_n 2, 1) := by decide +kernel
theorem d_Model_spot_85 : decode c_Model_spot 85 = .ok (.invokevirtual 163, 3) := by decide +kernel
theorem d_Model_spot_88 : decode c_Model_spot 88 = .ok (.lstore 9, 2) := by decide +kernel
theorem d_Model_spot_90 : decode c_Model_spot 90 = .ok (.lload 9, 2) := by decide +kernel
theorem d_Model_spot_92 : decode c_Model_spot 92 = .ok (.lload 6, 2) := by decide +kernel
theorem d_Model_spot_94 : decode c_Model_spot 94 = .ok (.lcmp, 1) := by decide +kernel
theorem d_Model_spot_95 : decode c_Model_spot 95 = .ok (.ifCond .le 8, 3) := by decide +kernel
theorem d_Model_spot_98 : decode c_Model_spot 98 = .ok (.iload 8, 2) := by decide +kernel
theorem d_Model_spot_100 : decode c_Model_spot 100 = .ok (.goto 5, 3) := by decide +kernel
theorem d_Model_spot_103 : decode c_Model_spot 103 = .ok (.iload 5, 2) := by decide +kernel
theorem d_Model_spot_105 : decode c_Model_spot 105 = .ok (.istore 5, 2) := by decide +kernel
theorem d_Model_spot_107 : decode c_Model_spot 107 = .ok (.lload 9, 2) := by decide +kernel
theorem d_Model_spot_109 : decode c_Model_spot 109 = .ok (.lload 6, 2) := by decide +kernel
theorem d_Model_spot_111 : decode c_Model_spot 111 = .ok (.lcmp, 1) := by decide +kernel
theorem d_Model_spot_112 : decode c_Model_spot 112 = .ok (.ifCond .le 8, 3) := by decide +kernel
theorem d_Model_spot_115 : decode c_Model_spot 115 = .ok (.lload 9, 2) := by decide +kernel
theorem d_Model_spot_117 : decode c_Model_spot 117 = .ok (.goto 5, 3) := by decide +kernel
theorem d_Model_spot_120 : decode c_Model_spot 120 = .ok (.lload 6, 2) := by decide +kernel
theorem d_Model_spot_122 : decode c_Model_spot 122 = .ok (.lstore 6, 2) := by decide +kernel
theorem d_Model_spot_124 : decode c_Model_spot 124 = .ok (.iinc 8 1, 3) := by decide +kernel
theorem d_Model_spot_127 : decode c_Model_spot 127 = .ok (.goto (-58), 3) := by decide +kernel
theorem d_Model_spot_130 : decode c_Model_spot 130 = .ok (.aload_n 0, 1) := by decide +kernel
theorem d_Model_spot_131 : decode c_Model_spot 131 = .ok (.getfield 7, 3) := by decide +kernel
theorem d_Model_spot_134 : decode c_Model_spot 134 = .ok (.iload_n 1, 1) := by decide +kernel
theorem d_Model_spot_135 : decode c_Model_spot 135 = .ok (.iconst 2, 1) := by decide +kernel
theorem d_Model_spot_136 : decode c_Model_spot 136 = .ok (.invokestatic 85, 3) := by decide +kernel
theorem d_Model_spot_139 : decode c_Model_spot 139 = .ok (.iload_n 3, 1) := by decide +kernel
theorem d_Model_spot_140 : decode c_Model_spot 140 = .ok (.iastore, 1) := by decide +kernel
theorem d_Model_spot_141 : decode c_Model_spot 141 = .ok (.aload_n 0, 1) := by decide +kernel
theorem d_Model_spot_142 : decode c_Model_spot 142 = .ok (.getfield 7, 3) := by decide +kernel
theorem d_Model_spot_145 : decode c_Model_spot 145 = .ok (.iload_n 1, 1) := by decide +kernel
theorem d_Model_spot_146 : decode c_Model_spot 146 = .ok (.iconst 4, 1) := by decide +kernel
theorem d_Model_spot_147 : decode c_Model_spot 147 = .ok (.invokestatic 85, 3) := by decide +kernel
theorem d_Model_spot_150 : decode c_Model_spot 150 = .ok (.iload 4, 2) := by decide +kernel
theorem d_Model_spot_152 : decode c_Model_spot 152 = .ok (.iastore, 1) := by decide +kernel
theorem d_Model_spot_153 : decode c_Model_spot 153 = .ok (.iload 5, 2) := by decide +kernel
theorem d_Model_spot_155 : decode c_Model_spot 155 = .ok (.ireturn, 1) := by decide +kernel
theorem d_Model_delay_0 : decode c_Model_delay 0 = .ok (.aload_n 0, 1) := by decide +kernel
theorem d_Model_delay_1 : decode c_Model_delay 1 = .ok (.iload_n 1, 1) := by decide +kernel
theorem d_Model_delay_2 : decode c_Model_delay 2 = .ok (.invokevirtual 104, 3) := by decide +kernel
theorem d_Model_delay_5 : decode c_Model_delay 5 = .ok (.ifCond .eq 22, 3) := by decide +kernel
theorem d_Model_delay_8 : decode c_Model_delay 8 = .ok (.iload_n 2, 1) := by decide +kernel
theorem d_Model_delay_9 : decode c_Model_delay 9 = .ok (.invokestatic 48, 3) := by decide +kernel
theorem d_Model_delay_12 : decode c_Model_delay 12 = .ok (.ifCond .eq 15, 3) := by decide +kernel
theorem d_Model_delay_15 : decode c_Model_delay 15 = .ok (.iload_n 3, 1) := by decide +kernel
theorem d_Model_delay_16 : decode c_Model_delay 16 = .ok (.i2l, 1) := by decide +kernel
theorem d_Model_delay_17 : decode c_Model_delay 17 = .ok (.lconst 1, 1) := by decide +kernel
theorem d_Model_delay_18 : decode c_Model_delay 18 = .ok (.ldc2_w 167, 3) := by decide +kernel
theorem d_Model_delay_21 : decode c_Model_delay 21 = .ok (.invokestatic 54, 3) := by decide +kernel
theorem d_Model_delay_24 : decode c_Model_delay 24 = .ok (.ifCond .ne 10, 3) := by decide +kernel
theorem d_Model_delay_27 : decode c_Model_delay 27 = .ok (.aload_n 0, 1) := by decide +kernel
theorem d_Model_delay_28 : decode c_Model_delay 28 = .ok (.ldc 38, 2) := by decide +kernel
theorem d_Model_delay_30 : decode c_Model_delay 30 = .ok (.invokevirtual 44, 3) := by decide +kernel
theorem d_Model_delay_33 : decode c_Model_delay 33 = .ok (.ireturn, 1) := by decide +kernel
theorem d_Model_delay_34 : decode c_Model_delay 34 = .ok (.aload_n 0, 1) := by decide +kernel
theorem d_Model_delay_35 : decode c_Model_delay 35 = .ok (.iload_n 1, 1) := by decide +kernel
theorem d_Model_delay_36 : decode c_Model_delay 36 = .ok (.iconst 2, 1) := by decide +kernel
theorem d_Model_delay_37 : decode c_Model_delay 37 = .ok (.invokevirtual 61, 3) := by decide +kernel
theorem d_Model_delay_40 : decode c_Model_delay 40 = .ok (.ifCond .eq 10, 3) := by decide +kernel
theorem d_Model_delay_43 : decode c_Model_delay 43 = .ok (.aload_n 0, 1) := by decide +kernel
theorem d_Model_delay_44 : decode c_Model_delay 44 = .ok (.ldc 118, 2) := by decide +kernel
theorem d_Model_delay_46 : decode c_Model_delay 46 = .ok (.invokevirtual 44, 3) := by decide +kernel
theorem d_Model_delay_49 : decode c_Model_delay 49 = .ok (.ireturn, 1) := by decide +kernel
theorem d_Model_delay_50 : decode c_Model_delay 50 = .ok (.iconst 0, 1) := by decide +kernel
theorem d_Model_delay_51 : decode c_Model_delay 51 = .ok (.istore 4, 2) := by decide +kernel
theorem d_Model_delay_53 : decode c_Model_delay 53 = .ok (.ldc2_w 161, 3) := by decide +kernel
theorem d_Model_delay_56 : decode c_Model_delay 56 = .ok (.lstore 5, 2) := by decide +kernel
theorem d_Model_delay_58 : decode c_Model_delay 58 = .ok (.iconst 0, 1) := by decide +kernel
theorem d_Model_delay_59 : decode c_Model_delay 59 = .ok (.istore 7, 2) := by decide +kernel
theorem d_Model_delay_61 : decode c_Model_delay 61 = .ok (.iload 7, 2) := by decide +kernel
theorem d_Model_delay_63 : decode c_Model_delay 63 = .ok (.iload_n 3, 1) := by decide +kernel
theorem d_Model_delay_64 : decode c_Model_delay 64 = .ok (.if_icmp .ge 102, 3) := by decide +kernel
theorem d_Model_delay_67 : decode c_Model_delay 67 = .ok (.aload_n 0, 1) := by decide +kernel
theorem d_Model_delay_68 : decode c_Model_delay 68 = .ok (.getfield 7, 3) := by decide +kernel
theorem d_Model_delay_71 : decode c_Model_delay 71 = .ok (.aload_n 0, 1) := by decide +kernel
theorem d_Model_delay_72 : decode c_Model_delay 72 = .ok (.getfield 19, 3) := by decide +kernel
theorem d_Model_delay_75 : decode c_Model_delay 75 = .ok (.invokestatic 148, 3) := by decide +kernel
theorem d_Model_delay_78 : decode c_Model_delay 78 = .ok (.aload_n 0, 1) := by decide +kernel
theorem d_Model_delay_79 : decode c_Model_delay 79 = .ok (.getfield 7, 3) := by decide +kernel
theorem d_Model_delay_82 : decode c_Model_delay 82 = .ok (.iload_n 1, 1) := by decide +kernel
theorem d_Model_delay_83 : decode c_Model_delay 83 = .ok (.iconst 4, 1) := by decide +kernel
theorem d_Model_delay_84 : decode c_Model_delay 84 = .ok (.invokestatic 85, 3) := by decide +kernel
theorem d_Model_delay_87 : decode c_Model_delay 87 = .ok (.iconst 0, 1) := by decide +kernel
theorem d_Model_delay_88 : decode c_Model_delay 88 = .ok (.iastore, 1) := by decide +kernel
theorem d_Model_delay_89 : decode c_Model_delay 89 = .ok (.aload_n 0, 1) := by decide +kernel
theorem d_Model_delay_90 : decode c_Model_delay 90 = .ok (.iload 7, 2) := by decide +kernel
theorem d_Model_delay_92 : decode c_Model_delay 92 = .ok (.invokevirtual 137, 3) := by decide +kernel
theorem d_Model_delay_95 : decode c_Model_delay 95 = .ok (.aload_n 0, 1) := by decide +kernel
theorem d_Model_delay_96 : decode c_Model_delay 96 = .ok (.iload_n 1, 1) := by decide +kernel
theorem d_Model_delay_97 : decode c_Model_delay 97 = .ok (.iload_n 2, 1) := by decide +kernel
theorem d_Model_delay_98 : decode c_Model_delay 98 = .ok (.invokevirtual 119, 3) := by decide +kernel
theorem d_Model_delay_101 : decode c_Model_delay 101 = .ok (.aload_n 0, 1) := by decide +kernel
theorem d_Model_delay_102 : decode c_Model_delay 102 = .ok (.iload_n 3, 1) := by decide +kernel
theorem d_Model_delay_103 : decode c_Model_delay 103 = .ok (.iload 7, 2) := by decide +kernel
theorem d_Model_delay_105 : decode c_Model_delay 105 = .ok (.isub, 1) := by decide +kernel
theorem d_Model_delay_106 : decode c_Model_delay 106 = .ok (.invokevirtual 137, 3) := by decide +kernel
theorem d_Model_delay_109 : decode c_Model_delay 109 = .ok (.aload_n 0, 1) := by decide +kernel
theorem d_Model_delay_110 : decode c_Model_delay 110 = .ok (.invokevirtual 141, 3) := by decide +kernel
theorem d_Model_delay_113 : decode c_Model_delay 113 = .ok (.lstore 8, 2) := by decide +kernel
theorem d_Model_delay_115 : decode c_Model_delay 115 = .ok (.aload_n 0, 1) := by decide +kernel
theorem d_Model_delay_116 : decode c_Model_delay 116 = .ok (.getfield 19, 3) := by decide +kernel
theorem d_Model_delay_119 : decode c_Model_delay 119 = .ok (.aload_n 0, 1) := by decide +kernel
theorem d_Model_delay_120 : decode c_Model_delay 120 = .ok (.getfield 7, 3) := by decide +kernel
theorem d_Model_delay_123 : decode c_Model_delay 123 = .ok (.invokestatic 148, 3) := by decide +kernel
theorem d_Model_delay_126 : decode c_Model_delay 126 = .ok (.lload 8, 2) := by decide +kernel
theorem d_Model_delay_128 : decode c_Model_delay 128 = .ok (.lload 5, 2) := by decide +kernel
theorem d_Model_delay_130 : decode c_Model_delay 130 = .ok (.lcmp, 1) := by decide +kernel
theorem d_Model_delay_131 : decode c_Model_delay 131 = .ok (.ifCond .le 8, 3) := by decide +kernel
theorem d_Model_delay_134 : decode c_Model_delay 134 = .ok (.iload 7, 2) := by decide +kernel
theorem d_Model_delay_136 : decode c_Model_delay 136 = .ok (.goto 5, 3) := by decide +kernel
theorem d_Model_delay_139 : decode c_Model_delay 139 = .ok (.iload 4, 2) := by decide +kernel
theorem d_Model_delay_141 : decode c_Model_delay 141 = .ok (.istore 4, 2) := by decide +kernel
theorem d_Model_delay_143 : decode c_Model_delay 143 = .ok (.lload 8, 2) := by decide +kernel
theorem d_Model_delay_145 : decode c_Model_delay 145 = .ok (.lload 5, 2) := by decide +kernel
theorem d_Model_delay_147 : decode c_Model_delay 147 = .ok (.lcmp, 1) := by decide +kernel
theorem d_Model_delay_148 : decode c_Model_delay 148 = .ok (.ifCond .le 8, 3) := by decide +kernel
theorem d_Model_delay_151 : decode c_Model_delay 151 = .ok (.lload 8, 2) := by decide +kernel
theorem d_Model_delay_153 : decode c_Model_delay 153 = .ok (.goto 5, 3) := by decide +kernel
theorem d_Model_delay_156 : decode c_Model_delay 156 = .ok (.lload 5, 2) := by decide +kernel
theorem d_Model_delay_158 : decode c_Model_delay 158 = .ok (.lstore 5, 2) := by decide +kernel
theorem d_Model_delay_160 : decode c_Model_delay 160 = .ok (.iinc 7 1, 3) := by decide +kernel
theorem d_Model_delay_163 : decode c_Model_delay 163 = .ok (.goto (-102), 3) := by decide +kernel
theorem d_Model_delay_166 : decode c_Model_delay 166 = .ok (.iload 4, 2) := by decide +kernel
theorem d_Model_delay_168 : decode c_Model_delay 168 = .ok (.ireturn, 1) := by decide +kernel
theorem d_Model_kind_0 : decode c_Model_kind 0 = .ok (.aload_n 0, 1) := by decide +kernel
theorem d_Model_kind_1 : decode c_Model_kind 1 = .ok (.iload_n 1, 1) := by decide +kernel
theorem d_Model_kind_2 : decode c_Model_kind 2 = .ok (.invokevirtual 104, 3) := by decide +kernel
theorem d_Model_kind_5 : decode c_Model_kind 5 = .ok (.ifCond .eq 15, 3) := by decide +kernel
theorem d_Model_kind_8 : decode c_Model_kind 8 = .ok (.iload_n 2, 1) := by decide +kernel
theorem d_Model_kind_9 : decode c_Model_kind 9 = .ok (.i2l, 1) := by decide +kernel
theorem d_Model_kind_10 : decode c_Model_kind 10 = .ok (.lconst 1, 1) := by decide +kernel
theorem d_Model_kind_11 : decode c_Model_kind 11 = .ok (.ldc2_w 95, 3) := by decide +kernel
theorem d_Model_kind_14 : decode c_Model_kind 14 = .ok (.invokestatic 54, 3) := by decide +kernel
theorem d_Model_kind_17 : decode c_Model_kind 17 = .ok (.ifCond .ne 10, 3) := by decide +kernel
theorem d_Model_kind_20 : decode c_Model_kind 20 = .ok (.aload_n 0, 1) := by decide +kernel
theorem d_Model_kind_21 : decode c_Model_kind 21 = .ok (.ldc 38, 2) := by decide +kernel
theorem d_Model_kind_23 : decode c_Model_kind 23 = .ok (.invokevirtual 44, 3) := by decide +kernel
theorem d_Model_kind_26 : decode c_Model_kind 26 = .ok (.ireturn, 1) := by decide +kernel
theorem d_Model_kind_27 : decode c_Model_kind 27 = .ok (.aload_n 0, 1) := by decide +kernel
theorem d_Model_kind_28 : decode c_Model_kind 28 = .ok (.iload_n 1, 1) := by decide +kernel
theorem d_Model_kind_29 : decode c_Model_kind 29 = .ok (.iconst 0, 1) := by decide +kernel
theorem d_Model_kind_30 : decode c_Model_kind 30 = .ok (.invokevirtual 39, 3) := by decide +kernel
theorem d_Model_kind_33 : decode c_Model_kind 33 = .ok (.istore_n 3, 1) := by decide +kernel
theorem d_Model_kind_34 : decode c_Model_kind 34 = .ok (.iconst 0, 1) := by decide +kernel
theorem d_Model_kind_35 : decode c_Model_kind 35 = .ok (.istore 4, 2) := by decide +kernel
theorem d_Model_kind_37 : decode c_Model_kind 37 = .ok (.ldc2_w 161, 3) := by decide +kernel
theorem d_Model_kind_40 : decode c_Model_kind 40 = .ok (.lstore 5, 2) := by decide +kernel
theorem d_Model_kind_42 : decode c_Model_kind 42 = .ok (.iconst 0, 1) := by decide +kernel
theorem d_Model_kind_43 : decode c_Model_kind 43 = .ok (.istore 7, 2) := by decide +kernel
theorem d_Model_kind_45 : decode c_Model_kind 45 = .ok (.iload 7, 2) := by decide +kernel
theorem d_Model_kind_47 : decode c_Model_kind 47 = .ok (.iconst 5, 1) := by decide +kernel
theorem d_Model_kind_48 : decode c_Model_kind 48 = .ok (.if_icmp .gt 62, 3) := by decide +kernel
theorem d_Model_kind_51 : decode c_Model_kind 51 = .ok (.aload_n 0, 1) := by decide +kernel
theorem d_Model_kind_52 : decode c_Model_kind 52 = .ok (.getfield 7, 3) := by decide +kernel
theorem d_Model_kind_55 : decode c_Model_kind 55 = .ok (.iload_n 1, 1) := by decide +kernel
theorem d_Model_kind_56 : decode c_Model_kind 56 = .ok (.iconst 0, 1) := by decide +kernel
theorem d_Model_kind_57 : decode c_Model_kind 57 = .ok (.invokestatic 85, 3) := by decide +kernel
theorem d_Model_kind_60 : decode c_Model_kind 60 = .ok (.iload 7, 2) := by decide +kernel
theorem d_Model_kind_62 : decode c_Model_kind 62 = .ok (.iastore, 1) := by decide +kernel
theorem d_Model_kind_63 : decode c_Model_kind 63 = .ok (.aload_n 0, 1) := by decide +kernel
theorem d_Model_kind_64 : decode c_Model_kind 64 = .ok (.iload_n 2, 1) := by decide +kernel
theorem d_Model_kind_65 : decode c_Model_kind 65 = .ok (.invokevirtual 163, 3) := by decide +kernel
theorem d_Model_kind_68 : decode c_Model_kind 68 = .ok (.lstore 8, 2) := by decide +kernel
theorem d_Model_kind_70 : decode c_Model_kind 70 = .ok (.lload 8, 2) := by decide +kernel
theorem d_Model_kind_72 : decode c_Model_kind 72 = .ok (.lload 5, 2) := by decide +kernel
theorem d_Model_kind_74 : decode c_Model_kind 74 = .ok (.lcmp, 1) := by decide +kernel
theorem d_Model_kind_75 : decode c_Model_kind 75 = .ok (.ifCond .le 8, 3) := by decide +kernel
theorem d_Model_kind_78 : decode c_Model_kind 78 = .ok (.iload 7, 2) := by decide +kernel
theorem d_Model_kind_80 : decode c_Model_kind 80 = .ok (.goto 5, 3) := by decide +kernel
theorem d_Model_kind_83 : decode c_Model_kind 83 = .ok (.iload 4, 2) := by decide +kernel
theorem d_Model_kind_85 : decode c_Model_kind 85 = .ok (.istore 4, 2) := by decide +kernel
theorem d_Model_kind_87 : decode c_Model_kind 87 = .ok (.lload 8, 2) := by decide +kernel
theorem d_Model_kind_89 : decode c_Model_kind 89 = .ok (.lload 5, 2) := by decide +kernel
theorem d_Model_kind_91 : decode c_Model_kind 91 = .ok (.lcmp, 1) := by decide +kernel
theorem d_Model_kind_92 : decode c_Model_kind 92 = .ok (.ifCond .le 8, 3) := by decide +kernel
theorem d_Model_kind_95 : decode c_Model_kind 95 = .ok (.lload 8, 2) := by decide +kernel
theorem d_Model_kind_97 : decode c_Model_kind 97 = .ok (.goto 5, 3) := by decide +kernel
theorem d_Model_kind_100 : decode c_Model_kind 100 = .ok (.lload 5, 2) := by decide +kernel
theorem d_Model_kind_102 : decode c_Model_kind 102 = .ok (.lstore 5, 2) := by decide +kernel
theorem d_Model_kind_104 : decode c_Model_kind 104 = .ok (.iinc 7 1, 3) := by decide +kernel
theorem d_Model_kind_107 : decode c_Model_kind 107 = .ok (.goto (-62), 3) := by decide +kernel
theorem d_Model_kind_110 : decode c_Model_kind 110 = .ok (.aload_n 0, 1) := by decide +kernel
theorem d_Model_kind_111 : decode c_Model_kind 111 = .ok (.getfield 7, 3) := by decide +kernel
theorem d_Model_kind_114 : decode c_Model_kind 114 = .ok (.iload_n 1, 1) := by decide +kernel
theorem d_Model_kind_115 : decode c_Model_kind 115 = .ok (.iconst 0, 1) := by decide +kernel
theorem d_Model_kind_116 : decode c_Model_kind 116 = .ok (.invokestatic 85, 3) := by decide +kernel
theorem d_Model_kind_119 : decode c_Model_kind 119 = .ok (.iload_n 3, 1) := by decide +kernel
theorem d_Model_kind_120 : decode c_Model_kind 120 = .ok (.iastore, 1) := by decide +kernel
theorem d_Model_kind_121 : decode c_Model_kind 121 = .ok (.iload 4, 2) := by decide +kernel
theorem d_Model_kind_123 : decode c_Model_kind 123 = .ok (.ireturn, 1) := by decide +kernel
theorem d_Model_worth_0 : decode c_Model_worth 0 = .ok (.aload_n 0, 1) := by decide +kernel
theorem d_Model_worth_1 : decode c_Model_worth 1 = .ok (.iload_n 1, 1) := by decide +kernel
theorem d_Model_worth_2 : decode c_Model_worth 2 = .ok (.invokevirtual 104, 3) := by decide +kernel
theorem d_Model_worth_5 : decode c_Model_worth 5 = .ok (.ifCond .eq 27, 3) := by decide +kernel
theorem d_Model_worth_8 : decode c_Model_worth 8 = .ok (.iload_n 2, 1) := by decide +kernel
theorem d_Model_worth_9 : decode c_Model_worth 9 = .ok (.i2l, 1) := by decide +kernel
theorem d_Model_worth_10 : decode c_Model_worth 10 = .ok (.lconst 1, 1) := by decide +kernel
theorem d_Model_worth_11 : decode c_Model_worth 11 = .ok (.ldc2_w 169, 3) := by decide +kernel
theorem d_Model_worth_14 : decode c_Model_worth 14 = .ok (.invokestatic 54, 3) := by decide +kernel
theorem d_Model_worth_17 : decode c_Model_worth 17 = .ok (.ifCond .eq 15, 3) := by decide +kernel
theorem d_Model_worth_20 : decode c_Model_worth 20 = .ok (.iload_n 3, 1) := by decide +kernel
theorem d_Model_worth_21 : decode c_Model_worth 21 = .ok (.i2l, 1) := by decide +kernel
theorem d_Model_worth_22 : decode c_Model_worth 22 = .ok (.lconst 0, 1) := by decide +kernel
theorem d_Model_worth_23 : decode c_Model_worth 23 = .ok (.ldc2_w 83, 3) := by decide +kernel
theorem d_Model_worth_26 : decode c_Model_worth 26 = .ok (.invokestatic 54, 3) := by decide +kernel
theorem d_Model_worth_29 : decode c_Model_worth 29 = .ok (.ifCond .ne 10, 3) := by decide +kernel
theorem d_Model_worth_32 : decode c_Model_worth 32 = .ok (.aload_n 0, 1) := by decide +kernel
theorem d_Model_worth_33 : decode c_Model_worth 33 = .ok (.ldc 38, 2) := by decide +kernel
theorem d_Model_worth_35 : decode c_Model_worth 35 = .ok (.invokevirtual 44, 3) := by decide +kernel
theorem d_Model_worth_38 : decode c_Model_worth 38 = .ok (.ireturn, 1) := by decide +kernel
theorem d_Model_worth_39 : decode c_Model_worth 39 = .ok (.aload_n 0, 1) := by decide +kernel
theorem d_Model_worth_40 : decode c_Model_worth 40 = .ok (.iload_n 1, 1) := by decide +kernel
theorem d_Model_worth_41 : decode c_Model_worth 41 = .ok (.iconst 3, 1) := by decide +kernel
theorem d_Model_worth_42 : decode c_Model_worth 42 = .ok (.invokevirtual 39, 3) := by decide +kernel
theorem d_Model_worth_45 : decode c_Model_worth 45 = .ok (.istore 4, 2) := by decide +kernel
theorem d_Model_worth_47 : decode c_Model_worth 47 = .ok (.iconst (-1), 1) := by decide +kernel
theorem d_Model_worth_48 : decode c_Model_worth 48 = .ok (.istore 5, 2) := by decide +kernel
theorem d_Model_worth_50 : decode c_Model_worth 50 = .ok (.iconst 0, 1) := by decide +kernel
theorem d_Model_worth_51 : decode c_Model_worth 51 = .ok (.istore 6, 2) := by decide +kernel
theorem d_Model_worth_53 : decode c_Model_worth 53 = .ok (.iload 6, 2) := by decide +kernel
theorem d_Model_worth_55 : decode c_Model_worth 55 = .ok (.sipush 999, 3) := by decide +kernel
theorem d_Model_worth_58 : decode c_Model_worth 58 = .ok (.if_icmp .gt 49, 3) := by decide +kernel
theorem d_Model_worth_61 : decode c_Model_worth 61 = .ok (.iload 5, 2) := by decide +kernel
theorem d_Model_worth_63 : decode c_Model_worth 63 = .ok (.ifCond .ge 44, 3) := by decide +kernel
theorem d_Model_worth_66 : decode c_Model_worth 66 = .ok (.aload_n 0, 1) := by decide +kernel
theorem d_Model_worth_67 : decode c_Model_worth 67 = .ok (.getfield 7, 3) := by decide +kernel
theorem d_Model_worth_70 : decode c_Model_worth 70 = .ok (.iload_n 1, 1) := by decide +kernel
theorem d_Model_worth_71 : decode c_Model_worth 71 = .ok (.iconst 3, 1) := by decide +kernel
theorem d_Model_worth_72 : decode c_Model_worth 72 = .ok (.invokestatic 85, 3) := by decide +kernel
theorem d_Model_worth_75 : decode c_Model_worth 75 = .ok (.iload 6, 2) := by decide +kernel
theorem d_Model_worth_77 : decode c_Model_worth 77 = .ok (.iastore, 1) := by decide +kernel
theorem d_Model_worth_78 : decode c_Model_worth 78 = .ok (.aload_n 0, 1) := by decide +kernel
theorem d_Model_worth_79 : decode c_Model_worth 79 = .ok (.aload_n 0, 1) := by decide +kernel
theorem d_Model_worth_80 : decode c_Model_worth 80 = .ok (.iload_n 1, 1) := by decide +kernel
theorem d_Model_worth_81 : decode c_Model_worth 81 = .ok (.iconst 1, 1) := by decide +kernel
theorem d_Model_worth_82 : decode c_Model_worth 82 = .ok (.invokevirtual 39, 3) := by decide +kernel
theorem d_Model_worth_85 : decode c_Model_worth 85 = .ok (.iload_n 2, 1) := by decide +kernel
theorem d_Model_worth_86 : decode c_Model_worth 86 = .ok (.invokevirtual 152, 3) := by decide +kernel
theorem d_Model_worth_89 : decode c_Model_worth 89 = .ok (.iload_n 3, 1) := by decide +kernel
theorem d_Model_worth_90 : decode c_Model_worth 90 = .ok (.if_icmp .lt 8, 3) := by decide +kernel
theorem d_Model_worth_93 : decode c_Model_worth 93 = .ok (.iload 6, 2) := by decide +kernel
theorem d_Model_worth_95 : decode c_Model_worth 95 = .ok (.goto 4, 3) := by decide +kernel
theorem d_Model_worth_98 : decode c_Model_worth 98 = .ok (.iconst (-1), 1) := by decide +kernel
theorem d_Model_worth_99 : decode c_Model_worth 99 = .ok (.istore 5, 2) := by decide +kernel
theorem d_Model_worth_101 : decode c_Model_worth 101 = .ok (.iinc 6 1, 3) := by decide +kernel
theorem d_Model_worth_104 : decode c_Model_worth 104 = .ok (.goto (-51), 3) := by decide +kernel
theorem d_Model_worth_107 : decode c_Model_worth 107 = .ok (.aload_n 0, 1) := by decide +kernel
theorem d_Model_worth_108 : decode c_Model_worth 108 = .ok (.getfield 7, 3) := by decide +kernel
theorem d_Model_worth_111 : decode c_Model_worth 111 = .ok (.iload_n 1, 1) := by decide +kernel
theorem d_Model_worth_112 : decode c_Model_worth 112 = .ok (.iconst 3, 1) := by decide +kernel
theorem d_Model_worth_113 : decode c_Model_worth 113 = .ok (.invokestatic 85, 3) := by decide +kernel
theorem d_Model_worth_116 : decode c_Model_worth 116 = .ok (.iload 4, 2) := by decide +kernel
theorem d_Model_worth_118 : decode c_Model_worth 118 = .ok (.iastore, 1) := by decide +kernel
theorem d_Model_worth_119 : decode c_Model_worth 119 = .ok (.aload_n 0, 1) := by decide +kernel
theorem d_Model_worth_120 : decode c_Model_worth 120 = .ok (.iload 5, 2) := by decide +kernel
theorem d_Model_worth_122 : decode c_Model_worth 122 = .ok (.invokevirtual 158, 3) := by decide +kernel
theorem d_Model_worth_125 : decode c_Model_worth 125 = .ok (.ireturn, 1) := by decide +kernel
theorem d_Model_richest_0 : decode c_Model_richest 0 = .ok (.iload_n 1, 1) := by decide +kernel
theorem d_Model_richest_1 : decode c_Model_richest 1 = .ok (.i2l, 1) := by decide +kernel
theorem d_Model_richest_2 : decode c_Model_richest 2 = .ok (.lconst 0, 1) := by decide +kernel
theorem d_Model_richest_3 : decode c_Model_richest 3 = .ok (.ldc2_w 134, 3) := by decide +kernel
theorem d_Model_richest_6 : decode c_Model_richest 6 = .ok (.invokestatic 54, 3) := by decide +kernel
theorem d_Model_richest_9 : decode c_Model_richest 9 = .ok (.ifCond .ne 10, 3) := by decide +kernel
theorem d_Model_richest_12 : decode c_Model_richest 12 = .ok (.aload_n 0, 1) := by decide +kernel
theorem d_Model_richest_13 : decode c_Model_richest 13 = .ok (.ldc 38, 2) := by decide +kernel
theorem d_Model_richest_15 : decode c_Model_richest 15 = .ok (.invokevirtual 44, 3) := by decide +kernel
theorem d_Model_richest_18 : decode c_Model_richest 18 = .ok (.ireturn, 1) := by decide +kernel
theorem d_Model_richest_19 : decode c_Model_richest 19 = .ok (.aload_n 0, 1) := by decide +kernel
theorem d_Model_richest_20 : decode c_Model_richest 20 = .ok (.getfield 7, 3) := by decide +kernel
theorem d_Model_richest_23 : decode c_Model_richest 23 = .ok (.aload_n 0, 1) := by decide +kernel
theorem d_Model_richest_24 : decode c_Model_richest 24 = .ok (.getfield 19, 3) := by decide +kernel
theorem d_Model_richest_27 : decode c_Model_richest 27 = .ok (.invokestatic 148, 3) := by decide +kernel
theorem d_Model_richest_30 : decode c_Model_richest 30 = .ok (.aload_n 0, 1) := by decide +kernel
theorem d_Model_richest_31 : decode c_Model_richest 31 = .ok (.iload_n 1, 1) := by decide +kernel
theorem d_Model_richest_32 : decode c_Model_richest 32 = .ok (.invokevirtual 137, 3) := by decide +kernel
theorem d_Model_richest_35 : decode c_Model_richest 35 = .ok (.iconst 0, 1) := by decide +kernel
theorem d_Model_richest_36 : decode c_Model_richest 36 = .ok (.istore_n 2, 1) := by decide +kernel
theorem d_Model_richest_37 : decode c_Model_richest 37 = .ok (.iconst 1, 1) := by decide +kernel
theorem d_Model_richest_38 : decode c_Model_richest 38 = .ok (.istore_n 3, 1) := by decide +kernel
theorem d_Model_richest_39 : decode c_Model_richest 39 = .ok (.iload_n 3, 1) := by decide +kernel
theorem d_Model_richest_40 : decode c_Model_richest 40 = .ok (.iconst 4, 1) := by decide +kernel
theorem d_Model_richest_41 : decode c_Model_richest 41 = .ok (.if_icmp .ge 36, 3) := by decide +kernel
theorem d_Model_richest_44 : decode c_Model_richest 44 = .ok (.aload_n 0, 1) := by decide +kernel
theorem d_Model_richest_45 : decode c_Model_richest 45 = .ok (.getfield 7, 3) := by decide +kernel
theorem d_Model_richest_48 : decode c_Model_richest 48 = .ok (.bipush 19, 2) := by decide +kernel
theorem d_Model_richest_50 : decode c_Model_richest 50 = .ok (.iload_n 3, 1) := by decide +kernel
theorem d_Model_richest_51 : decode c_Model_richest 51 = .ok (.iadd, 1) := by decide +kernel
theorem d_Model_richest_52 : decode c_Model_richest 52 = .ok (.iaload, 1) := by decide +kernel
theorem d_Model_richest_53 : decode c_Model_richest 53 = .ok (.aload_n 0, 1) := by decide +kernel
theorem d_Model_richest_54 : decode c_Model_richest 54 = .ok (.getfield 7, 3) := by decide +kernel
theorem d_Model_richest_57 : decode c_Model_richest 57 = .ok (.bipush 19, 2) := by decide +kernel
theorem d_Model_richest_59 : decode c_Model_richest 59 = .ok (.iload_n 2, 1) := by decide +kernel
theorem d_Model_richest_60 : decode c_Model_richest 60 = .ok (.iadd, 1) := by decide +kernel
theorem d_Model_richest_61 : decode c_Model_richest 61 = .ok (.iaload, 1) := by decide +kernel
theorem d_Model_richest_62 : decode c_Model_richest 62 = .ok (.if_icmp .le 7, 3) := by decide +kernel
theorem d_Model_richest_65 : decode c_Model_richest 65 = .ok (.iload_n 3, 1) := by decide +kernel
theorem d_Model_richest_66 : decode c_Model_richest 66 = .ok (.goto 4, 3) := by decide +kernel
theorem d_Model_richest_69 : decode c_Model_richest 69 = .ok (.iload_n 2, 1) := by decide +kernel
theorem d_Model_richest_70 : decode c_Model_richest 70 = .ok (.istore_n 2, 1) := by decide +kernel
theorem d_Model_richest_71 : decode c_Model_richest 71 = .ok (.iinc 3 1, 3) := by decide +kernel
theorem d_Model_richest_74 : decode c_Model_richest 74 = .ok (.goto (-35), 3) := by decide +kernel
theorem d_Model_richest_77 : decode c_Model_richest 77 = .ok (.aload_n 0, 1) := by decide +kernel
theorem d_Model_richest_78 : decode c_Model_richest 78 = .ok (.getfield 19, 3) := by decide +kernel
theorem d_Model_richest_81 : decode c_Model_richest 81 = .ok (.aload_n 0, 1) := by decide +kernel
theorem d_Model_richest_82 : decode c_Model_richest 82 = .ok (.getfield 7, 3) := by decide +kernel
theorem d_Model_richest_85 : decode c_Model_richest 85 = .ok (.invokestatic 148, 3) := by decide +kernel
theorem d_Model_richest_88 : decode c_Model_richest 88 = .ok (.iload_n 2, 1) := by decide +kernel
theorem d_Model_richest_89 : decode c_Model_richest 89 = .ok (.ireturn, 1) := by decide +kernel
theorem d_Model_fewest_0 : decode c_Model_fewest 0 = .ok (.iload_n 1, 1) := by decide +kernel
theorem d_Model_fewest_1 : decode c_Model_fewest 1 = .ok (.invokestatic 80, 3) := by decide +kernel
theorem d_Model_fewest_4 : decode c_Model_fewest 4 = .ok (.ifCond .eq 27, 3) := by decide +kernel
theorem d_Model_fewest_7 : decode c_Model_fewest 7 = .ok (.iload_n 2, 1) := by decide +kernel
theorem d_Model_fewest_8 : decode c_Model_fewest 8 = .ok (.i2l, 1) := by decide +kernel
theorem d_Model_fewest_9 : decode c_Model_fewest 9 = .ok (.lconst 1, 1) := by decide +kernel
theorem d_Model_fewest_10 : decode c_Model_fewest 10 = .ok (.ldc2_w 169, 3) := by decide +kernel
theorem d_Model_fewest_13 : decode c_Model_fewest 13 = .ok (.invokestatic 54, 3) := by decide +kernel
theorem d_Model_fewest_16 : decode c_Model_fewest 16 = .ok (.ifCond .eq 15, 3) := by decide +kernel
theorem d_Model_fewest_19 : decode c_Model_fewest 19 = .ok (.iload_n 3, 1) := by decide +kernel
theorem d_Model_fewest_20 : decode c_Model_fewest 20 = .ok (.i2l, 1) := by decide +kernel
theorem d_Model_fewest_21 : decode c_Model_fewest 21 = .ok (.lconst 0, 1) := by decide +kernel
theorem d_Model_fewest_22 : decode c_Model_fewest 22 = .ok (.ldc2_w 83, 3) := by decide +kernel
theorem d_Model_fewest_25 : decode c_Model_fewest 25 = .ok (.invokestatic 54, 3) := by decide +kernel
theorem d_Model_fewest_28 : decode c_Model_fewest 28 = .ok (.ifCond .ne 10, 3) := by decide +kernel
theorem d_Model_fewest_31 : decode c_Model_fewest 31 = .ok (.aload_n 0, 1) := by decide +kernel
theorem d_Model_fewest_32 : decode c_Model_fewest 32 = .ok (.ldc 38, 2) := by decide +kernel
theorem d_Model_fewest_34 : decode c_Model_fewest 34 = .ok (.invokevirtual 44, 3) := by decide +kernel
theorem d_Model_fewest_37 : decode c_Model_fewest 37 = .ok (.ireturn, 1) := by decide +kernel
theorem d_Model_fewest_38 : decode c_Model_fewest 38 = .ok (.aload_n 0, 1) := by decide +kernel
theorem d_Model_fewest_39 : decode c_Model_fewest 39 = .ok (.iconst 1, 1) := by decide +kernel
theorem d_Model_fewest_40 : decode c_Model_fewest 40 = .ok (.invokevirtual 145, 3) := by decide +kernel
theorem d_Model_fewest_43 : decode c_Model_fewest 43 = .ok (.istore 4, 2) := by decide +kernel
theorem d_Model_fewest_45 : decode c_Model_fewest 45 = .ok (.iconst (-1), 1) := by decide +kernel
theorem d_Model_fewest_46 : decode c_Model_fewest 46 = .ok (.istore 5, 2) := by decide +kernel
theorem d_Model_fewest_48 : decode c_Model_fewest 48 = .ok (.aload_n 0, 1) := by decide +kernel
theorem d_Model_fewest_49 : decode c_Model_fewest 49 = .ok (.getfield 7, 3) := by decide +kernel
theorem d_Model_fewest_52 : decode c_Model_fewest 52 = .ok (.aload_n 0, 1) := by decide +kernel
theorem d_Model_fewest_53 : decode c_Model_fewest 53 = .ok (.getfield 19, 3) := by decide +kernel
theorem d_Model_fewest_56 : decode c_Model_fewest 56 = .ok (.invokestatic 148, 3) := by decide +kernel
theorem d_Model_fewest_59 : decode c_Model_fewest 59 = .ok (.iconst 0, 1) := by decide +kernel
theorem d_Model_fewest_60 : decode c_Model_fewest 60 = .ok (.istore 6, 2) := by decide +kernel
theorem d_Model_fewest_62 : decode c_Model_fewest 62 = .ok (.iload 6, 2) := by decide +kernel
theorem d_Model_fewest_64 : decode c_Model_fewest 64 = .ok (.iload 4, 2) := by decide +kernel
theorem d_Model_fewest_66 : decode c_Model_fewest 66 = .ok (.if_icmp .gt 133, 3) := by decide +kernel
theorem d_Model_fewest_69 : decode c_Model_fewest 69 = .ok (.iload 6, 2) := by decide +kernel
theorem d_Model_fewest_71 : decode c_Model_fewest 71 = .ok (.iload 4, 2) := by decide +kernel
theorem d_Model_fewest_73 : decode c_Model_fewest 73 = .ok (.iconst (-1), 1) := by decide +kernel
theorem d_Model_fewest_74 : decode c_Model_fewest 74 = .ok (.ixor, 1) := by decide +kernel
theorem d_Model_fewest_75 : decode c_Model_fewest 75 = .ok (.iand, 1) := by decide +kernel
theorem d_Model_fewest_76 : decode c_Model_fewest 76 = .ok (.ifCond .ne 117, 3) := by decide +kernel
theorem d_Model_fewest_79 : decode c_Model_fewest 79 = .ok (.iload 5, 2) := by decide +kernel
theorem d_Model_fewest_81 : decode c_Model_fewest 81 = .ok (.ifCond .lt 16, 3) := by decide +kernel
theorem d_Model_fewest_84 : decode c_Model_fewest 84 = .ok (.iload 6, 2) := by decide +kernel
theorem d_Model_fewest_86 : decode c_Model_fewest 86 = .ok (.invokestatic 122, 3) := by decide +kernel
theorem d_Model_fewest_89 : decode c_Model_fewest 89 = .ok (.iload 5, 2) := by decide +kernel
theorem d_Model_fewest_91 : decode c_Model_fewest 91 = .ok (.invokestatic 122, 3) := by decide +kernel
theorem d_Model_fewest_94 : decode c_Model_fewest 94 = .ok (.if_icmp .ge 99, 3) := by decide +kernel
theorem d_Model_fewest_97 : decode c_Model_fewest 97 = .ok (.iconst 0, 1) := by decide +kernel
theorem d_Model_fewest_98 : decode c_Model_fewest 98 = .ok (.istore 7, 2) := by decide +kernel
theorem d_Model_fewest_100 : decode c_Model_fewest 100 = .ok (.iload 7, 2) := by decide +kernel
theorem d_Model_fewest_102 : decode c_Model_fewest 102 = .ok (.aload_n 0, 1) := by decide +kernel
theorem d_Model_fewest_103 : decode c_Model_fewest 103 = .ok (.getfield 7, 3) := by decide +kernel
theorem d_Model_fewest_106 : decode c_Model_fewest 106 = .ok (.iconst 0, 1) := by decide +kernel
theorem d_Model_fewest_107 : decode c_Model_fewest 107 = .ok (.iaload, 1) := by decide +kernel
theorem d_Model_fewest_108 : decode c_Model_fewest 108 = .ok (.if_icmp .ge 47, 3) := by decide +kernel
theorem d_Model_fewest_111 : decode c_Model_fewest 111 = .ok (.aload_n 0, 1) := by decide +kernel
theorem d_Model_fewest_112 : decode c_Model_fewest 112 = .ok (.getfield 7, 3) := by decide +kernel
theorem d_Model_fewest_115 : decode c_Model_fewest 115 = .ok (.iload 7, 2) := by decide +kernel
theorem d_Model_fewest_117 : decode c_Model_fewest 117 = .ok (.iconst 4, 1) := by decide +kernel
theorem d_Model_fewest_118 : decode c_Model_fewest 118 = .ok (.invokestatic 85, 3) := by decide +kernel
theorem d_Model_fewest_121 : decode c_Model_fewest 121 = .ok (.iload 4, 2) := by decide +kernel
theorem d_Model_fewest_123 : decode c_Model_fewest 123 = .ok (.iload 6, 2) := by decide +kernel
theorem d_Model_fewest_125 : decode c_Model_fewest 125 = .ok (.iconst (-1), 1) := by decide +kernel
theorem d_Model_fewest_126 : decode c_Model_fewest 126 = .ok (.ixor, 1) := by decide +kernel
theorem d_Model_fewest_127 : decode c_Model_fewest 127 = .ok (.iand, 1) := by decide +kernel
theorem d_Model_fewest_128 : decode c_Model_fewest 128 = .ok (.iload 7, 2) := by decide +kernel
theorem d_Model_fewest_130 : decode c_Model_fewest 130 = .ok (.ishr, 1) := by decide +kernel
theorem d_Model_fewest_131 : decode c_Model_fewest 131 = .ok (.iconst 1, 1) := by decide +kernel
theorem d_Model_fewest_132 : decode c_Model_fewest 132 = .ok (.iand, 1) := by decide +kernel
theorem d_Model_fewest_133 : decode c_Model_fewest 133 = .ok (.iconst 1, 1) := by decide +kernel
theorem d_Model_fewest_134 : decode c_Model_fewest 134 = .ok (.if_icmp .ne 7, 3) := by decide +kernel
theorem d_Model_fewest_137 : decode c_Model_fewest 137 = .ok (.iconst 0, 1) := by decide +kernel
theorem d_Model_fewest_138 : decode c_Model_fewest 138 = .ok (.goto 10, 3) := by decide +kernel
theorem d_Model_fewest_141 : decode c_Model_fewest 141 = .ok (.aload_n 0, 1) := by decide +kernel
theorem d_Model_fewest_142 : decode c_Model_fewest 142 = .ok (.iload 7, 2) := by decide +kernel
theorem d_Model_fewest_144 : decode c_Model_fewest 144 = .ok (.iconst 4, 1) := by decide +kernel
theorem d_Model_fewest_145 : decode c_Model_fewest 145 = .ok (.invokevirtual 39, 3) := by decide +kernel
theorem d_Model_fewest_148 : decode c_Model_fewest 148 = .ok (.iastore, 1) := by decide +kernel
theorem d_Model_fewest_149 : decode c_Model_fewest 149 = .ok (.iinc 7 1, 3) := by decide +kernel
theorem d_Model_fewest_152 : decode c_Model_fewest 152 = .ok (.goto (-52), 3) := by decide +kernel
theorem d_Model_fewest_155 : decode c_Model_fewest 155 = .ok (.aload_n 0, 1) := by decide +kernel
theorem d_Model_fewest_156 : decode c_Model_fewest 156 = .ok (.iload_n 2, 1) := by decide +kernel
theorem d_Model_fewest_157 : decode c_Model_fewest 157 = .ok (.invokevirtual 137, 3) := by decide +kernel
theorem d_Model_fewest_160 : decode c_Model_fewest 160 = .ok (.aload_n 0, 1) := by decide +kernel
theorem d_Model_fewest_161 : decode c_Model_fewest 161 = .ok (.getfield 7, 3) := by decide +kernel
theorem d_Model_fewest_164 : decode c_Model_fewest 164 = .ok (.bipush 19, 2) := by decide +kernel
theorem d_Model_fewest_166 : decode c_Model_fewest 166 = .ok (.iload_n 1, 1) := by decide +kernel
theorem d_Model_fewest_167 : decode c_Model_fewest 167 = .ok (.iadd, 1) := by decide +kernel
theorem d_Model_fewest_168 : decode c_Model_fewest 168 = .ok (.iaload, 1) := by decide +kernel
theorem d_Model_fewest_169 : decode c_Model_fewest 169 = .ok (.iload_n 3, 1) := by decide +kernel
theorem d_Model_fewest_170 : decode c_Model_fewest 170 = .ok (.if_icmp .lt 8, 3) := by decide +kernel
theorem d_Model_fewest_173 : decode c_Model_fewest 173 = .ok (.iload 6, 2) := by decide +kernel
theorem d_Model_fewest_175 : decode c_Model_fewest 175 = .ok (.goto 5, 3) := by decide +kernel
theorem d_Model_fewest_178 : decode c_Model_fewest 178 = .ok (.iload 5, 2) := by decide +kernel
theorem d_Model_fewest_180 : decode c_Model_fewest 180 = .ok (.istore 5, 2) := by decide +kernel
theorem d_Model_fewest_182 : decode c_Model_fewest 182 = .ok (.aload_n 0, 1) := by decide +kernel
theorem d_Model_fewest_183 : decode c_Model_fewest 183 = .ok (.getfield 19, 3) := by decide +kernel
theorem d_Model_fewest_186 : decode c_Model_fewest 186 = .ok (.aload_n 0, 1) := by decide +kernel
theorem d_Model_fewest_187 : decode c_Model_fewest 187 = .ok (.getfield 7, 3) := by decide +kernel
theorem d_Model_fewest_190 : decode c_Model_fewest 190 = .ok (.invokestatic 148, 3) := by decide +kernel
theorem d_Model_fewest_193 : decode c_Model_fewest 193 = .ok (.iinc 6 1, 3) := by decide +kernel
theorem d_Model_fewest_196 : decode c_Model_fewest 196 = .ok (.goto (-134), 3) := by decide +kernel
theorem d_Model_fewest_199 : decode c_Model_fewest 199 = .ok (.aload_n 0, 1) := by decide +kernel
theorem d_Model_fewest_200 : decode c_Model_fewest 200 = .ok (.iload 5, 2) := by decide +kernel
theorem d_Model_fewest_202 : decode c_Model_fewest 202 = .ok (.invokevirtual 158, 3) := by decide +kernel
theorem d_Model_fewest_205 : decode c_Model_fewest 205 = .ok (.ireturn, 1) := by decide +kernel
theorem d_Model_rate_0 : decode c_Model_rate 0 = .ok (.iload_n 1, 1) := by decide +kernel
theorem d_Model_rate_1 : decode c_Model_rate 1 = .ok (.i2l, 1) := by decide +kernel
theorem d_Model_rate_2 : decode c_Model_rate 2 = .ok (.lconst 1, 1) := by decide +kernel
theorem d_Model_rate_3 : decode c_Model_rate 3 = .ok (.ldc2_w 95, 3) := by decide +kernel
theorem d_Model_rate_6 : decode c_Model_rate 6 = .ok (.invokestatic 54, 3) := by decide +kernel
theorem d_Model_rate_9 : decode c_Model_rate 9 = .ok (.ifCond .eq 15, 3) := by decide +kernel
theorem d_Model_rate_12 : decode c_Model_rate 12 = .ok (.iload_n 2, 1) := by decide +kernel
theorem d_Model_rate_13 : decode c_Model_rate 13 = .ok (.i2l, 1) := by decide +kernel
theorem d_Model_rate_14 : decode c_Model_rate 14 = .ok (.lconst 0, 1) := by decide +kernel
theorem d_Model_rate_15 : decode c_Model_rate 15 = .ok (.ldc2_w 83, 3) := by decide +kernel
theorem d_Model_rate_18 : decode c_Model_rate 18 = .ok (.invokestatic 54, 3) := by decide +kernel
theorem d_Model_rate_21 : decode c_Model_rate 21 = .ok (.ifCond .ne 10, 3) := by decide +kernel
theorem d_Model_rate_24 : decode c_Model_rate 24 = .ok (.aload_n 0, 1) := by decide +kernel
theorem d_Model_rate_25 : decode c_Model_rate 25 = .ok (.ldc 38, 2) := by decide +kernel
theorem d_Model_rate_27 : decode c_Model_rate 27 = .ok (.invokevirtual 44, 3) := by decide +kernel
theorem d_Model_rate_30 : decode c_Model_rate 30 = .ok (.ireturn, 1) := by decide +kernel
theorem d_Model_rate_31 : decode c_Model_rate 31 = .ok (.aload_n 0, 1) := by decide +kernel
theorem d_Model_rate_32 : decode c_Model_rate 32 = .ok (.getfield 7, 3) := by decide +kernel
theorem d_Model_rate_35 : decode c_Model_rate 35 = .ok (.iconst 2, 1) := by decide +kernel
theorem d_Model_rate_36 : decode c_Model_rate 36 = .ok (.iaload, 1) := by decide +kernel
theorem d_Model_rate_37 : decode c_Model_rate 37 = .ok (.istore_n 3, 1) := by decide +kernel
theorem d_Model_rate_38 : decode c_Model_rate 38 = .ok (.iconst (-1), 1) := by decide +kernel
theorem d_Model_rate_39 : decode c_Model_rate 39 = .ok (.istore 4, 2) := by decide +kernel
theorem d_Model_rate_41 : decode c_Model_rate 41 = .ok (.iconst 0, 1) := by decide +kernel
theorem d_Model_rate_42 : decode c_Model_rate 42 = .ok (.istore 5, 2) := by decide +kernel
theorem d_Model_rate_44 : decode c_Model_rate 44 = .ok (.iload 5, 2) := by decide +kernel
theorem d_Model_rate_46 : decode c_Model_rate 46 = .ok (.bipush 50, 2) := by decide +kernel
theorem d_Model_rate_48 : decode c_Model_rate 48 = .ok (.if_icmp .gt 46, 3) := by decide +kernel
theorem d_Model_rate_51 : decode c_Model_rate 51 = .ok (.iload 4, 2) := by decide +kernel
theorem d_Model_rate_53 : decode c_Model_rate 53 = .ok (.ifCond .ge 41, 3) := by decide +kernel
theorem d_Model_rate_56 : decode c_Model_rate 56 = .ok (.aload_n 0, 1) := by decide +kernel
theorem d_Model_rate_57 : decode c_Model_rate 57 = .ok (.getfield 7, 3) := by decide +kernel
theorem d_Model_rate_60 : decode c_Model_rate 60 = .ok (.iconst 2, 1) := by decide +kernel
theorem d_Model_rate_61 : decode c_Model_rate 61 = .ok (.iload 5, 2) := by decide +kernel
theorem d_Model_rate_63 : decode c_Model_rate 63 = .ok (.iastore, 1) := by decide +kernel
theorem d_Model_rate_64 : decode c_Model_rate 64 = .ok (.aload_n 0, 1) := by decide +kernel
theorem d_Model_rate_65 : decode c_Model_rate 65 = .ok (.iload_n 1, 1) := by decide +kernel
theorem d_Model_rate_66 : decode c_Model_rate 66 = .ok (.invokevirtual 163, 3) := by decide +kernel
theorem d_Model_rate_69 : decode c_Model_rate 69 = .ok (.aload_n 0, 1) := by decide +kernel
theorem d_Model_rate_70 : decode c_Model_rate 70 = .ok (.invokevirtual 141, 3) := by decide +kernel
theorem d_Model_rate_73 : decode c_Model_rate 73 = .ok (.lsub, 1) := by decide +kernel
theorem d_Model_rate_74 : decode c_Model_rate 74 = .ok (.iload_n 2, 1) := by decide +kernel
theorem d_Model_rate_75 : decode c_Model_rate 75 = .ok (.i2l, 1) := by decide +kernel
theorem d_Model_rate_76 : decode c_Model_rate 76 = .ok (.lcmp, 1) := by decide +kernel
theorem d_Model_rate_77 : decode c_Model_rate 77 = .ok (.ifCond .lt 8, 3) := by decide +kernel
theorem d_Model_rate_80 : decode c_Model_rate 80 = .ok (.iload 5, 2) := by decide +kernel
theorem d_Model_rate_82 : decode c_Model_rate 82 = .ok (.goto 4, 3) := by decide +kernel
theorem d_Model_rate_85 : decode c_Model_rate 85 = .ok (.iconst (-1), 1) := by decide +kernel
theorem d_Model_rate_86 : decode c_Model_rate 86 = .ok (.istore 4, 2) := by decide +kernel
theorem d_Model_rate_88 : decode c_Model_rate 88 = .ok (.iinc 5 1, 3) := by decide +kernel
theorem d_Model_rate_91 : decode c_Model_rate 91 = .ok (.goto (-47), 3) := by decide +kernel
theorem d_Model_rate_94 : decode c_Model_rate 94 = .ok (.aload_n 0, 1) := by decide +kernel
theorem d_Model_rate_95 : decode c_Model_rate 95 = .ok (.getfield 7, 3) := by decide +kernel
theorem d_Model_rate_98 : decode c_Model_rate 98 = .ok (.iconst 2, 1) := by decide +kernel
theorem d_Model_rate_99 : decode c_Model_rate 99 = .ok (.iload_n 3, 1) := by decide +kernel
theorem d_Model_rate_100 : decode c_Model_rate 100 = .ok (.iastore, 1) := by decide +kernel
theorem d_Model_rate_101 : decode c_Model_rate 101 = .ok (.aload_n 0, 1) := by decide +kernel
theorem d_Model_rate_102 : decode c_Model_rate 102 = .ok (.iload 4, 2) := by decide +kernel
theorem d_Model_rate_104 : decode c_Model_rate 104 = .ok (.invokevirtual 158, 3) := by decide +kernel
theorem d_Model_rate_107 : decode c_Model_rate 107 = .ok (.ireturn, 1) := by decide +kernel
theorem d_Model_feed_0 : decode c_Model_feed 0 = .ok (.iload_n 2, 1) := by decide +kernel
theorem d_Model_feed_1 : decode c_Model_feed 1 = .ok (.i2l, 1) := by decide +kernel
theorem d_Model_feed_2 : decode c_Model_feed 2 = .ok (.lconst 1, 1) := by decide +kernel
theorem d_Model_feed_3 : decode c_Model_feed 3 = .ok (.ldc2_w 171, 3) := by decide +kernel
theorem d_Model_feed_6 : decode c_Model_feed 6 = .ok (.invokestatic 54, 3) := by decide +kernel
theorem d_Model_feed_9 : decode c_Model_feed 9 = .ok (.ifCond .ne 10, 3) := by decide +kernel
theorem d_Model_feed_12 : decode c_Model_feed 12 = .ok (.aload_n 0, 1) := by decide +kernel
theorem d_Model_feed_13 : decode c_Model_feed 13 = .ok (.ldc 38, 2) := by decide +kernel
theorem d_Model_feed_15 : decode c_Model_feed 15 = .ok (.invokevirtual 44, 3) := by decide +kernel
theorem d_Model_feed_18 : decode c_Model_feed 18 = .ok (.ireturn, 1) := by decide +kernel
theorem d_Model_feed_19 : decode c_Model_feed 19 = .ok (.aload_n 0, 1) := by decide +kernel
theorem d_Model_feed_20 : decode c_Model_feed 20 = .ok (.getfield 173, 3) := by decide +kernel
theorem d_Model_feed_23 : decode c_Model_feed 23 = .ok (.iload_n 2, 1) := by decide +kernel
theorem d_Model_feed_24 : decode c_Model_feed 24 = .ok (.iadd, 1) := by decide +kernel
theorem d_Model_feed_25 : decode c_Model_feed 25 = .ok (.bipush 120, 2) := by decide +kernel
theorem d_Model_feed_27 : decode c_Model_feed 27 = .ok (.if_icmp .le 10, 3) := by decide +kernel
theorem d_Model_feed_30 : decode c_Model_feed 30 = .ok (.aload_n 0, 1) := by decide +kernel
theorem d_Model_feed_31 : decode c_Model_feed 31 = .ok (.ldc 90, 2) := by decide +kernel
theorem d_Model_feed_33 : decode c_Model_feed 33 = .ok (.invokevirtual 44, 3) := by decide +kernel
theorem d_Model_feed_36 : decode c_Model_feed 36 = .ok (.ireturn, 1) := by decide +kernel
theorem d_Model_feed_37 : decode c_Model_feed 37 = .ok (.iload_n 2, 1) := by decide +kernel
theorem d_Model_feed_38 : decode c_Model_feed 38 = .ok (.iconst 1, 1) := by decide +kernel
theorem d_Model_feed_39 : decode c_Model_feed 39 = .ok (.isub, 1) := by decide +kernel
theorem d_Model_feed_40 : decode c_Model_feed 40 = .ok (.istore_n 3, 1) := by decide +kernel
theorem d_Model_feed_41 : decode c_Model_feed 41 = .ok (.iload_n 3, 1) := by decide +kernel
theorem d_Model_feed_42 : decode c_Model_feed 42 = .ok (.ifCond .lt 38, 3) := by decide +kernel
theorem d_Model_feed_45 : decode c_Model_feed 45 = .ok (.aload_n 0, 1) := by decide +kernel
theorem d_Model_feed_46 : decode c_Model_feed 46 = .ok (.getfield 25, 3) := by decide +kernel
theorem d_Model_feed_49 : decode c_Model_feed 49 = .ok (.aload_n 0, 1) := by decide +kernel
theorem d_Model_feed_50 : decode c_Model_feed 50 = .ok (.getfield 173, 3) := by decide +kernel
theorem d_Model_feed_53 : decode c_Model_feed 53 = .ok (.iload_n 1, 1) := by decide +kernel
theorem d_Model_feed_54 : decode c_Model_feed 54 = .ok (.bipush 8, 2) := by decide +kernel
theorem d_Model_feed_56 : decode c_Model_feed 56 = .ok (.iload_n 3, 1) := by decide +kernel
theorem d_Model_feed_57 : decode c_Model_feed 57 = .ok (.imul, 1) := by decide +kernel
theorem d_Model_feed_58 : decode c_Model_feed 58 = .ok (.ishr, 1) := by decide +kernel
theorem d_Model_feed_59 : decode c_Model_feed 59 = .ok (.sipush 255, 3) := by decide +kernel
theorem d_Model_feed_62 : decode c_Model_feed 62 = .ok (.iand, 1) := by decide +kernel
theorem d_Model_feed_63 : decode c_Model_feed 63 = .ok (.iastore, 1) := by decide +kernel
theorem d_Model_feed_64 : decode c_Model_feed 64 = .ok (.aload_n 0, 1) := by decide +kernel
theorem d_Model_feed_65 : decode c_Model_feed 65 = .ok (.dup, 1) := by decide +kernel
theorem d_Model_feed_66 : decode c_Model_feed 66 = .ok (.getfield 173, 3) := by decide +kernel
theorem d_Model_feed_69 : decode c_Model_feed 69 = .ok (.iconst 1, 1) := by decide +kernel
theorem d_Model_feed_70 : decode c_Model_feed 70 = .ok (.iadd, 1) := by decide +kernel
theorem d_Model_feed_71 : decode c_Model_feed 71 = .ok (.putfield 173, 3) := by decide +kernel
theorem d_Model_feed_74 : decode c_Model_feed 74 = .ok (.iinc 3 (-1), 3) := by decide +kernel
theorem d_Model_feed_77 : decode c_Model_feed 77 = .ok (.goto (-36), 3) := by decide +kernel
theorem d_Model_feed_80 : decode c_Model_feed 80 = .ok (.aload_n 0, 1) := by decide +kernel
theorem d_Model_feed_81 : decode c_Model_feed 81 = .ok (.getfield 173, 3) := by decide +kernel
theorem d_Model_feed_84 : decode c_Model_feed 84 = .ok (.ireturn, 1) := by decide +kernel
theorem d_Model_wipe_0 : decode c_Model_wipe 0 = .ok (.aload_n 0, 1) := by decide +kernel
theorem d_Model_wipe_1 : decode c_Model_wipe 1 = .ok (.getfield 173, 3) := by decide +kernel
theorem d_Model_wipe_4 : decode c_Model_wipe 4 = .ok (.istore_n 1, 1) := by decide +kernel
theorem d_Model_wipe_5 : decode c_Model_wipe 5 = .ok (.aload_n 0, 1) := by decide +kernel
theorem d_Model_wipe_6 : decode c_Model_wipe 6 = .ok (.iconst 0, 1) := by decide +kernel
theorem d_Model_wipe_7 : decode c_Model_wipe 7 = .ok (.putfield 173, 3) := by decide +kernel
theorem d_Model_wipe_10 : decode c_Model_wipe 10 = .ok (.iload_n 1, 1) := by decide +kernel
theorem d_Model_wipe_11 : decode c_Model_wipe 11 = .ok (.ireturn, 1) := by decide +kernel
theorem d_Model_isLetter_0 : decode c_Model_isLetter 0 = .ok (.iload_n 0, 1) := by decide +kernel
theorem d_Model_isLetter_1 : decode c_Model_isLetter 1 = .ok (.bipush 97, 2) := by decide +kernel
theorem d_Model_isLetter_3 : decode c_Model_isLetter 3 = .ok (.if_icmp .lt 13, 3) := by decide +kernel
theorem d_Model_isLetter_6 : decode c_Model_isLetter 6 = .ok (.iload_n 0, 1) := by decide +kernel
theorem d_Model_isLetter_7 : decode c_Model_isLetter 7 = .ok (.bipush 122, 2) := by decide +kernel
theorem d_Model_isLetter_9 : decode c_Model_isLetter 9 = .ok (.if_icmp .gt 7, 3) := by decide +kernel
theorem d_Model_isLetter_12 : decode c_Model_isLetter 12 = .ok (.iconst 1, 1) := by decide +kernel
theorem d_Model_isLetter_13 : decode c_Model_isLetter 13 = .ok (.goto 4, 3) := by decide +kernel
theorem d_Model_isLetter_16 : decode c_Model_isLetter 16 = .ok (.iconst 0, 1) := by decide +kernel
theorem d_Model_isLetter_17 : decode c_Model_isLetter 17 = .ok (.ireturn, 1) := by decide +kernel
theorem d_Model_isDigit_0 : decode c_Model_isDigit 0 = .ok (.iload_n 0, 1) := by decide +kernel
theorem d_Model_isDigit_1 : decode c_Model_isDigit 1 = .ok (.bipush 48, 2) := by decide +kernel
theorem d_Model_isDigit_3 : decode c_Model_isDigit 3 = .ok (.if_icmp .lt 13, 3) := by decide +kernel
theorem d_Model_isDigit_6 : decode c_Model_isDigit 6 = .ok (.iload_n 0, 1) := by decide +kernel
theorem d_Model_isDigit_7 : decode c_Model_isDigit 7 = .ok (.bipush 57, 2) := by decide +kernel
theorem d_Model_isDigit_9 : decode c_Model_isDigit 9 = .ok (.if_icmp .gt 7, 3) := by decide +kernel
theorem d_Model_isDigit_12 : decode c_Model_isDigit 12 = .ok (.iconst 1, 1) := by decide +kernel
theorem d_Model_isDigit_13 : decode c_Model_isDigit 13 = .ok (.goto 4, 3) := by decide +kernel
theorem d_Model_isDigit_16 : decode c_Model_isDigit 16 = .ok (.iconst 0, 1) := by decide +kernel
theorem d_Model_isDigit_17 : decode c_Model_isDigit 17 = .ok (.ireturn, 1) := by decide +kernel
theorem d_Model_byteAt_0 : decode c_Model_byteAt 0 = .ok (.iload_n 1, 1) := by decide +kernel
theorem d_Model_byteAt_1 : decode c_Model_byteAt 1 = .ok (.aload_n 0, 1) := by decide +kernel
theorem d_Model_byteAt_2 : decode c_Model_byteAt 2 = .ok (.getfield 173, 3) := by decide +kernel
theorem d_Model_byteAt_5 : decode c_Model_byteAt 5 = .ok (.if_icmp .ge 12, 3) := by decide +kernel
theorem d_Model_byteAt_8 : decode c_Model_byteAt 8 = .ok (.aload_n 0, 1) := by decide +kernel
theorem d_Model_byteAt_9 : decode c_Model_byteAt 9 = .ok (.getfield 25, 3) := by decide +kernel
theorem d_Model_byteAt_12 : decode c_Model_byteAt 12 = .ok (.iload_n 1, 1) := by decide +kernel
theorem d_Model_byteAt_13 : decode c_Model_byteAt 13 = .ok (.iaload, 1) := by decide +kernel
theorem d_Model_byteAt_14 : decode c_Model_byteAt 14 = .ok (.goto 4, 3) := by decide +kernel
theorem d_Model_byteAt_17 : decode c_Model_byteAt 17 = .ok (.iconst (-1), 1) := by decide +kernel
theorem d_Model_byteAt_18 : decode c_Model_byteAt 18 = .ok (.ireturn, 1) := by decide +kernel
theorem d_Model_nextToken_0 : decode c_Model_nextToken 0 = .ok (.aload_n 0, 1) := by decide +kernel
theorem d_Model_nextToken_1 : decode c_Model_nextToken 1 = .ok (.aload_n 0, 1) := by decide +kernel
theorem d_Model_nextToken_2 : decode c_Model_nextToken 2 = .ok (.getfield 177, 3) := by decide +kernel
theorem d_Model_nextToken_5 : decode c_Model_nextToken 5 = .ok (.putfield 180, 3) := by decide +kernel
theorem d_Model_nextToken_8 : decode c_Model_nextToken 8 = .ok (.aload_n 0, 1) := by decide +kernel
theorem d_Model_nextToken_9 : decode c_Model_nextToken 9 = .ok (.aload_n 0, 1) := by decide +kernel
theorem d_Model_nextToken_10 : decode c_Model_nextToken 10 = .ok (.getfield 180, 3) := by decide +kernel
theorem d_Model_nextToken_13 : decode c_Model_nextToken 13 = .ok (.invokevirtual 183, 3) := by decide +kernel
theorem d_Model_nextToken_16 : decode c_Model_nextToken 16 = .ok (.bipush 32, 2) := by decide +kernel
theorem d_Model_nextToken_18 : decode c_Model_nextToken 18 = .ok (.if_icmp .ne 16, 3) := by decide +kernel
theorem d_Model_nextToken_21 : decode c_Model_nextToken 21 = .ok (.aload_n 0, 1) := by decide +kernel
theorem d_Model_nextToken_22 : decode c_Model_nextToken 22 = .ok (.dup, 1) := by decide +kernel
theorem d_Model_nextToken_23 : decode c_Model_nextToken 23 = .ok (.getfield 180, 3) := by decide +kernel
theorem d_Model_nextToken_26 : decode c_Model_nextToken 26 = .ok (.iconst 1, 1) := by decide +kernel
theorem d_Model_nextToken_27 : decode c_Model_nextToken 27 = .ok (.iadd, 1) := by decide +kernel
theorem d_Model_nextToken_28 : decode c_Model_nextToken 28 = .ok (.putfield 180, 3) := by decide +kernel
theorem d_Model_nextToken_31 : decode c_Model_nextToken 31 = .ok (.goto (-23), 3) := by decide +kernel
theorem d_Model_nextToken_34 : decode c_Model_nextToken 34 = .ok (.aload_n 0, 1) := by decide +kernel
theorem d_Model_nextToken_35 : decode c_Model_nextToken 35 = .ok (.aload_n 0, 1) := by decide +kernel
theorem d_Model_nextToken_36 : decode c_Model_nextToken 36 = .ok (.getfield 180, 3) := by decide +kernel
theorem d_Model_nextToken_39 : decode c_Model_nextToken 39 = .ok (.putfield 177, 3) := by decide +kernel
theorem d_Model_nextToken_42 : decode c_Model_nextToken 42 = .ok (.aload_n 0, 1) := by decide +kernel
theorem d_Model_nextToken_43 : decode c_Model_nextToken 43 = .ok (.aload_n 0, 1) := by decide +kernel
theorem d_Model_nextToken_44 : decode c_Model_nextToken 44 = .ok (.getfield 180, 3) := by decide +kernel
theorem d_Model_nextToken_47 : decode c_Model_nextToken 47 = .ok (.invokevirtual 183, 3) := by decide +kernel
theorem d_Model_nextToken_50 : decode c_Model_nextToken 50 = .ok (.istore_n 1, 1) := by decide +kernel
theorem d_Model_nextToken_51 : decode c_Model_nextToken 51 = .ok (.aload_n 0, 1) := by decide +kernel
theorem d_Model_nextToken_52 : decode c_Model_nextToken 52 = .ok (.iload_n 1, 1) := by decide +kernel
theorem d_Model_nextToken_53 : decode c_Model_nextToken 53 = .ok (.ifCond .ge 7, 3) := by decide +kernel
theorem d_Model_nextToken_56 : decode c_Model_nextToken 56 = .ok (.iconst 0, 1) := by decide +kernel
theorem d_Model_nextToken_57 : decode c_Model_nextToken 57 = .ok (.goto 36, 3) := by decide +kernel
theorem d_Model_nextToken_60 : decode c_Model_nextToken 60 = .ok (.iload_n 1, 1) := by decide +kernel
theorem d_Model_nextToken_61 : decode c_Model_nextToken 61 = .ok (.invokestatic 186, 3) := by decide +kernel
theorem d_Model_nextToken_64 : decode c_Model_nextToken 64 = .ok (.ifCond .eq 7, 3) := by decide +kernel
theorem d_Model_nextToken_67 : decode c_Model_nextToken 67 = .ok (.iconst 1, 1) := by decide +kernel
theorem d_Model_nextToken_68 : decode c_Model_nextToken 68 = .ok (.goto 25, 3) := by decide +kernel
theorem d_Model_nextToken_71 : decode c_Model_nextToken 71 = .ok (.iload_n 1, 1) := by decide +kernel
theorem d_Model_nextToken_72 : decode c_Model_nextToken 72 = .ok (.invokestatic 189, 3) := by decide +kernel
theorem d_Model_nextToken_75 : decode c_Model_nextToken 75 = .ok (.ifCond .eq 7, 3) := by decide +kernel
theorem d_Model_nextToken_78 : decode c_Model_nextToken 78 = .ok (.iconst 2, 1) := by decide +kernel
theorem d_Model_nextToken_79 : decode c_Model_nextToken 79 = .ok (.goto 14, 3) := by decide +kernel
theorem d_Model_nextToken_82 : decode c_Model_nextToken 82 = .ok (.iload_n 1, 1) := by decide +kernel
theorem d_Model_nextToken_83 : decode c_Model_nextToken 83 = .ok (.bipush 59, 2) := by decide +kernel
theorem d_Model_nextToken_85 : decode c_Model_nextToken 85 = .ok (.if_icmp .ne 7, 3) := by decide +kernel
theorem d_Model_nextToken_88 : decode c_Model_nextToken 88 = .ok (.iconst 3, 1) := by decide +kernel
theorem d_Model_nextToken_89 : decode c_Model_nextToken 89 = .ok (.goto 4, 3) := by decide +kernel
theorem d_Model_nextToken_92 : decode c_Model_nextToken 92 = .ok (.iconst 4, 1) := by decide +kernel
theorem d_Model_nextToken_93 : decode c_Model_nextToken 93 = .ok (.putfield 192, 3) := by decide +kernel
theorem d_Model_nextToken_96 : decode c_Model_nextToken 96 = .ok (.aload_n 0, 1) := by decide +kernel
theorem d_Model_nextToken_97 : decode c_Model_nextToken 97 = .ok (.iconst 0, 1) := by decide +kernel
theorem d_Model_nextToken_98 : decode c_Model_nextToken 98 = .ok (.putfield 195, 3) := by decide +kernel
theorem d_Model_nextToken_101 : decode c_Model_nextToken 101 = .ok (.aload_n 0, 1) := by decide +kernel
theorem d_Model_nextToken_102 : decode c_Model_nextToken 102 = .ok (.getfield 192, 3) := by decide +kernel
theorem d_Model_nextToken_105 : decode c_Model_nextToken 105 = .ok (.iconst 1, 1) := by decide +kernel
theorem d_Model_nextToken_106 : decode c_Model_nextToken 106 = .ok (.if_icmp .ne 30, 3) := by decide +kernel
theorem d_Model_nextToken_109 : decode c_Model_nextToken 109 = .ok (.aload_n 0, 1) := by decide +kernel
theorem d_Model_nextToken_110 : decode c_Model_nextToken 110 = .ok (.aload_n 0, 1) := by decide +kernel
theorem d_Model_nextToken_111 : decode c_Model_nextToken 111 = .ok (.getfield 177, 3) := by decide +kernel
theorem d_Model_nextToken_114 : decode c_Model_nextToken 114 = .ok (.invokevirtual 183, 3) := by decide +kernel
theorem d_Model_nextToken_117 : decode c_Model_nextToken 117 = .ok (.invokestatic 186, 3) := by decide +kernel
theorem d_Model_nextToken_120 : decode c_Model_nextToken 120 = .ok (.ifCond .eq 16, 3) := by decide +kernel
theorem d_Model_nextToken_123 : decode c_Model_nextToken 123 = .ok (.aload_n 0, 1) := by decide +kernel
theorem d_Model_nextToken_124 : decode c_Model_nextToken 124 = .ok (.dup, 1) := by decide +kernel
theorem d_Model_nextToken_125 : decode c_Model_nextToken 125 = .ok (.getfield 177, 3) := by decide +kernel
theorem d_Model_nextToken_128 : decode c_Model_nextToken 128 = .ok (.iconst 1, 1) := by decide +kernel
theorem d_Model_nextToken_129 : decode c_Model_nextToken 129 = .ok (.iadd, 1) := by decide +kernel
theorem d_Model_nextToken_130 : decode c_Model_nextToken 130 = .ok (.putfield 177, 3) := by decide +kernel
theorem d_Model_nextToken_133 : decode c_Model_nextToken 133 = .ok (.goto (-32), 3) := by decide +kernel
theorem d_Model_nextToken_136 : decode c_Model_nextToken 136 = .ok (.aload_n 0, 1) := by decide +kernel
theorem d_Model_nextToken_137 : decode c_Model_nextToken 137 = .ok (.getfield 192, 3) := by decide +kernel
theorem d_Model_nextToken_140 : decode c_Model_nextToken 140 = .ok (.iconst 2, 1) := by decide +kernel
theorem d_Model_nextToken_141 : decode c_Model_nextToken 141 = .ok (.if_icmp .ne 70, 3) := by decide +kernel
theorem d_Model_nextToken_144 : decode c_Model_nextToken 144 = .ok (.aload_n 0, 1) := by decide +kernel
theorem d_Model_nextToken_145 : decode c_Model_nextToken 145 = .ok (.aload_n 0, 1) := by decide +kernel
theorem d_Model_nextToken_146 : decode c_Model_nextToken 146 = .ok (.getfield 177, 3) := by decide +kernel
theorem d_Model_nextToken_149 : decode c_Model_nextToken 149 = .ok (.invokevirtual 183, 3) := by decide +kernel
theorem d_Model_nextToken_152 : decode c_Model_nextToken 152 = .ok (.invokestatic 189, 3) := by decide +kernel
theorem d_Model_nextToken_155 : decode c_Model_nextToken 155 = .ok (.ifCond .eq 56, 3) := by decide +kernel
theorem d_Model_nextToken_158 : decode c_Model_nextToken 158 = .ok (.aload_n 0, 1) := by decide +kernel
theorem d_Model_nextToken_159 : decode c_Model_nextToken 159 = .ok (.aload_n 0, 1) := by decide +kernel
theorem d_Model_nextToken_160 : decode c_Model_nextToken 160 = .ok (.getfield 195, 3) := by decide +kernel
theorem d_Model_nextToken_163 : decode c_Model_nextToken 163 = .ok (.sipush 9999, 3) := by decide +kernel
theorem d_Model_nextToken_166 : decode c_Model_nextToken 166 = .ok (.if_icmp .le 10, 3) := by decide +kernel
theorem d_Model_nextToken_169 : decode c_Model_nextToken 169 = .ok (.aload_n 0, 1) := by decide +kernel
theorem d_Model_nextToken_170 : decode c_Model_nextToken 170 = .ok (.getfield 195, 3) := by decide +kernel
theorem d_Model_nextToken_173 : decode c_Model_nextToken 173 = .ok (.goto 22, 3) := by decide +kernel
theorem d_Model_nextToken_176 : decode c_Model_nextToken 176 = .ok (.bipush 10, 2) := by decide +kernel
theorem d_Model_nextToken_178 : decode c_Model_nextToken 178 = .ok (.aload_n 0, 1) := by decide +kernel
theorem d_Model_nextToken_179 : decode c_Model_nextToken 179 = .ok (.getfield 195, 3) := by decide +kernel
theorem d_Model_nextToken_182 : decode c_Model_nextToken 182 = .ok (.imul, 1) := by decide +kernel
theorem d_Model_nextToken_183 : decode c_Model_nextToken 183 = .ok (.aload_n 0, 1) := by decide +kernel
theorem d_Model_nextToken_184 : decode c_Model_nextToken 184 = .ok (.aload_n 0, 1) := by decide +kernel
theorem d_Model_nextToken_185 : decode c_Model_nextToken 185 = .ok (.getfield 177, 3) := by decide +kernel
theorem d_Model_nextToken_188 : decode c_Model_nextToken 188 = .ok (.invokevirtual 183, 3) := by decide +kernel
theorem d_Model_nextToken_191 : decode c_Model_nextToken 191 = .ok (.iadd, 1) := by decide +kernel
theorem d_Model_nextToken_192 : decode c_Model_nextToken 192 = .ok (.bipush 48, 2) := by decide +kernel
theorem d_Model_nextToken_194 : decode c_Model_nextToken 194 = .ok (.isub, 1) := by decide +kernel
theorem d_Model_nextToken_195 : decode c_Model_nextToken 195 = .ok (.putfield 195, 3) := by decide +kernel
theorem d_Model_nextToken_198 : decode c_Model_nextToken 198 = .ok (.aload_n 0, 1) := by decide +kernel
theorem d_Model_nextToken_199 : decode c_Model_nextToken 199 = .ok (.dup, 1) := by decide +kernel
theorem d_Model_nextToken_200 : decode c_Model_nextToken 200 = .ok (.getfield 177, 3) := by decide +kernel
theorem d_Model_nextToken_203 : decode c_Model_nextToken 203 = .ok (.iconst 1, 1) := by decide +kernel
theorem d_Model_nextToken_204 : decode c_Model_nextToken 204 = .ok (.iadd, 1) := by decide +kernel
theorem d_Model_nextToken_205 : decode c_Model_nextToken 205 = .ok (.putfield 177, 3) := by decide +kernel
theorem d_Model_nextToken_208 : decode c_Model_nextToken 208 = .ok (.goto (-72), 3) := by decide +kernel
theorem d_Model_nextToken_211 : decode c_Model_nextToken 211 = .ok (.aload_n 0, 1) := by decide +kernel
theorem d_Model_nextToken_212 : decode c_Model_nextToken 212 = .ok (.dup, 1) := by decide +kernel
theorem d_Model_nextToken_213 : decode c_Model_nextToken 213 = .ok (.getfield 177, 3) := by decide +kernel
theorem d_Model_nextToken_216 : decode c_Model_nextToken 216 = .ok (.aload_n 0, 1) := by decide +kernel
theorem d_Model_nextToken_217 : decode c_Model_nextToken 217 = .ok (.getfield 192, 3) := by decide +kernel
theorem d_Model_nextToken_220 : decode c_Model_nextToken 220 = .ok (.iconst 2, 1) := by decide +kernel
theorem d_Model_nextToken_221 : decode c_Model_nextToken 221 = .ok (.if_icmp .le 7, 3) := by decide +kernel
theorem d_Model_nextToken_224 : decode c_Model_nextToken 224 = .ok (.iconst 1, 1) := by decide +kernel
theorem d_Model_nextToken_225 : decode c_Model_nextToken 225 = .ok (.goto 4, 3) := by decide +kernel
theorem d_Model_nextToken_228 : decode c_Model_nextToken 228 = .ok (.iconst 0, 1) := by decide +kernel
theorem d_Model_nextToken_229 : decode c_Model_nextToken 229 = .ok (.iadd, 1) := by decide +kernel
theorem d_Model_nextToken_230 : decode c_Model_nextToken 230 = .ok (.putfield 177, 3) := by decide +kernel
theorem d_Model_nextToken_233 : decode c_Model_nextToken 233 = .ok (.return_, 1) := by decide +kernel
theorem d_Model_has3_0 : decode c_Model_has3 0 = .ok (.aload_n 0, 1) := by decide +kernel
theorem d_Model_has3_1 : decode c_Model_has3 1 = .ok (.aload_n 0, 1) := by decide +kernel
theorem d_Model_has3_2 : decode c_Model_has3 2 = .ok (.getfield 180, 3) := by decide +kernel
theorem d_Model_has3_5 : decode c_Model_has3 5 = .ok (.iload_n 1, 1) := by decide +kernel
theorem d_Model_has3_6 : decode c_Model_has3 6 = .ok (.iadd, 1) := by decide +kernel
theorem d_Model_has3_7 : decode c_Model_has3 7 = .ok (.invokevirtual 183, 3) := by decide +kernel
theorem d_Model_has3_10 : decode c_Model_has3 10 = .ok (.iload_n 2, 1) := by decide +kernel
theorem d_Model_has3_11 : decode c_Model_has3 11 = .ok (.if_icmp .ne 40, 3) := by decide +kernel
theorem d_Model_has3_14 : decode c_Model_has3 14 = .ok (.aload_n 0, 1) := by decide +kernel
theorem d_Model_has3_15 : decode c_Model_has3 15 = .ok (.aload_n 0, 1) := by decide +kernel
theorem d_Model_has3_16 : decode c_Model_has3 16 = .ok (.getfield 180, 3) := by decide +kernel
theorem d_Model_has3_19 : decode c_Model_has3 19 = .ok (.iload_n 1, 1) := by decide +kernel
theorem d_Model_has3_20 : decode c_Model_has3 20 = .ok (.iadd, 1) := by decide +kernel
theorem d_Model_has3_21 : decode c_Model_has3 21 = .ok (.iconst 1, 1) := by decide +kernel
theorem d_Model_has3_22 : decode c_Model_has3 22 = .ok (.iadd, 1) := by decide +kernel
theorem d_Model_has3_23 : decode c_Model_has3 23 = .ok (.invokevirtual 183, 3) := by decide +kernel
theorem d_Model_has3_26 : decode c_Model_has3 26 = .ok (.iload_n 3, 1) := by decide +kernel
theorem d_Model_has3_27 : decode c_Model_has3 27 = .ok (.if_icmp .ne 24, 3) := by decide +kernel
theorem d_Model_has3_30 : decode c_Model_has3 30 = .ok (.aload_n 0, 1) := by decide +kernel
theorem d_Model_has3_31 : decode c_Model_has3 31 = .ok (.aload_n 0, 1) := by decide +kernel
theorem d_Model_has3_32 : decode c_Model_has3 32 = .ok (.getfield 180, 3) := by decide +kernel
theorem d_Model_has3_35 : decode c_Model_has3 35 = .ok (.iload_n 1, 1) := by decide +kernel
theorem d_Model_has3_36 : decode c_Model_has3 36 = .ok (.iadd, 1) := by decide +kernel
theorem d_Model_has3_37 : decode c_Model_has3 37 = .ok (.iconst 2, 1) := by decide +kernel
theorem d_Model_has3_38 : decode c_Model_has3 38 = .ok (.iadd, 1) := by decide +kernel
theorem d_Model_has3_39 : decode c_Model_has3 39 = .ok (.invokevirtual 183, 3) := by decide +kernel
theorem d_Model_has3_42 : decode c_Model_has3 42 = .ok (.iload 4, 2) := by decide +kernel
theorem d_Model_has3_44 : decode c_Model_has3 44 = .ok (.if_icmp .ne 7, 3) := by decide +kernel
theorem d_Model_has3_47 : decode c_Model_has3 47 = .ok (.iconst 1, 1) := by decide +kernel
theorem d_Model_has3_48 : decode c_Model_has3 48 = .ok (.goto 4, 3) := by decide +kernel
theorem d_Model_has3_51 : decode c_Model_has3 51 = .ok (.iconst 0, 1) := by decide +kernel
theorem d_Model_has3_52 : decode c_Model_has3 52 = .ok (.ireturn, 1) := by decide +kernel
theorem d_Model_isWord_0 : decode c_Model_isWord 0 = .ok (.aload_n 0, 1) := by decide +kernel
theorem d_Model_isWord_1 : decode c_Model_isWord 1 = .ok (.getfield 192, 3) := by decide +kernel
theorem d_Model_isWord_4 : decode c_Model_isWord 4 = .ok (.iconst 1, 1) := by decide +kernel
theorem d_Model_isWord_5 : decode c_Model_isWord 5 = .ok (.if_icmp .ne 20, 3) := by decide +kernel
theorem d_Model_isWord_8 : decode c_Model_isWord 8 = .ok (.aload_n 0, 1) := by decide +kernel
theorem d_Model_isWord_9 : decode c_Model_isWord 9 = .ok (.getfield 177, 3) := by decide +kernel
theorem d_Model_isWord_12 : decode c_Model_isWord 12 = .ok (.aload_n 0, 1) := by decide +kernel
theorem d_Model_isWord_13 : decode c_Model_isWord 13 = .ok (.getfield 180, 3) := by decide +kernel
theorem d_Model_isWord_16 : decode c_Model_isWord 16 = .ok (.isub, 1) := by decide +kernel
theorem d_Model_isWord_17 : decode c_Model_isWord 17 = .ok (.iload_n 1, 1) := by decide +kernel
theorem d_Model_isWord_18 : decode c_Model_isWord 18 = .ok (.if_icmp .ne 7, 3) := by decide +kernel
theorem d_Model_isWord_21 : decode c_Model_isWord 21 = .ok (.iconst 1, 1) := by decide +kernel
theorem d_Model_isWord_22 : decode c_Model_isWord 22 = .ok (.goto 4, 3) := by decide +kernel
theorem d_Model_isWord_25 : decode c_Model_isWord 25 = .ok (.iconst 0, 1) := by decide +kernel
theorem d_Model_isWord_26 : decode c_Model_isWord 26 = .ok (.ireturn, 1) := by decide +kernel
theorem d_Model_fails_0 : decode c_Model_fails 0 = .ok (.aload_n 0, 1) := by decide +kernel
theorem d_Model_fails_1 : decode c_Model_fails 1 = .ok (.aload_n 0, 1) := by decide +kernel
theorem d_Model_fails_2 : decode c_Model_fails 2 = .ok (.getfield 180, 3) := by decide +kernel
theorem d_Model_fails_5 : decode c_Model_fails 5 = .ok (.putfield 198, 3) := by decide +kernel
theorem d_Model_fails_8 : decode c_Model_fails 8 = .ok (.iconst 0, 1) := by decide +kernel
theorem d_Model_fails_9 : decode c_Model_fails 9 = .ok (.ireturn, 1) := by decide +kernel
theorem d_Model_isFive_0 : decode c_Model_isFive 0 = .ok (.aload_n 0, 1) := by decide +kernel
theorem d_Model_isFive_1 : decode c_Model_isFive 1 = .ok (.iconst 5, 1) := by decide +kernel
theorem d_Model_isFive_2 : decode c_Model_isFive 2 = .ok (.invokevirtual 201, 3) := by decide +kernel
theorem d_Model_isFive_5 : decode c_Model_isFive 5 = .ok (.ifCond .eq 31, 3) := by decide +kernel
theorem d_Model_isFive_8 : decode c_Model_isFive 8 = .ok (.aload_n 0, 1) := by decide +kernel
theorem d_Model_isFive_9 : decode c_Model_isFive 9 = .ok (.iconst 0, 1) := by decide +kernel
theorem d_Model_isFive_10 : decode c_Model_isFive 10 = .ok (.iload_n 1, 1) := by decide +kernel
theorem d_Model_isFive_11 : decode c_Model_isFive 11 = .ok (.iload_n 2, 1) := by decide +kernel
theorem d_Model_isFive_12 : decode c_Model_isFive 12 = .ok (.iload_n 3, 1) := by decide +kernel
theorem d_Model_isFive_13 : decode c_Model_isFive 13 = .ok (.invokevirtual 204, 3) := by decide +kernel
theorem d_Model_isFive_16 : decode c_Model_isFive 16 = .ok (.ifCond .eq 20, 3) := by decide +kernel
theorem d_Model_isFive_19 : decode c_Model_isFive 19 = .ok (.aload_n 0, 1) := by decide +kernel
theorem d_Model_isFive_20 : decode c_Model_isFive 20 = .ok (.iconst 2, 1) := by decide +kernel
theorem d_Model_isFive_21 : decode c_Model_isFive 21 = .ok (.iload_n 3, 1) := by decide +kernel
theorem d_Model_isFive_22 : decode c_Model_isFive 22 = .ok (.iload 4, 2) := by decide +kernel
theorem d_Model_isFive_24 : decode c_Model_isFive 24 = .ok (.iload 5, 2) := by decide +kernel
theorem d_Model_isFive_26 : decode c_Model_isFive 26 = .ok (.invokevirtual 204, 3) := by decide +kernel
theorem d_Model_isFive_29 : decode c_Model_isFive 29 = .ok (.ifCond .eq 7, 3) := by decide +kernel
theorem d_Model_isFive_32 : decode c_Model_isFive 32 = .ok (.iconst 1, 1) := by decide +kernel
theorem d_Model_isFive_33 : decode c_Model_isFive 33 = .ok (.goto 4, 3) := by decide +kernel
theorem d_Model_isFive_36 : decode c_Model_isFive 36 = .ok (.iconst 0, 1) := by decide +kernel
theorem d_Model_isFive_37 : decode c_Model_isFive 37 = .ok (.ireturn, 1) := by decide +kernel
theorem d_Model_isSix_0 : decode c_Model_isSix 0 = .ok (.aload_n 0, 1) := by decide +kernel
theorem d_Model_isSix_1 : decode c_Model_isSix 1 = .ok (.bipush 6, 2) := by decide +kernel
theorem d_Model_isSix_3 : decode c_Model_isSix 3 = .ok (.invokevirtual 201, 3) := by decide +kernel
theorem d_Model_isSix_6 : decode c_Model_isSix 6 = .ok (.ifCond .eq 32, 3) := by decide +kernel
theorem d_Model_isSix_9 : decode c_Model_isSix 9 = .ok (.aload_n 0, 1) := by decide +kernel
theorem d_Model_isSix_10 : decode c_Model_isSix 10 = .ok (.iconst 0, 1) := by decide +kernel
theorem d_Model_isSix_11 : decode c_Model_isSix 11 = .ok (.iload_n 1, 1) := by decide +kernel
theorem d_Model_isSix_12 : decode c_Model_isSix 12 = .ok (.iload_n 2, 1) := by decide +kernel
theorem d_Model_isSix_13 : decode c_Model_isSix 13 = .ok (.iload_n 3, 1) := by decide +kernel
theorem d_Model_isSix_14 : decode c_Model_isSix 14 = .ok (.invokevirtual 204, 3) := by decide +kernel
theorem d_Model_isSix_17 : decode c_Model_isSix 17 = .ok (.ifCond .eq 21, 3) := by decide +kernel
theorem d_Model_isSix_20 : decode c_Model_isSix 20 = .ok (.aload_n 0, 1) := by decide +kernel
theorem d_Model_isSix_21 : decode c_Model_isSix 21 = .ok (.iconst 3, 1) := by decide +kernel
theorem d_Model_isSix_22 : decode c_Model_isSix 22 = .ok (.iload 4, 2) := by decide +kernel
theorem d_Model_isSix_24 : decode c_Model_isSix 24 = .ok (.iload 5, 2) := by decide +kernel
theorem d_Model_isSix_26 : decode c_Model_isSix 26 = .ok (.iload 6, 2) := by decide +kernel
theorem d_Model_isSix_28 : decode c_Model_isSix 28 = .ok (.invokevirtual 204, 3) := by decide +kernel
theorem d_Model_isSix_31 : decode c_Model_isSix 31 = .ok (.ifCond .eq 7, 3) := by decide +kernel
theorem d_Model_isSix_34 : decode c_Model_isSix 34 = .ok (.iconst 1, 1) := by decide +kernel
theorem d_Model_isSix_35 : decode c_Model_isSix 35 = .ok (.goto 4, 3) := by decide +kernel
theorem d_Model_isSix_38 : decode c_Model_isSix 38 = .ok (.iconst 0, 1) := by decide +kernel
theorem d_Model_isSix_39 : decode c_Model_isSix 39 = .ok (.ireturn, 1) := by decide +kernel
theorem d_Model_kindHere_0 : decode c_Model_kindHere 0 = .ok (.aload_n 0, 1) := by decide +kernel
theorem d_Model_kindHere_1 : decode c_Model_kindHere 1 = .ok (.bipush 99, 2) := by decide +kernel
theorem d_Model_kindHere_3 : decode c_Model_kindHere 3 = .ok (.bipush 104, 2) := by decide +kernel
theorem d_Model_kindHere_5 : decode c_Model_kindHere 5 = .ok (.bipush 97, 2) := by decide +kernel
theorem d_Model_kindHere_7 : decode c_Model_kindHere 7 = .ok (.bipush 105, 2) := by decide +kernel
theorem d_Model_kindHere_9 : decode c_Model_kindHere 9 = .ok (.bipush 114, 2) := by decide +kernel
theorem d_Model_kindHere_11 : decode c_Model_kindHere 11 = .ok (.invokevirtual 208, 3) := by decide +kernel
theorem d_Model_kindHere_14 : decode c_Model_kindHere 14 = .ok (.ifCond .eq 5, 3) := by decide +kernel
theorem d_Model_kindHere_17 : decode c_Model_kindHere 17 = .ok (.iconst 0, 1) := by decide +kernel
theorem d_Model_kindHere_18 : decode c_Model_kindHere 18 = .ok (.ireturn, 1) := by decide +kernel
theorem d_Model_kindHere_19 : decode c_Model_kindHere 19 = .ok (.aload_n 0, 1) := by decide +kernel
theorem d_Model_kindHere_20 : decode c_Model_kindHere 20 = .ok (.bipush 110, 2) := by decide +kernel
theorem d_Model_kindHere_22 : decode c_Model_kindHere 22 = .ok (.bipush 97, 2) := by decide +kernel
theorem d_Model_kindHere_24 : decode c_Model_kindHere 24 = .ok (.bipush 109, 2) := by decide +kernel
theorem d_Model_kindHere_26 : decode c_Model_kindHere 26 = .ok (.bipush 101, 2) := by decide +kernel
theorem d_Model_kindHere_28 : decode c_Model_kindHere 28 = .ok (.bipush 100, 2) := by decide +kernel
theorem d_Model_kindHere_30 : decode c_Model_kindHere 30 = .ok (.invokevirtual 208, 3) := by decide +kernel
theorem d_Model_kindHere_33 : decode c_Model_kindHere 33 = .ok (.ifCond .eq 5, 3) := by decide +kernel
theorem d_Model_kindHere_36 : decode c_Model_kindHere 36 = .ok (.iconst 1, 1) := by decide +kernel
theorem d_Model_kindHere_37 : decode c_Model_kindHere 37 = .ok (.ireturn, 1) := by decide +kernel
theorem d_Model_kindHere_38 : decode c_Model_kindHere 38 = .ok (.aload_n 0, 1) := by decide +kernel
theorem d_Model_kindHere_39 : decode c_Model_kindHere 39 = .ok (.bipush 103, 2) := by decide +kernel
theorem d_Model_kindHere_41 : decode c_Model_kindHere 41 = .ok (.bipush 114, 2) := by decide +kernel
theorem d_Model_kindHere_43 : decode c_Model_kindHere 43 = .ok (.bipush 117, 2) := by decide +kernel
theorem d_Model_kindHere_45 : decode c_Model_kindHere 45 = .ok (.bipush 100, 2) := by decide +kernel
theorem d_Model_kindHere_47 : decode c_Model_kindHere 47 = .ok (.bipush 103, 2) := by decide +kernel
theorem d_Model_kindHere_49 : decode c_Model_kindHere 49 = .ok (.bipush 101, 2) := by decide +kernel
theorem d_Model_kindHere_51 : decode c_Model_kindHere 51 = .ok (.invokevirtual 212, 3) := by decide +kernel
theorem d_Model_kindHere_54 : decode c_Model_kindHere 54 = .ok (.ifCond .eq 5, 3) := by decide +kernel
theorem d_Model_kindHere_57 : decode c_Model_kindHere 57 = .ok (.iconst 2, 1) := by decide +kernel
theorem d_Model_kindHere_58 : decode c_Model_kindHere 58 = .ok (.ireturn, 1) := by decide +kernel
theorem d_Model_kindHere_59 : decode c_Model_kindHere 59 = .ok (.aload_n 0, 1) := by decide +kernel
theorem d_Model_kindHere_60 : decode c_Model_kindHere 60 = .ok (.bipush 8, 2) := by decide +kernel
theorem d_Model_kindHere_62 : decode c_Model_kindHere 62 = .ok (.invokevirtual 201, 3) := by decide +kernel
theorem d_Model_kindHere_65 : decode c_Model_kindHere 65 = .ok (.ifCond .eq 47, 3) := by decide +kernel
theorem d_Model_kindHere_68 : decode c_Model_kindHere 68 = .ok (.aload_n 0, 1) := by decide +kernel
theorem d_Model_kindHere_69 : decode c_Model_kindHere 69 = .ok (.iconst 0, 1) := by decide +kernel
theorem d_Model_kindHere_70 : decode c_Model_kindHere 70 = .ok (.bipush 109, 2) := by decide +kernel
theorem d_Model_kindHere_72 : decode c_Model_kindHere 72 = .ok (.bipush 111, 2) := by decide +kernel
theorem d_Model_kindHere_74 : decode c_Model_kindHere 74 = .ok (.bipush 111, 2) := by decide +kernel
theorem d_Model_kindHere_76 : decode c_Model_kindHere 76 = .ok (.invokevirtual 204, 3) := by decide +kernel
theorem d_Model_kindHere_79 : decode c_Model_kindHere 79 = .ok (.ifCond .eq 33, 3) := by decide +kernel
theorem d_Model_kindHere_82 : decode c_Model_kindHere 82 = .ok (.aload_n 0, 1) := by decide +kernel
theorem d_Model_kindHere_83 : decode c_Model_kindHere 83 = .ok (.iconst 3, 1) := by decide +kernel
theorem d_Model_kindHere_84 : decode c_Model_kindHere 84 = .ok (.bipush 110, 2) := by decide +kernel
theorem d_Model_kindHere_86 : decode c_Model_kindHere 86 = .ok (.bipush 108, 2) := by decide +kernel
theorem d_Model_kindHere_88 : decode c_Model_kindHere 88 = .ok (.bipush 101, 2) := by decide +kernel
theorem d_Model_kindHere_90 : decode c_Model_kindHere 90 = .ok (.invokevirtual 204, 3) := by decide +kernel
theorem d_Model_kindHere_93 : decode c_Model_kindHere 93 = .ok (.ifCond .eq 19, 3) := by decide +kernel
theorem d_Model_kindHere_96 : decode c_Model_kindHere 96 = .ok (.aload_n 0, 1) := by decide +kernel
theorem d_Model_kindHere_97 : decode c_Model_kindHere 97 = .ok (.iconst 5, 1) := by decide +kernel
theorem d_Model_kindHere_98 : decode c_Model_kindHere 98 = .ok (.bipush 101, 2) := by decide +kernel
theorem d_Model_kindHere_100 : decode c_Model_kindHere 100 = .ok (.bipush 115, 2) := by decide +kernel
theorem d_Model_kindHere_102 : decode c_Model_kindHere 102 = .ok (.bipush 115, 2) := by decide +kernel
theorem d_Model_kindHere_104 : decode c_Model_kindHere 104 = .ok (.invokevirtual 204, 3) := by decide +kernel
theorem d_Model_kindHere_107 : decode c_Model_kindHere 107 = .ok (.ifCond .eq 5, 3) := by decide +kernel
theorem d_Model_kindHere_110 : decode c_Model_kindHere 110 = .ok (.iconst 3, 1) := by decide +kernel
theorem d_Model_kindHere_111 : decode c_Model_kindHere 111 = .ok (.ireturn, 1) := by decide +kernel
theorem d_Model_kindHere_112 : decode c_Model_kindHere 112 = .ok (.aload_n 0, 1) := by decide +kernel
theorem d_Model_kindHere_113 : decode c_Model_kindHere 113 = .ok (.bipush 116, 2) := by decide +kernel
theorem d_Model_kindHere_115 : decode c_Model_kindHere 115 = .ok (.bipush 119, 2) := by decide +kernel
theorem d_Model_kindHere_117 : decode c_Model_kindHere 117 = .ok (.bipush 105, 2) := by decide +kernel
theorem d_Model_kindHere_119 : decode c_Model_kindHere 119 = .ok (.bipush 99, 2) := by decide +kernel
theorem d_Model_kindHere_121 : decode c_Model_kindHere 121 = .ok (.bipush 101, 2) := by decide +kernel
theorem d_Model_kindHere_123 : decode c_Model_kindHere 123 = .ok (.invokevirtual 208, 3) := by decide +kernel
theorem d_Model_kindHere_126 : decode c_Model_kindHere 126 = .ok (.ifCond .eq 5, 3) := by decide +kernel
theorem d_Model_kindHere_129 : decode c_Model_kindHere 129 = .ok (.iconst 4, 1) := by decide +kernel
theorem d_Model_kindHere_130 : decode c_Model_kindHere 130 = .ok (.ireturn, 1) := by decide +kernel
theorem d_Model_kindHere_131 : decode c_Model_kindHere 131 = .ok (.aload_n 0, 1) := by decide +kernel
theorem d_Model_kindHere_132 : decode c_Model_kindHere 132 = .ok (.bipush 103, 2) := by decide +kernel
theorem d_Model_kindHere_134 : decode c_Model_kindHere 134 = .ok (.bipush 108, 2) := by decide +kernel
theorem d_Model_kindHere_136 : decode c_Model_kindHere 136 = .ok (.bipush 97, 2) := by decide +kernel
theorem d_Model_kindHere_138 : decode c_Model_kindHere 138 = .ok (.bipush 115, 2) := by decide +kernel
theorem d_Model_kindHere_140 : decode c_Model_kindHere 140 = .ok (.bipush 115, 2) := by decide +kernel
theorem d_Model_kindHere_142 : decode c_Model_kindHere 142 = .ok (.invokevirtual 208, 3) := by decide +kernel
theorem d_Model_kindHere_145 : decode c_Model_kindHere 145 = .ok (.ifCond .eq 7, 3) := by decide +kernel
theorem d_Model_kindHere_148 : decode c_Model_kindHere 148 = .ok (.iconst 5, 1) := by decide +kernel
theorem d_Model_kindHere_149 : decode c_Model_kindHere 149 = .ok (.goto 4, 3) := by decide +kernel
theorem d_Model_kindHere_152 : decode c_Model_kindHere 152 = .ok (.iconst (-1), 1) := by decide +kernel
theorem d_Model_kindHere_153 : decode c_Model_kindHere 153 = .ok (.ireturn, 1) := by decide +kernel
theorem d_Model_isNumber_0 : decode c_Model_isNumber 0 = .ok (.aload_n 0, 1) := by decide +kernel
theorem d_Model_isNumber_1 : decode c_Model_isNumber 1 = .ok (.getfield 192, 3) := by decide +kernel
theorem d_Model_isNumber_4 : decode c_Model_isNumber 4 = .ok (.iconst 2, 1) := by decide +kernel
theorem d_Model_isNumber_5 : decode c_Model_isNumber 5 = .ok (.if_icmp .ne 18, 3) := by decide +kernel
theorem d_Model_isNumber_8 : decode c_Model_isNumber 8 = .ok (.aload_n 0, 1) := by decide +kernel
theorem d_Model_isNumber_9 : decode c_Model_isNumber 9 = .ok (.getfield 195, 3) := by decide +kernel
theorem d_Model_isNumber_12 : decode c_Model_isNumber 12 = .ok (.i2l, 1) := by decide +kernel
theorem d_Model_isNumber_13 : decode c_Model_isNumber 13 = .ok (.iload_n 1, 1) := by decide +kernel
theorem d_Model_isNumber_14 : decode c_Model_isNumber 14 = .ok (.i2l, 1) := by decide +kernel
theorem d_Model_isNumber_15 : decode c_Model_isNumber 15 = .ok (.iload_n 2, 1) := by decide +kernel
theorem d_Model_isNumber_16 : decode c_Model_isNumber 16 = .ok (.i2l, 1) := by decide +kernel
theorem d_Model_isNumber_17 : decode c_Model_isNumber 17 = .ok (.invokestatic 54, 3) := by decide +kernel
theorem d_Model_isNumber_20 : decode c_Model_isNumber 20 = .ok (.ifCond .ne 10, 3) := by decide +kernel
theorem d_Model_isNumber_23 : decode c_Model_isNumber 23 = .ok (.aload_n 0, 1) := by decide +kernel
theorem d_Model_isNumber_24 : decode c_Model_isNumber 24 = .ok (.invokevirtual 216, 3) := by decide +kernel
theorem d_Model_isNumber_27 : decode c_Model_isNumber 27 = .ok (.ifCond .eq 7, 3) := by decide +kernel
theorem d_Model_isNumber_30 : decode c_Model_isNumber 30 = .ok (.iconst 1, 1) := by decide +kernel
theorem d_Model_isNumber_31 : decode c_Model_isNumber 31 = .ok (.goto 4, 3) := by decide +kernel
theorem d_Model_isNumber_34 : decode c_Model_isNumber 34 = .ok (.iconst 0, 1) := by decide +kernel
theorem d_Model_isNumber_35 : decode c_Model_isNumber 35 = .ok (.ireturn, 1) := by decide +kernel
theorem d_Model_isTwo_0 : decode c_Model_isTwo 0 = .ok (.aload_n 0, 1) := by decide +kernel
theorem d_Model_isTwo_1 : decode c_Model_isTwo 1 = .ok (.iconst 2, 1) := by decide +kernel
theorem d_Model_isTwo_2 : decode c_Model_isTwo 2 = .ok (.invokevirtual 201, 3) := by decide +kernel
theorem d_Model_isTwo_5 : decode c_Model_isTwo 5 = .ok (.ifCond .eq 33, 3) := by decide +kernel
theorem d_Model_isTwo_8 : decode c_Model_isTwo 8 = .ok (.aload_n 0, 1) := by decide +kernel
theorem d_Model_isTwo_9 : decode c_Model_isTwo 9 = .ok (.aload_n 0, 1) := by decide +kernel
theorem d_Model_isTwo_10 : decode c_Model_isTwo 10 = .ok (.getfield 180, 3) := by decide +kernel
theorem d_Model_isTwo_13 : decode c_Model_isTwo 13 = .ok (.invokevirtual 183, 3) := by decide +kernel
theorem d_Model_isTwo_16 : decode c_Model_isTwo 16 = .ok (.iload_n 1, 1) := by decide +kernel
theorem d_Model_isTwo_17 : decode c_Model_isTwo 17 = .ok (.if_icmp .ne 21, 3) := by decide +kernel
theorem d_Model_isTwo_20 : decode c_Model_isTwo 20 = .ok (.aload_n 0, 1) := by decide +kernel
theorem d_Model_isTwo_21 : decode c_Model_isTwo 21 = .ok (.aload_n 0, 1) := by decide +kernel
theorem d_Model_isTwo_22 : decode c_Model_isTwo 22 = .ok (.getfield 180, 3) := by decide +kernel
theorem d_Model_isTwo_25 : decode c_Model_isTwo 25 = .ok (.iconst 1, 1) := by decide +kernel
theorem d_Model_isTwo_26 : decode c_Model_isTwo 26 = .ok (.iadd, 1) := by decide +kernel
theorem d_Model_isTwo_27 : decode c_Model_isTwo 27 = .ok (.invokevirtual 183, 3) := by decide +kernel
theorem d_Model_isTwo_30 : decode c_Model_isTwo 30 = .ok (.iload_n 2, 1) := by decide +kernel
theorem d_Model_isTwo_31 : decode c_Model_isTwo 31 = .ok (.if_icmp .ne 7, 3) := by decide +kernel
theorem d_Model_isTwo_34 : decode c_Model_isTwo 34 = .ok (.iconst 1, 1) := by decide +kernel
theorem d_Model_isTwo_35 : decode c_Model_isTwo 35 = .ok (.goto 4, 3) := by decide +kernel
theorem d_Model_isTwo_38 : decode c_Model_isTwo 38 = .ok (.iconst 0, 1) := by decide +kernel
theorem d_Model_isTwo_39 : decode c_Model_isTwo 39 = .ok (.ireturn, 1) := by decide +kernel
theorem d_Model_thingHere_0 : decode c_Model_thingHere 0 = .ok (.aload_n 0, 1) := by decide +kernel
theorem d_Model_thingHere_1 : decode c_Model_thingHere 1 = .ok (.getfield 7, 3) := by decide +kernel
theorem d_Model_thingHere_4 : decode c_Model_thingHere 4 = .ok (.iconst 0, 1) := by decide +kernel
theorem d_Model_thingHere_5 : decode c_Model_thingHere 5 = .ok (.iaload, 1) := by decide +kernel
theorem d_Model_thingHere_6 : decode c_Model_thingHere 6 = .ok (.bipush 10, 2) := by decide +kernel
theorem d_Model_thingHere_8 : decode c_Model_thingHere 8 = .ok (.if_icmp .ne 8, 3) := by decide +kernel
theorem d_Model_thingHere_11 : decode c_Model_thingHere 11 = .ok (.aload_n 0, 1) := by decide +kernel
theorem d_Model_thingHere_12 : decode c_Model_thingHere 12 = .ok (.invokevirtual 216, 3) := by decide +kernel
theorem d_Model_thingHere_15 : decode c_Model_thingHere 15 = .ok (.ireturn, 1) := by decide +kernel
theorem d_Model_thingHere_16 : decode c_Model_thingHere 16 = .ok (.aload_n 0, 1) := by decide +kernel
theorem d_Model_thingHere_17 : decode c_Model_thingHere 17 = .ok (.invokevirtual 220, 3) := by decide +kernel
theorem d_Model_thingHere_20 : decode c_Model_thingHere 20 = .ok (.aload_n 0, 1) := by decide +kernel
theorem d_Model_thingHere_21 : decode c_Model_thingHere 21 = .ok (.bipush 111, 2) := by decide +kernel
theorem d_Model_thingHere_23 : decode c_Model_thingHere 23 = .ok (.bipush 102, 2) := by decide +kernel
theorem d_Model_thingHere_25 : decode c_Model_thingHere 25 = .ok (.invokevirtual 223, 3) := by decide +kernel
theorem d_Model_thingHere_28 : decode c_Model_thingHere 28 = .ok (.ifCond .ne 8, 3) := by decide +kernel
theorem d_Model_thingHere_31 : decode c_Model_thingHere 31 = .ok (.aload_n 0, 1) := by decide +kernel
theorem d_Model_thingHere_32 : decode c_Model_thingHere 32 = .ok (.invokevirtual 216, 3) := by decide +kernel
theorem d_Model_thingHere_35 : decode c_Model_thingHere 35 = .ok (.ireturn, 1) := by decide +kernel
theorem d_Model_thingHere_36 : decode c_Model_thingHere 36 = .ok (.aload_n 0, 1) := by decide +kernel
theorem d_Model_thingHere_37 : decode c_Model_thingHere 37 = .ok (.invokevirtual 220, 3) := by decide +kernel
theorem d_Model_thingHere_40 : decode c_Model_thingHere 40 = .ok (.aload_n 0, 1) := by decide +kernel
theorem d_Model_thingHere_41 : decode c_Model_thingHere 41 = .ok (.iconst 0, 1) := by decide +kernel
theorem d_Model_thingHere_42 : decode c_Model_thingHere 42 = .ok (.iconst 3, 1) := by decide +kernel
theorem d_Model_thingHere_43 : decode c_Model_thingHere 43 = .ok (.invokevirtual 226, 3) := by decide +kernel
theorem d_Model_thingHere_46 : decode c_Model_thingHere 46 = .ok (.ifCond .ne 5, 3) := by decide +kernel
theorem d_Model_thingHere_49 : decode c_Model_thingHere 49 = .ok (.iconst 0, 1) := by decide +kernel
theorem d_Model_thingHere_50 : decode c_Model_thingHere 50 = .ok (.ireturn, 1) := by decide +kernel
theorem d_Model_thingHere_51 : decode c_Model_thingHere 51 = .ok (.aload_n 0, 1) := by decide +kernel
theorem d_Model_thingHere_52 : decode c_Model_thingHere 52 = .ok (.iload_n 1, 1) := by decide +kernel
theorem d_Model_thingHere_53 : decode c_Model_thingHere 53 = .ok (.aload_n 0, 1) := by decide +kernel
theorem d_Model_thingHere_54 : decode c_Model_thingHere 54 = .ok (.getfield 195, 3) := by decide +kernel
theorem d_Model_thingHere_57 : decode c_Model_thingHere 57 = .ok (.invokevirtual 91, 3) := by decide +kernel
theorem d_Model_thingHere_60 : decode c_Model_thingHere 60 = .ok (.aload_n 0, 1) := by decide +kernel
theorem d_Model_thingHere_61 : decode c_Model_thingHere 61 = .ok (.getfield 7, 3) := by decide +kernel
theorem d_Model_thingHere_64 : decode c_Model_thingHere 64 = .ok (.iconst 0, 1) := by decide +kernel
theorem d_Model_thingHere_65 : decode c_Model_thingHere 65 = .ok (.iaload, 1) := by decide +kernel
theorem d_Model_thingHere_66 : decode c_Model_thingHere 66 = .ok (.iconst 1, 1) := by decide +kernel
theorem d_Model_thingHere_67 : decode c_Model_thingHere 67 = .ok (.isub, 1) := by decide +kernel
theorem d_Model_thingHere_68 : decode c_Model_thingHere 68 = .ok (.istore_n 2, 1) := by decide +kernel
theorem d_Model_thingHere_69 : decode c_Model_thingHere 69 = .ok (.aload_n 0, 1) := by decide +kernel
theorem d_Model_thingHere_70 : decode c_Model_thingHere 70 = .ok (.invokevirtual 220, 3) := by decide +kernel
theorem d_Model_thingHere_73 : decode c_Model_thingHere 73 = .ok (.aload_n 0, 1) := by decide +kernel
theorem d_Model_thingHere_74 : decode c_Model_thingHere 74 = .ok (.bipush 119, 2) := by decide +kernel
theorem d_Model_thingHere_76 : decode c_Model_thingHere 76 = .ok (.bipush 111, 2) := by decide +kernel
theorem d_Model_thingHere_78 : decode c_Model_thingHere 78 = .ok (.bipush 114, 2) := by decide +kernel
theorem d_Model_thingHere_80 : decode c_Model_thingHere 80 = .ok (.bipush 116, 2) := by decide +kernel
theorem d_Model_thingHere_82 : decode c_Model_thingHere 82 = .ok (.bipush 104, 2) := by decide +kernel
theorem d_Model_thingHere_84 : decode c_Model_thingHere 84 = .ok (.invokevirtual 208, 3) := by decide +kernel
theorem d_Model_thingHere_87 : decode c_Model_thingHere 87 = .ok (.ifCond .eq 38, 3) := by decide +kernel
theorem d_Model_thingHere_90 : decode c_Model_thingHere 90 = .ok (.aload_n 0, 1) := by decide +kernel
theorem d_Model_thingHere_91 : decode c_Model_thingHere 91 = .ok (.invokevirtual 220, 3) := by decide +kernel
theorem d_Model_thingHere_94 : decode c_Model_thingHere 94 = .ok (.aload_n 0, 1) := by decide +kernel
theorem d_Model_thingHere_95 : decode c_Model_thingHere 95 = .ok (.iconst 0, 1) := by decide +kernel
theorem d_Model_thingHere_96 : decode c_Model_thingHere 96 = .ok (.sipush 9999, 3) := by decide +kernel
theorem d_Model_thingHere_99 : decode c_Model_thingHere 99 = .ok (.invokevirtual 226, 3) := by decide +kernel
theorem d_Model_thingHere_102 : decode c_Model_thingHere 102 = .ok (.ifCond .ne 5, 3) := by decide +kernel
theorem d_Model_thingHere_105 : decode c_Model_thingHere 105 = .ok (.iconst 0, 1) := by decide +kernel
theorem d_Model_thingHere_106 : decode c_Model_thingHere 106 = .ok (.ireturn, 1) := by decide +kernel
theorem d_Model_thingHere_107 : decode c_Model_thingHere 107 = .ok (.aload_n 0, 1) := by decide +kernel
theorem d_Model_thingHere_108 : decode c_Model_thingHere 108 = .ok (.getfield 7, 3) := by decide +kernel
theorem d_Model_thingHere_111 : decode c_Model_thingHere 111 = .ok (.iload_n 2, 1) := by decide +kernel
theorem d_Model_thingHere_112 : decode c_Model_thingHere 112 = .ok (.iconst 3, 1) := by decide +kernel
theorem d_Model_thingHere_113 : decode c_Model_thingHere 113 = .ok (.invokestatic 85, 3) := by decide +kernel
theorem d_Model_thingHere_116 : decode c_Model_thingHere 116 = .ok (.aload_n 0, 1) := by decide +kernel
theorem d_Model_thingHere_117 : decode c_Model_thingHere 117 = .ok (.getfield 195, 3) := by decide +kernel
theorem d_Model_thingHere_120 : decode c_Model_thingHere 120 = .ok (.iastore, 1) := by decide +kernel
theorem d_Model_thingHere_121 : decode c_Model_thingHere 121 = .ok (.aload_n 0, 1) := by decide +kernel
theorem d_Model_thingHere_122 : decode c_Model_thingHere 122 = .ok (.invokevirtual 220, 3) := by decide +kernel
theorem d_Model_thingHere_125 : decode c_Model_thingHere 125 = .ok (.aload_n 0, 1) := by decide +kernel
theorem d_Model_thingHere_126 : decode c_Model_thingHere 126 = .ok (.bipush 97, 2) := by decide +kernel
theorem d_Model_thingHere_128 : decode c_Model_thingHere 128 = .ok (.bipush 116, 2) := by decide +kernel
theorem d_Model_thingHere_130 : decode c_Model_thingHere 130 = .ok (.invokevirtual 223, 3) := by decide +kernel
theorem d_Model_thingHere_133 : decode c_Model_thingHere 133 = .ok (.ifCond .ne 5, 3) := by decide +kernel
theorem d_Model_thingHere_136 : decode c_Model_thingHere 136 = .ok (.iconst 1, 1) := by decide +kernel
theorem d_Model_thingHere_137 : decode c_Model_thingHere 137 = .ok (.ireturn, 1) := by decide +kernel
theorem d_Model_thingHere_138 : decode c_Model_thingHere 138 = .ok (.aload_n 0, 1) := by decide +kernel
theorem d_Model_thingHere_139 : decode c_Model_thingHere 139 = .ok (.invokevirtual 220, 3) := by decide +kernel
theorem d_Model_thingHere_142 : decode c_Model_thingHere 142 = .ok (.aload_n 0, 1) := by decide +kernel
theorem d_Model_thingHere_143 : decode c_Model_thingHere 143 = .ok (.iconst 0, 1) := by decide +kernel
theorem d_Model_thingHere_144 : decode c_Model_thingHere 144 = .ok (.bipush 15, 2) := by decide +kernel
theorem d_Model_thingHere_146 : decode c_Model_thingHere 146 = .ok (.invokevirtual 226, 3) := by decide +kernel
theorem d_Model_thingHere_149 : decode c_Model_thingHere 149 = .ok (.ifCond .ne 5, 3) := by decide +kernel
theorem d_Model_thingHere_152 : decode c_Model_thingHere 152 = .ok (.iconst 0, 1) := by decide +kernel
theorem d_Model_thingHere_153 : decode c_Model_thingHere 153 = .ok (.ireturn, 1) := by decide +kernel
theorem d_Model_thingHere_154 : decode c_Model_thingHere 154 = .ok (.aload_n 0, 1) := by decide +kernel
theorem d_Model_thingHere_155 : decode c_Model_thingHere 155 = .ok (.iload_n 2, 1) := by decide +kernel
theorem d_Model_thingHere_156 : decode c_Model_thingHere 156 = .ok (.aload_n 0, 1) := by decide +kernel
theorem d_Model_thingHere_157 : decode c_Model_thingHere 157 = .ok (.getfield 195, 3) := by decide +kernel
theorem d_Model_thingHere_160 : decode c_Model_thingHere 160 = .ok (.invokevirtual 119, 3) := by decide +kernel
theorem d_Model_thingHere_163 : decode c_Model_thingHere 163 = .ok (.aload_n 0, 1) := by decide +kernel
theorem d_Model_thingHere_164 : decode c_Model_thingHere 164 = .ok (.invokevirtual 220, 3) := by decide +kernel
theorem d_Model_thingHere_167 : decode c_Model_thingHere 167 = .ok (.iconst 1, 1) := by decide +kernel
theorem d_Model_thingHere_168 : decode c_Model_thingHere 168 = .ok (.ireturn, 1) := by decide +kernel
theorem d_Model_heightHere_0 : decode c_Model_heightHere 0 = .ok (.aload_n 0, 1) := by decide +kernel
theorem d_Model_heightHere_1 : decode c_Model_heightHere 1 = .ok (.invokevirtual 220, 3) := by decide +kernel
theorem d_Model_heightHere_4 : decode c_Model_heightHere 4 = .ok (.aload_n 0, 1) := by decide +kernel
theorem d_Model_heightHere_5 : decode c_Model_heightHere 5 = .ok (.iconst 0, 1) := by decide +kernel
theorem d_Model_heightHere_6 : decode c_Model_heightHere 6 = .ok (.bipush 15, 2) := by decide +kernel
theorem d_Model_heightHere_8 : decode c_Model_heightHere 8 = .ok (.invokevirtual 226, 3) := by decide +kernel
theorem d_Model_heightHere_11 : decode c_Model_heightHere 11 = .ok (.ifCond .ne 5, 3) := by decide +kernel
theorem d_Model_heightHere_14 : decode c_Model_heightHere 14 = .ok (.iconst 0, 1) := by decide +kernel
theorem d_Model_heightHere_15 : decode c_Model_heightHere 15 = .ok (.ireturn, 1) := by decide +kernel
theorem d_Model_heightHere_16 : decode c_Model_heightHere 16 = .ok (.aload_n 0, 1) := by decide +kernel
theorem d_Model_heightHere_17 : decode c_Model_heightHere 17 = .ok (.getfield 195, 3) := by decide +kernel
theorem d_Model_heightHere_20 : decode c_Model_heightHere 20 = .ok (.istore_n 1, 1) := by decide +kernel
theorem d_Model_heightHere_21 : decode c_Model_heightHere 21 = .ok (.aload_n 0, 1) := by decide +kernel
theorem d_Model_heightHere_22 : decode c_Model_heightHere 22 = .ok (.invokevirtual 220, 3) := by decide +kernel
theorem d_Model_heightHere_25 : decode c_Model_heightHere 25 = .ok (.aload_n 0, 1) := by decide +kernel
theorem d_Model_heightHere_26 : decode c_Model_heightHere 26 = .ok (.iconst 0, 1) := by decide +kernel
theorem d_Model_heightHere_27 : decode c_Model_heightHere 27 = .ok (.bipush 9, 2) := by decide +kernel
theorem d_Model_heightHere_29 : decode c_Model_heightHere 29 = .ok (.invokevirtual 226, 3) := by decide +kernel
theorem d_Model_heightHere_32 : decode c_Model_heightHere 32 = .ok (.ifCond .ne 5, 3) := by decide +kernel
theorem d_Model_heightHere_35 : decode c_Model_heightHere 35 = .ok (.iconst 0, 1) := by decide +kernel
theorem d_Model_heightHere_36 : decode c_Model_heightHere 36 = .ok (.ireturn, 1) := by decide +kernel
theorem d_Model_heightHere_37 : decode c_Model_heightHere 37 = .ok (.aload_n 0, 1) := by decide +kernel
theorem d_Model_heightHere_38 : decode c_Model_heightHere 38 = .ok (.getfield 7, 3) := by decide +kernel
theorem d_Model_heightHere_41 : decode c_Model_heightHere 41 = .ok (.iconst 3, 1) := by decide +kernel
theorem d_Model_heightHere_42 : decode c_Model_heightHere 42 = .ok (.iload_n 1, 1) := by decide +kernel
theorem d_Model_heightHere_43 : decode c_Model_heightHere 43 = .ok (.iadd, 1) := by decide +kernel
theorem d_Model_heightHere_44 : decode c_Model_heightHere 44 = .ok (.aload_n 0, 1) := by decide +kernel
theorem d_Model_heightHere_45 : decode c_Model_heightHere 45 = .ok (.getfield 195, 3) := by decide +kernel
theorem d_Model_heightHere_48 : decode c_Model_heightHere 48 = .ok (.iastore, 1) := by decide +kernel
theorem d_Model_heightHere_49 : decode c_Model_heightHere 49 = .ok (.aload_n 0, 1) := by decide +kernel
theorem d_Model_heightHere_50 : decode c_Model_heightHere 50 = .ok (.invokevirtual 220, 3) := by decide +kernel
theorem d_Model_heightHere_53 : decode c_Model_heightHere 53 = .ok (.iconst 1, 1) := by decide +kernel
theorem d_Model_heightHere_54 : decode c_Model_heightHere 54 = .ok (.ireturn, 1) := by decide +kernel
theorem d_Model_interestHere_0 : decode c_Model_interestHere 0 = .ok (.aload_n 0, 1) := by decide +kernel
theorem d_Model_interestHere_1 : decode c_Model_interestHere 1 = .ok (.invokevirtual 220, 3) := by decide +kernel
theorem d_Model_interestHere_4 : decode c_Model_interestHere 4 = .ok (.aload_n 0, 1) := by decide +kernel
theorem d_Model_interestHere_5 : decode c_Model_interestHere 5 = .ok (.iconst 0, 1) := by decide +kernel
theorem d_Model_interestHere_6 : decode c_Model_interestHere 6 = .ok (.bipush 50, 2) := by decide +kernel
theorem d_Model_interestHere_8 : decode c_Model_interestHere 8 = .ok (.invokevirtual 226, 3) := by decide +kernel
theorem d_Model_interestHere_11 : decode c_Model_interestHere 11 = .ok (.ifCond .ne 5, 3) := by decide +kernel
theorem d_Model_interestHere_14 : decode c_Model_interestHere 14 = .ok (.iconst 0, 1) := by decide +kernel
theorem d_Model_interestHere_15 : decode c_Model_interestHere 15 = .ok (.ireturn, 1) := by decide +kernel
theorem d_Model_interestHere_16 : decode c_Model_interestHere 16 = .ok (.aload_n 0, 1) := by decide +kernel
theorem d_Model_interestHere_17 : decode c_Model_interestHere 17 = .ok (.getfield 7, 3) := by decide +kernel
theorem d_Model_interestHere_20 : decode c_Model_interestHere 20 = .ok (.iconst 2, 1) := by decide +kernel
theorem d_Model_interestHere_21 : decode c_Model_interestHere 21 = .ok (.aload_n 0, 1) := by decide +kernel
theorem d_Model_interestHere_22 : decode c_Model_interestHere 22 = .ok (.getfield 195, 3) := by decide +kernel
theorem d_Model_interestHere_25 : decode c_Model_interestHere 25 = .ok (.iastore, 1) := by decide +kernel
theorem d_Model_interestHere_26 : decode c_Model_interestHere 26 = .ok (.aload_n 0, 1) := by decide +kernel
theorem d_Model_interestHere_27 : decode c_Model_interestHere 27 = .ok (.invokevirtual 220, 3) := by decide +kernel
theorem d_Model_interestHere_30 : decode c_Model_interestHere 30 = .ok (.iconst 1, 1) := by decide +kernel
theorem d_Model_interestHere_31 : decode c_Model_interestHere 31 = .ok (.ireturn, 1) := by decide +kernel
theorem d_Model_itemHere_0 : decode c_Model_itemHere 0 = .ok (.aload_n 0, 1) := by decide +kernel
theorem d_Model_itemHere_1 : decode c_Model_itemHere 1 = .ok (.invokevirtual 229, 3) := by decide +kernel
theorem d_Model_itemHere_4 : decode c_Model_itemHere 4 = .ok (.istore_n 1, 1) := by decide +kernel
theorem d_Model_itemHere_5 : decode c_Model_itemHere 5 = .ok (.iload_n 1, 1) := by decide +kernel
theorem d_Model_itemHere_6 : decode c_Model_itemHere 6 = .ok (.ifCond .lt 9, 3) := by decide +kernel
theorem d_Model_itemHere_9 : decode c_Model_itemHere 9 = .ok (.aload_n 0, 1) := by decide +kernel
theorem d_Model_itemHere_10 : decode c_Model_itemHere 10 = .ok (.iload_n 1, 1) := by decide +kernel
theorem d_Model_itemHere_11 : decode c_Model_itemHere 11 = .ok (.invokevirtual 233, 3) := by decide +kernel
theorem d_Model_itemHere_14 : decode c_Model_itemHere 14 = .ok (.ireturn, 1) := by decide +kernel
theorem d_Model_itemHere_15 : decode c_Model_itemHere 15 = .ok (.aload_n 0, 1) := by decide +kernel
theorem d_Model_itemHere_16 : decode c_Model_itemHere 16 = .ok (.bipush 104, 2) := by decide +kernel
theorem d_Model_itemHere_18 : decode c_Model_itemHere 18 = .ok (.bipush 101, 2) := by decide +kernel
theorem d_Model_itemHere_20 : decode c_Model_itemHere 20 = .ok (.bipush 105, 2) := by decide +kernel
theorem d_Model_itemHere_22 : decode c_Model_itemHere 22 = .ok (.bipush 103, 2) := by decide +kernel
theorem d_Model_itemHere_24 : decode c_Model_itemHere 24 = .ok (.bipush 104, 2) := by decide +kernel
theorem d_Model_itemHere_26 : decode c_Model_itemHere 26 = .ok (.bipush 116, 2) := by decide +kernel
theorem d_Model_itemHere_28 : decode c_Model_itemHere 28 = .ok (.invokevirtual 212, 3) := by decide +kernel
theorem d_Model_itemHere_31 : decode c_Model_itemHere 31 = .ok (.ifCond .eq 8, 3) := by decide +kernel
theorem d_Model_itemHere_34 : decode c_Model_itemHere 34 = .ok (.aload_n 0, 1) := by decide +kernel
theorem d_Model_itemHere_35 : decode c_Model_itemHere 35 = .ok (.invokevirtual 236, 3) := by decide +kernel
theorem d_Model_itemHere_38 : decode c_Model_itemHere 38 = .ok (.ireturn, 1) := by decide +kernel
theorem d_Model_itemHere_39 : decode c_Model_itemHere 39 = .ok (.aload_n 0, 1) := by decide +kernel
theorem d_Model_itemHere_40 : decode c_Model_itemHere 40 = .ok (.bipush 8, 2) := by decide +kernel
theorem d_Model_itemHere_42 : decode c_Model_itemHere 42 = .ok (.invokevirtual 201, 3) := by decide +kernel
theorem d_Model_itemHere_45 : decode c_Model_itemHere 45 = .ok (.ifCond .eq 52, 3) := by decide +kernel
theorem d_Model_itemHere_48 : decode c_Model_itemHere 48 = .ok (.aload_n 0, 1) := by decide +kernel
theorem d_Model_itemHere_49 : decode c_Model_itemHere 49 = .ok (.iconst 0, 1) := by decide +kernel
theorem d_Model_itemHere_50 : decode c_Model_itemHere 50 = .ok (.bipush 105, 2) := by decide +kernel
theorem d_Model_itemHere_52 : decode c_Model_itemHere 52 = .ok (.bipush 110, 2) := by decide +kernel
theorem d_Model_itemHere_54 : decode c_Model_itemHere 54 = .ok (.bipush 116, 2) := by decide +kernel
theorem d_Model_itemHere_56 : decode c_Model_itemHere 56 = .ok (.invokevirtual 204, 3) := by decide +kernel
theorem d_Model_itemHere_59 : decode c_Model_itemHere 59 = .ok (.ifCond .eq 38, 3) := by decide +kernel
theorem d_Model_itemHere_62 : decode c_Model_itemHere 62 = .ok (.aload_n 0, 1) := by decide +kernel
theorem d_Model_itemHere_63 : decode c_Model_itemHere 63 = .ok (.iconst 3, 1) := by decide +kernel
theorem d_Model_itemHere_64 : decode c_Model_itemHere 64 = .ok (.bipush 101, 2) := by decide +kernel
theorem d_Model_itemHere_66 : decode c_Model_itemHere 66 = .ok (.bipush 114, 2) := by decide +kernel
theorem d_Model_itemHere_68 : decode c_Model_itemHere 68 = .ok (.bipush 101, 2) := by decide +kernel
theorem d_Model_itemHere_70 : decode c_Model_itemHere 70 = .ok (.invokevirtual 204, 3) := by decide +kernel
theorem d_Model_itemHere_73 : decode c_Model_itemHere 73 = .ok (.ifCond .eq 24, 3) := by decide +kernel
theorem d_Model_itemHere_76 : decode c_Model_itemHere 76 = .ok (.aload_n 0, 1) := by decide +kernel
theorem d_Model_itemHere_77 : decode c_Model_itemHere 77 = .ok (.iconst 5, 1) := by decide +kernel
theorem d_Model_itemHere_78 : decode c_Model_itemHere 78 = .ok (.bipush 101, 2) := by decide +kernel
theorem d_Model_itemHere_80 : decode c_Model_itemHere 80 = .ok (.bipush 115, 2) := by decide +kernel
theorem d_Model_itemHere_82 : decode c_Model_itemHere 82 = .ok (.bipush 116, 2) := by decide +kernel
theorem d_Model_itemHere_84 : decode c_Model_itemHere 84 = .ok (.invokevirtual 204, 3) := by decide +kernel
theorem d_Model_itemHere_87 : decode c_Model_itemHere 87 = .ok (.ifCond .eq 10, 3) := by decide +kernel
theorem d_Model_itemHere_90 : decode c_Model_itemHere 90 = .ok (.aload_n 0, 1) := by decide +kernel
theorem d_Model_itemHere_91 : decode c_Model_itemHere 91 = .ok (.invokevirtual 239, 3) := by decide +kernel
theorem d_Model_itemHere_94 : decode c_Model_itemHere 94 = .ok (.goto 7, 3) := by decide +kernel
theorem d_Model_itemHere_97 : decode c_Model_itemHere 97 = .ok (.aload_n 0, 1) := by decide +kernel
theorem d_Model_itemHere_98 : decode c_Model_itemHere 98 = .ok (.invokevirtual 216, 3) := by decide +kernel
theorem d_Model_itemHere_101 : decode c_Model_itemHere 101 = .ok (.ireturn, 1) := by decide +kernel
theorem d_Model_shore_0 : decode c_Model_shore 0 = .ok (.aload_n 0, 1) := by decide +kernel
theorem d_Model_shore_1 : decode c_Model_shore 1 = .ok (.getfield 7, 3) := by decide +kernel
theorem d_Model_shore_4 : decode c_Model_shore 4 = .ok (.aload_n 0, 1) := by decide +kernel
theorem d_Model_shore_5 : decode c_Model_shore 5 = .ok (.getfield 16, 3) := by decide +kernel
theorem d_Model_shore_8 : decode c_Model_shore 8 = .ok (.invokestatic 148, 3) := by decide +kernel
theorem d_Model_shore_11 : decode c_Model_shore 11 = .ok (.aload_n 0, 1) := by decide +kernel
theorem d_Model_shore_12 : decode c_Model_shore 12 = .ok (.iconst 0, 1) := by decide +kernel
theorem d_Model_shore_13 : decode c_Model_shore 13 = .ok (.putfield 177, 3) := by decide +kernel
theorem d_Model_shore_16 : decode c_Model_shore 16 = .ok (.aload_n 0, 1) := by decide +kernel
theorem d_Model_shore_17 : decode c_Model_shore 17 = .ok (.invokevirtual 220, 3) := by decide +kernel
theorem d_Model_shore_20 : decode c_Model_shore 20 = .ok (.iconst 1, 1) := by decide +kernel
theorem d_Model_shore_21 : decode c_Model_shore 21 = .ok (.istore_n 1, 1) := by decide +kernel
theorem d_Model_shore_22 : decode c_Model_shore 22 = .ok (.aload_n 0, 1) := by decide +kernel
theorem d_Model_shore_23 : decode c_Model_shore 23 = .ok (.invokevirtual 242, 3) := by decide +kernel
theorem d_Model_shore_26 : decode c_Model_shore 26 = .ok (.istore_n 2, 1) := by decide +kernel
theorem d_Model_shore_27 : decode c_Model_shore 27 = .ok (.iload_n 2, 1) := by decide +kernel
theorem d_Model_shore_28 : decode c_Model_shore 28 = .ok (.ifCond .eq 26, 3) := by decide +kernel
theorem d_Model_shore_31 : decode c_Model_shore 31 = .ok (.aload_n 0, 1) := by decide +kernel
theorem d_Model_shore_32 : decode c_Model_shore 32 = .ok (.getfield 192, 3) := by decide +kernel
theorem d_Model_shore_35 : decode c_Model_shore 35 = .ok (.iconst 3, 1) := by decide +kernel
theorem d_Model_shore_36 : decode c_Model_shore 36 = .ok (.if_icmp .ne 18, 3) := by decide +kernel
theorem d_Model_shore_39 : decode c_Model_shore 39 = .ok (.aload_n 0, 1) := by decide +kernel
theorem d_Model_shore_40 : decode c_Model_shore 40 = .ok (.invokevirtual 220, 3) := by decide +kernel
theorem d_Model_shore_43 : decode c_Model_shore 43 = .ok (.aload_n 0, 1) := by decide +kernel
theorem d_Model_shore_44 : decode c_Model_shore 44 = .ok (.invokevirtual 242, 3) := by decide +kernel
theorem d_Model_shore_47 : decode c_Model_shore 47 = .ok (.istore_n 2, 1) := by decide +kernel
theorem d_Model_shore_48 : decode c_Model_shore 48 = .ok (.iinc 1 1, 3) := by decide +kernel
theorem d_Model_shore_51 : decode c_Model_shore 51 = .ok (.goto (-24), 3) := by decide +kernel
theorem d_Model_shore_54 : decode c_Model_shore 54 = .ok (.iload_n 2, 1) := by decide +kernel
theorem d_Model_shore_55 : decode c_Model_shore 55 = .ok (.ifCond .eq 21, 3) := by decide +kernel
theorem d_Model_shore_58 : decode c_Model_shore 58 = .ok (.aload_n 0, 1) := by decide +kernel
theorem d_Model_shore_59 : decode c_Model_shore 59 = .ok (.getfield 192, 3) := by decide +kernel
theorem d_Model_shore_62 : decode c_Model_shore 62 = .ok (.ifCond .eq 10, 3) := by decide +kernel
theorem d_Model_shore_65 : decode c_Model_shore 65 = .ok (.aload_n 0, 1) := by decide +kernel
theorem d_Model_shore_66 : decode c_Model_shore 66 = .ok (.invokevirtual 216, 3) := by decide +kernel
theorem d_Model_shore_69 : decode c_Model_shore 69 = .ok (.ifCond .eq 7, 3) := by decide +kernel
theorem d_Model_shore_72 : decode c_Model_shore 72 = .ok (.iconst 1, 1) := by decide +kernel
theorem d_Model_shore_73 : decode c_Model_shore 73 = .ok (.goto 4, 3) := by decide +kernel
theorem d_Model_shore_76 : decode c_Model_shore 76 = .ok (.iconst 0, 1) := by decide +kernel
theorem d_Model_shore_77 : decode c_Model_shore 77 = .ok (.istore_n 2, 1) := by decide +kernel
theorem d_Model_shore_78 : decode c_Model_shore 78 = .ok (.aload_n 0, 1) := by decide +kernel
theorem d_Model_shore_79 : decode c_Model_shore 79 = .ok (.iconst 0, 1) := by decide +kernel
theorem d_Model_shore_80 : decode c_Model_shore 80 = .ok (.putfield 173, 3) := by decide +kernel
theorem d_Model_shore_83 : decode c_Model_shore 83 = .ok (.iload_n 2, 1) := by decide +kernel
theorem d_Model_shore_84 : decode c_Model_shore 84 = .ok (.ifCond .ne 14, 3) := by decide +kernel
theorem d_Model_shore_87 : decode c_Model_shore 87 = .ok (.aload_n 0, 1) := by decide +kernel
theorem d_Model_shore_88 : decode c_Model_shore 88 = .ok (.getfield 16, 3) := by decide +kernel
theorem d_Model_shore_91 : decode c_Model_shore 91 = .ok (.aload_n 0, 1) := by decide +kernel
theorem d_Model_shore_92 : decode c_Model_shore 92 = .ok (.getfield 7, 3) := by decide +kernel
theorem d_Model_shore_95 : decode c_Model_shore 95 = .ok (.invokestatic 148, 3) := by decide +kernel
theorem d_Model_shore_98 : decode c_Model_shore 98 = .ok (.iload_n 2, 1) := by decide +kernel
theorem d_Model_shore_99 : decode c_Model_shore 99 = .ok (.ifCond .eq 7, 3) := by decide +kernel
theorem d_Model_shore_102 : decode c_Model_shore 102 = .ok (.iload_n 1, 1) := by decide +kernel
theorem d_Model_shore_103 : decode c_Model_shore 103 = .ok (.goto 9, 3) := by decide +kernel
theorem d_Model_shore_106 : decode c_Model_shore 106 = .ok (.iconst (-1), 1) := by decide +kernel
theorem d_Model_shore_107 : decode c_Model_shore 107 = .ok (.aload_n 0, 1) := by decide +kernel
theorem d_Model_shore_108 : decode c_Model_shore 108 = .ok (.getfield 198, 3) := by decide +kernel
theorem d_Model_shore_111 : decode c_Model_shore 111 = .ok (.isub, 1) := by decide +kernel
theorem d_Model_shore_112 : decode c_Model_shore 112 = .ok (.ireturn, 1) := by decide +kernel
theorem d_Model_isSheet_0 : decode c_Model_isSheet 0 = .ok (.iload_n 0, 1) := by decide +kernel
theorem d_Model_isSheet_1 : decode c_Model_isSheet 1 = .ok (.ifCond .lt 12, 3) := by decide +kernel
theorem d_Model_isSheet_4 : decode c_Model_isSheet 4 = .ok (.iload_n 0, 1) := by decide +kernel
theorem d_Model_isSheet_5 : decode c_Model_isSheet 5 = .ok (.iconst 4, 1) := by decide +kernel
theorem d_Model_isSheet_6 : decode c_Model_isSheet 6 = .ok (.if_icmp .ge 7, 3) := by decide +kernel
theorem d_Model_isSheet_9 : decode c_Model_isSheet 9 = .ok (.iconst 1, 1) := by decide +kernel
theorem d_Model_isSheet_10 : decode c_Model_isSheet 10 = .ok (.goto 4, 3) := by decide +kernel
theorem d_Model_isSheet_13 : decode c_Model_isSheet 13 = .ok (.iconst 0, 1) := by decide +kernel
theorem d_Model_isSheet_14 : decode c_Model_isSheet 14 = .ok (.ireturn, 1) := by decide +kernel
theorem d_Model_narrow_0 : decode c_Model_narrow 0 = .ok (.iload_n 0, 1) := by decide +kernel
theorem d_Model_narrow_1 : decode c_Model_narrow 1 = .ok (.bipush 8, 2) := by decide +kernel
theorem d_Model_narrow_3 : decode c_Model_narrow 3 = .ok (.if_icmp .ne 10, 3) := by decide +kernel
theorem d_Model_narrow_6 : decode c_Model_narrow 6 = .ok (.lload_n 1, 1) := by decide +kernel
theorem d_Model_narrow_7 : decode c_Model_narrow 7 = .ok (.l2i, 1) := by decide +kernel
theorem d_Model_narrow_8 : decode c_Model_narrow 8 = .ok (.i2b, 1) := by decide +kernel
theorem d_Model_narrow_9 : decode c_Model_narrow 9 = .ok (.i2l, 1) := by decide +kernel
theorem d_Model_narrow_10 : decode c_Model_narrow 10 = .ok (.goto 17, 3) := by decide +kernel
theorem d_Model_narrow_13 : decode c_Model_narrow 13 = .ok (.iload_n 0, 1) := by decide +kernel
theorem d_Model_narrow_14 : decode c_Model_narrow 14 = .ok (.bipush 16, 2) := by decide +kernel
theorem d_Model_narrow_16 : decode c_Model_narrow 16 = .ok (.if_icmp .ne 10, 3) := by decide +kernel
theorem d_Model_narrow_19 : decode c_Model_narrow 19 = .ok (.lload_n 1, 1) := by decide +kernel
theorem d_Model_narrow_20 : decode c_Model_narrow 20 = .ok (.l2i, 1) := by decide +kernel
theorem d_Model_narrow_21 : decode c_Model_narrow 21 = .ok (.i2s, 1) := by decide +kernel
theorem d_Model_narrow_22 : decode c_Model_narrow 22 = .ok (.i2l, 1) := by decide +kernel
theorem d_Model_narrow_23 : decode c_Model_narrow 23 = .ok (.goto 4, 3) := by decide +kernel
theorem d_Model_narrow_26 : decode c_Model_narrow 26 = .ok (.lload_n 1, 1) := by decide +kernel
theorem d_Model_narrow_27 : decode c_Model_narrow 27 = .ok (.lreturn, 1) := by decide +kernel
theorem d_Model_sheet_0 : decode c_Model_sheet 0 = .ok (.iload_n 1, 1) := by decide +kernel
theorem d_Model_sheet_1 : decode c_Model_sheet 1 = .ok (.invokestatic 245, 3) := by decide +kernel
theorem d_Model_sheet_4 : decode c_Model_sheet 4 = .ok (.ifCond .eq 25, 3) := by decide +kernel
theorem d_Model_sheet_7 : decode c_Model_sheet 7 = .ok (.iload_n 2, 1) := by decide +kernel
theorem d_Model_sheet_8 : decode c_Model_sheet 8 = .ok (.ifCond .eq 28, 3) := by decide +kernel
theorem d_Model_sheet_11 : decode c_Model_sheet 11 = .ok (.iload_n 2, 1) := by decide +kernel
theorem d_Model_sheet_12 : decode c_Model_sheet 12 = .ok (.bipush 8, 2) := by decide +kernel
theorem d_Model_sheet_14 : decode c_Model_sheet 14 = .ok (.if_icmp .eq 22, 3) := by decide +kernel
theorem d_Model_sheet_17 : decode c_Model_sheet 17 = .ok (.iload_n 2, 1) := by decide +kernel
theorem d_Model_sheet_18 : decode c_Model_sheet 18 = .ok (.bipush 16, 2) := by decide +kernel
theorem d_Model_sheet_20 : decode c_Model_sheet 20 = .ok (.if_icmp .eq 16, 3) := by decide +kernel
theorem d_Model_sheet_23 : decode c_Model_sheet 23 = .ok (.iload_n 2, 1) := by decide +kernel
theorem d_Model_sheet_24 : decode c_Model_sheet 24 = .ok (.bipush 64, 2) := by decide +kernel
theorem d_Model_sheet_26 : decode c_Model_sheet 26 = .ok (.if_icmp .eq 10, 3) := by decide +kernel
theorem d_Model_sheet_29 : decode c_Model_sheet 29 = .ok (.aload_n 0, 1) := by decide +kernel
theorem d_Model_sheet_30 : decode c_Model_sheet 30 = .ok (.ldc 38, 2) := by decide +kernel
theorem d_Model_sheet_32 : decode c_Model_sheet 32 = .ok (.invokevirtual 44, 3) := by decide +kernel
theorem d_Model_sheet_35 : decode c_Model_sheet 35 = .ok (.ireturn, 1) := by decide +kernel
theorem d_Model_sheet_36 : decode c_Model_sheet 36 = .ok (.iload_n 3, 1) := by decide +kernel
theorem d_Model_sheet_37 : decode c_Model_sheet 37 = .ok (.ifCond .ge 10, 3) := by decide +kernel
theorem d_Model_sheet_40 : decode c_Model_sheet 40 = .ok (.aload_n 0, 1) := by decide +kernel
theorem d_Model_sheet_41 : decode c_Model_sheet 41 = .ok (.ldc 248, 2) := by decide +kernel
theorem d_Model_sheet_43 : decode c_Model_sheet 43 = .ok (.invokevirtual 44, 3) := by decide +kernel
theorem d_Model_sheet_46 : decode c_Model_sheet 46 = .ok (.ireturn, 1) := by decide +kernel
theorem d_Model_sheet_47 : decode c_Model_sheet 47 = .ok (.iload_n 3, 1) := by decide +kernel
theorem d_Model_sheet_48 : decode c_Model_sheet 48 = .ok (.bipush 40, 2) := by decide +kernel
theorem d_Model_sheet_50 : decode c_Model_sheet 50 = .ok (.if_icmp .le 10, 3) := by decide +kernel
theorem d_Model_sheet_53 : decode c_Model_sheet 53 = .ok (.aload_n 0, 1) := by decide +kernel
theorem d_Model_sheet_54 : decode c_Model_sheet 54 = .ok (.ldc 38, 2) := by decide +kernel
theorem d_Model_sheet_56 : decode c_Model_sheet 56 = .ok (.invokevirtual 44, 3) := by decide +kernel
theorem d_Model_sheet_59 : decode c_Model_sheet 59 = .ok (.ireturn, 1) := by decide +kernel
theorem d_Model_sheet_60 : decode c_Model_sheet 60 = .ok (.aload_n 0, 1) := by decide +kernel
theorem d_Model_sheet_61 : decode c_Model_sheet 61 = .ok (.getfield 28, 3) := by decide +kernel
theorem d_Model_sheet_64 : decode c_Model_sheet 64 = .ok (.iload_n 1, 1) := by decide +kernel
theorem d_Model_sheet_65 : decode c_Model_sheet 65 = .ok (.iload_n 2, 1) := by decide +kernel
theorem d_Model_sheet_66 : decode c_Model_sheet 66 = .ok (.ifCond .ne 7, 3) := by decide +kernel
theorem d_Model_sheet_69 : decode c_Model_sheet 69 = .ok (.iconst (-1), 1) := by decide +kernel
theorem d_Model_sheet_70 : decode c_Model_sheet 70 = .ok (.goto 4, 3) := by decide +kernel
theorem d_Model_sheet_73 : decode c_Model_sheet 73 = .ok (.iload_n 2, 1) := by decide +kernel
theorem d_Model_sheet_74 : decode c_Model_sheet 74 = .ok (.iastore, 1) := by decide +kernel
theorem d_Model_sheet_75 : decode c_Model_sheet 75 = .ok (.aload_n 0, 1) := by decide +kernel
theorem d_Model_sheet_76 : decode c_Model_sheet 76 = .ok (.getfield 31, 3) := by decide +kernel
theorem d_Model_sheet_79 : decode c_Model_sheet 79 = .ok (.iload_n 1, 1) := by decide +kernel
theorem d_Model_sheet_80 : decode c_Model_sheet 80 = .ok (.iload_n 2, 1) := by decide +kernel
theorem d_Model_sheet_81 : decode c_Model_sheet 81 = .ok (.ifCond .ne 7, 3) := by decide +kernel
theorem d_Model_sheet_84 : decode c_Model_sheet 84 = .ok (.iconst 0, 1) := by decide +kernel
theorem d_Model_sheet_85 : decode c_Model_sheet 85 = .ok (.goto 4, 3) := by decide +kernel
theorem d_Model_sheet_88 : decode c_Model_sheet 88 = .ok (.iload_n 3, 1) := by decide +kernel
theorem d_Model_sheet_89 : decode c_Model_sheet 89 = .ok (.iastore, 1) := by decide +kernel
theorem d_Model_sheet_90 : decode c_Model_sheet 90 = .ok (.iconst 0, 1) := by decide +kernel
theorem d_Model_sheet_91 : decode c_Model_sheet 91 = .ok (.istore 4, 2) := by decide +kernel
theorem d_Model_sheet_93 : decode c_Model_sheet 93 = .ok (.iload 4, 2) := by decide +kernel
theorem d_Model_sheet_95 : decode c_Model_sheet 95 = .ok (.bipush 40, 2) := by decide +kernel
theorem d_Model_sheet_97 : decode c_Model_sheet 97 = .ok (.if_icmp .ge 22, 3) := by decide +kernel
theorem d_Model_sheet_100 : decode c_Model_sheet 100 = .ok (.aload_n 0, 1) := by decide +kernel
theorem d_Model_sheet_101 : decode c_Model_sheet 101 = .ok (.getfield 34, 3) := by decide +kernel
theorem d_Model_sheet_104 : decode c_Model_sheet 104 = .ok (.bipush 40, 2) := by decide +kernel
theorem d_Model_sheet_106 : decode c_Model_sheet 106 = .ok (.iload_n 1, 1) := by decide +kernel
theorem d_Model_sheet_107 : decode c_Model_sheet 107 = .ok (.imul, 1) := by decide +kernel
theorem d_Model_sheet_108 : decode c_Model_sheet 108 = .ok (.iload 4, 2) := by decide +kernel
theorem d_Model_sheet_110 : decode c_Model_sheet 110 = .ok (.iadd, 1) := by decide +kernel
theorem d_Model_sheet_111 : decode c_Model_sheet 111 = .ok (.lconst 0, 1) := by decide +kernel
theorem d_Model_sheet_112 : decode c_Model_sheet 112 = .ok (.lastore, 1) := by decide +kernel
theorem d_Model_sheet_113 : decode c_Model_sheet 113 = .ok (.iinc 4 1, 3) := by decide +kernel
theorem d_Model_sheet_116 : decode c_Model_sheet 116 = .ok (.goto (-23), 3) := by decide +kernel
theorem d_Model_sheet_119 : decode c_Model_sheet 119 = .ok (.aload_n 0, 1) := by decide +kernel
theorem d_Model_sheet_120 : decode c_Model_sheet 120 = .ok (.getfield 31, 3) := by decide +kernel
theorem d_Model_sheet_123 : decode c_Model_sheet 123 = .ok (.iload_n 1, 1) := by decide +kernel
theorem d_Model_sheet_124 : decode c_Model_sheet 124 = .ok (.iaload, 1) := by decide +kernel
theorem d_Model_sheet_125 : decode c_Model_sheet 125 = .ok (.ireturn, 1) := by decide +kernel
theorem d_Model_write_0 : decode c_Model_write 0 = .ok (.iload_n 1, 1) := by decide +kernel
theorem d_Model_write_1 : decode c_Model_write 1 = .ok (.invokestatic 245, 3) := by decide +kernel
theorem d_Model_write_4 : decode c_Model_write 4 = .ok (.ifCond .ne 11, 3) := by decide +kernel
theorem d_Model_write_7 : decode c_Model_write 7 = .ok (.aload_n 0, 1) := by decide +kernel
theorem d_Model_write_8 : decode c_Model_write 8 = .ok (.ldc 38, 2) := by decide +kernel
theorem d_Model_write_10 : decode c_Model_write 10 = .ok (.invokevirtual 44, 3) := by decide +kernel
theorem d_Model_write_13 : decode c_Model_write 13 = .ok (.i2l, 1) := by decide +kernel
theorem d_Model_write_14 : decode c_Model_write 14 = .ok (.lreturn, 1) := by decide +kernel
theorem d_Model_write_15 : decode c_Model_write 15 = .ok (.aload_n 0, 1) := by decide +kernel
theorem d_Model_write_16 : decode c_Model_write 16 = .ok (.getfield 28, 3) := by decide +kernel
theorem d_Model_write_19 : decode c_Model_write 19 = .ok (.iload_n 1, 1) := by decide +kernel
theorem d_Model_write_20 : decode c_Model_write 20 = .ok (.iaload, 1) := by decide +kernel
theorem d_Model_write_21 : decode c_Model_write 21 = .ok (.ifCond .ge 11, 3) := by decide +kernel
theorem d_Model_write_24 : decode c_Model_write 24 = .ok (.aload_n 0, 1) := by decide +kernel
theorem d_Model_write_25 : decode c_Model_write 25 = .ok (.ldc 249, 2) := by decide +kernel
theorem d_Model_write_27 : decode c_Model_write 27 = .ok (.invokevirtual 44, 3) := by decide +kernel
theorem d_Model_write_30 : decode c_Model_write 30 = .ok (.i2l, 1) := by decide +kernel
theorem d_Model_write_31 : decode c_Model_write 31 = .ok (.lreturn, 1) := by decide +kernel
theorem d_Model_write_32 : decode c_Model_write 32 = .ok (.iload_n 2, 1) := by decide +kernel
theorem d_Model_write_33 : decode c_Model_write 33 = .ok (.i2l, 1) := by decide +kernel
theorem d_Model_write_34 : decode c_Model_write 34 = .ok (.lconst 0, 1) := by decide +kernel
theorem d_Model_write_35 : decode c_Model_write 35 = .ok (.aload_n 0, 1) := by decide +kernel
theorem d_Model_write_36 : decode c_Model_write 36 = .ok (.getfield 31, 3) := by decide +kernel
theorem d_Model_write_39 : decode c_Model_write 39 = .ok (.iload_n 1, 1) := by decide +kernel
theorem d_Model_write_40 : decode c_Model_write 40 = .ok (.iaload, 1) := by decide +kernel
theorem d_Model_write_41 : decode c_Model_write 41 = .ok (.iconst 1, 1) := by decide +kernel
theorem d_Model_write_42 : decode c_Model_write 42 = .ok (.isub, 1) := by decide +kernel
theorem d_Model_write_43 : decode c_Model_write 43 = .ok (.i2l, 1) := by decide +kernel
theorem d_Model_write_44 : decode c_Model_write 44 = .ok (.invokestatic 54, 3) := by decide +kernel
theorem d_Model_write_47 : decode c_Model_write 47 = .ok (.ifCond .ne 11, 3) := by decide +kernel
theorem d_Model_write_50 : decode c_Model_write 50 = .ok (.aload_n 0, 1) := by decide +kernel
theorem d_Model_write_51 : decode c_Model_write 51 = .ok (.ldc 38, 2) := by decide +kernel
theorem d_Model_write_53 : decode c_Model_write 53 = .ok (.invokevirtual 44, 3) := by decide +kernel
theorem d_Model_write_56 : decode c_Model_write 56 = .ok (.i2l, 1) := by decide +kernel
theorem d_Model_write_57 : decode c_Model_write 57 = .ok (.lreturn, 1) := by decide +kernel
theorem d_Model_write_58 : decode c_Model_write 58 = .ok (.aload_n 0, 1) := by decide +kernel
theorem d_Model_write_59 : decode c_Model_write 59 = .ok (.getfield 34, 3) := by decide +kernel
theorem d_Model_write_62 : decode c_Model_write 62 = .ok (.bipush 40, 2) := by decide +kernel
theorem d_Model_write_64 : decode c_Model_write 64 = .ok (.iload_n 1, 1) := by decide +kernel
theorem d_Model_write_65 : decode c_Model_write 65 = .ok (.imul, 1) := by decide +kernel
theorem d_Model_write_66 : decode c_Model_write 66 = .ok (.iload_n 2, 1) := by decide +kernel
theorem d_Model_write_67 : decode c_Model_write 67 = .ok (.iadd, 1) := by decide +kernel
theorem d_Model_write_68 : decode c_Model_write 68 = .ok (.laload, 1) := by decide +kernel
theorem d_Model_write_69 : decode c_Model_write 69 = .ok (.lstore 5, 2) := by decide +kernel
theorem d_Model_write_71 : decode c_Model_write 71 = .ok (.aload_n 0, 1) := by decide +kernel
theorem d_Model_write_72 : decode c_Model_write 72 = .ok (.getfield 34, 3) := by decide +kernel
theorem d_Model_write_75 : decode c_Model_write 75 = .ok (.bipush 40, 2) := by decide +kernel
theorem d_Model_write_77 : decode c_Model_write 77 = .ok (.iload_n 1, 1) := by decide +kernel
theorem d_Model_write_78 : decode c_Model_write 78 = .ok (.imul, 1) := by decide +kernel
theorem d_Model_write_79 : decode c_Model_write 79 = .ok (.iload_n 2, 1) := by decide +kernel
theorem d_Model_write_80 : decode c_Model_write 80 = .ok (.iadd, 1) := by decide +kernel
theorem d_Model_write_81 : decode c_Model_write 81 = .ok (.aload_n 0, 1) := by decide +kernel
theorem d_Model_write_82 : decode c_Model_write 82 = .ok (.getfield 28, 3) := by decide +kernel
theorem d_Model_write_85 : decode c_Model_write 85 = .ok (.iload_n 1, 1) := by decide +kernel
theorem d_Model_write_86 : decode c_Model_write 86 = .ok (.iaload, 1) := by decide +kernel
theorem d_Model_write_87 : decode c_Model_write 87 = .ok (.lload_n 3, 1) := by decide +kernel
theorem d_Model_write_88 : decode c_Model_write 88 = .ok (.invokestatic 250, 3) := by decide +kernel
theorem d_Model_write_91 : decode c_Model_write 91 = .ok (.lastore, 1) := by decide +kernel
theorem d_Model_write_92 : decode c_Model_write 92 = .ok (.lload 5, 2) := by decide +kernel
theorem d_Model_write_94 : decode c_Model_write 94 = .ok (.lreturn, 1) := by decide +kernel
theorem d_Model_copy_0 : decode c_Model_copy 0 = .ok (.iload_n 1, 1) := by decide +kernel
theorem d_Model_copy_1 : decode c_Model_copy 1 = .ok (.invokestatic 245, 3) := by decide +kernel
theorem d_Model_copy_4 : decode c_Model_copy 4 = .ok (.ifCond .eq 10, 3) := by decide +kernel
theorem d_Model_copy_7 : decode c_Model_copy 7 = .ok (.iload_n 3, 1) := by decide +kernel
theorem d_Model_copy_8 : decode c_Model_copy 8 = .ok (.invokestatic 245, 3) := by decide +kernel
theorem d_Model_copy_11 : decode c_Model_copy 11 = .ok (.ifCond .ne 10, 3) := by decide +kernel
theorem d_Model_copy_14 : decode c_Model_copy 14 = .ok (.aload_n 0, 1) := by decide +kernel
theorem d_Model_copy_15 : decode c_Model_copy 15 = .ok (.ldc 38, 2) := by decide +kernel
theorem d_Model_copy_17 : decode c_Model_copy 17 = .ok (.invokevirtual 44, 3) := by decide +kernel
theorem d_Model_copy_20 : decode c_Model_copy 20 = .ok (.ireturn, 1) := by decide +kernel
theorem d_Model_copy_21 : decode c_Model_copy 21 = .ok (.aload_n 0, 1) := by decide +kernel
theorem d_Model_copy_22 : decode c_Model_copy 22 = .ok (.getfield 28, 3) := by decide +kernel
theorem d_Model_copy_25 : decode c_Model_copy 25 = .ok (.iload_n 1, 1) := by decide +kernel
theorem d_Model_copy_26 : decode c_Model_copy 26 = .ok (.iaload, 1) := by decide +kernel
theorem d_Model_copy_27 : decode c_Model_copy 27 = .ok (.ifCond .lt 12, 3) := by decide +kernel
theorem d_Model_copy_30 : decode c_Model_copy 30 = .ok (.aload_n 0, 1) := by decide +kernel
theorem d_Model_copy_31 : decode c_Model_copy 31 = .ok (.getfield 28, 3) := by decide +kernel
theorem d_Model_copy_34 : decode c_Model_copy 34 = .ok (.iload_n 3, 1) := by decide +kernel
theorem d_Model_copy_35 : decode c_Model_copy 35 = .ok (.iaload, 1) := by decide +kernel
theorem d_Model_copy_36 : decode c_Model_copy 36 = .ok (.ifCond .ge 10, 3) := by decide +kernel
theorem d_Model_copy_39 : decode c_Model_copy 39 = .ok (.aload_n 0, 1) := by decide +kernel
theorem d_Model_copy_40 : decode c_Model_copy 40 = .ok (.ldc 249, 2) := by decide +kernel
theorem d_Model_copy_42 : decode c_Model_copy 42 = .ok (.invokevirtual 44, 3) := by decide +kernel
theorem d_Model_copy_45 : decode c_Model_copy 45 = .ok (.ireturn, 1) := by decide +kernel
theorem d_Model_copy_46 : decode c_Model_copy 46 = .ok (.aload_n 0, 1) := by decide +kernel
theorem d_Model_copy_47 : decode c_Model_copy 47 = .ok (.getfield 28, 3) := by decide +kernel
theorem d_Model_copy_50 : decode c_Model_copy 50 = .ok (.iload_n 1, 1) := by decide +kernel
theorem d_Model_copy_51 : decode c_Model_copy 51 = .ok (.iaload, 1) := by decide +kernel
theorem d_Model_copy_52 : decode c_Model_copy 52 = .ok (.aload_n 0, 1) := by decide +kernel
theorem d_Model_copy_53 : decode c_Model_copy 53 = .ok (.getfield 28, 3) := by decide +kernel
theorem d_Model_copy_56 : decode c_Model_copy 56 = .ok (.iload_n 3, 1) := by decide +kernel
theorem d_Model_copy_57 : decode c_Model_copy 57 = .ok (.iaload, 1) := by decide +kernel
theorem d_Model_copy_58 : decode c_Model_copy 58 = .ok (.if_icmp .eq 10, 3) := by decide +kernel
theorem d_Model_copy_61 : decode c_Model_copy 61 = .ok (.aload_n 0, 1) := by decide +kernel
theorem d_Model_copy_62 : decode c_Model_copy 62 = .ok (.ldc 117, 2) := by decide +kernel
theorem d_Model_copy_64 : decode c_Model_copy 64 = .ok (.invokevirtual 44, 3) := by decide +kernel
theorem d_Model_copy_67 : decode c_Model_copy 67 = .ok (.ireturn, 1) := by decide +kernel
theorem d_Model_copy_68 : decode c_Model_copy 68 = .ok (.iload_n 2, 1) := by decide +kernel
theorem d_Model_copy_69 : decode c_Model_copy 69 = .ok (.ifCond .lt 40, 3) := by decide +kernel
theorem d_Model_copy_72 : decode c_Model_copy 72 = .ok (.iload 4, 2) := by decide +kernel
theorem d_Model_copy_74 : decode c_Model_copy 74 = .ok (.ifCond .lt 35, 3) := by decide +kernel
theorem d_Model_copy_77 : decode c_Model_copy 77 = .ok (.iload 5, 2) := by decide +kernel
theorem d_Model_copy_79 : decode c_Model_copy 79 = .ok (.ifCond .lt 30, 3) := by decide +kernel
theorem d_Model_copy_82 : decode c_Model_copy 82 = .ok (.iload 5, 2) := by decide +kernel
theorem d_Model_copy_84 : decode c_Model_copy 84 = .ok (.aload_n 0, 1) := by decide +kernel
theorem d_Model_copy_85 : decode c_Model_copy 85 = .ok (.getfield 31, 3) := by decide +kernel
theorem d_Model_copy_88 : decode c_Model_copy 88 = .ok (.iload_n 1, 1) := by decide +kernel
theorem d_Model_copy_89 : decode c_Model_copy 89 = .ok (.iaload, 1) := by decide +kernel
theorem d_Model_copy_90 : decode c_Model_copy 90 = .ok (.iload_n 2, 1) := by decide +kernel
theorem d_Model_copy_91 : decode c_Model_copy 91 = .ok (.isub, 1) := by decide +kernel
theorem d_Model_copy_92 : decode c_Model_copy 92 = .ok (.if_icmp .gt 17, 3) := by decide +kernel
theorem d_Model_copy_95 : decode c_Model_copy 95 = .ok (.iload 5, 2) := by decide +kernel
theorem d_Model_copy_97 : decode c_Model_copy 97 = .ok (.aload_n 0, 1) := by decide +kernel
theorem d_Model_copy_98 : decode c_Model_copy 98 = .ok (.getfield 31, 3) := by decide +kernel
theorem d_Model_copy_101 : decode c_Model_copy 101 = .ok (.iload_n 3, 1) := by decide +kernel
theorem d_Model_copy_102 : decode c_Model_copy 102 = .ok (.iaload, 1) := by decide +kernel
theorem d_Model_copy_103 : decode c_Model_copy 103 = .ok (.iload 4, 2) := by decide +kernel
theorem d_Model_copy_105 : decode c_Model_copy 105 = .ok (.isub, 1) := by decide +kernel
theorem d_Model_copy_106 : decode c_Model_copy 106 = .ok (.if_icmp .le 10, 3) := by decide +kernel
theorem d_Model_copy_109 : decode c_Model_copy 109 = .ok (.aload_n 0, 1) := by decide +kernel
theorem d_Model_copy_110 : decode c_Model_copy 110 = .ok (.ldc 38, 2) := by decide +kernel
theorem d_Model_copy_112 : decode c_Model_copy 112 = .ok (.invokevirtual 44, 3) := by decide +kernel
theorem d_Model_copy_115 : decode c_Model_copy 115 = .ok (.ireturn, 1) := by decide +kernel
theorem d_Model_copy_116 : decode c_Model_copy 116 = .ok (.bipush 40, 2) := by decide +kernel
theorem d_Model_copy_118 : decode c_Model_copy 118 = .ok (.iload_n 1, 1) := by decide +kernel
theorem d_Model_copy_119 : decode c_Model_copy 119 = .ok (.imul, 1) := by decide +kernel
theorem d_Model_copy_120 : decode c_Model_copy 120 = .ok (.iload_n 2, 1) := by decide +kernel
theorem d_Model_copy_121 : decode c_Model_copy 121 = .ok (.iadd, 1) := by decide +kernel
theorem d_Model_copy_122 : decode c_Model_copy 122 = .ok (.istore 6, 2) := by decide +kernel
theorem d_Model_copy_124 : decode c_Model_copy 124 = .ok (.bipush 40, 2) := by decide +kernel
theorem d_Model_copy_126 : decode c_Model_copy 126 = .ok (.iload_n 3, 1) := by decide +kernel
theorem d_Model_copy_127 : decode c_Model_copy 127 = .ok (.imul, 1) := by decide +kernel
theorem d_Model_copy_128 : decode c_Model_copy 128 = .ok (.iload 4, 2) := by decide +kernel
theorem d_Model_copy_130 : decode c_Model_copy 130 = .ok (.iadd, 1) := by decide +kernel
theorem d_Model_copy_131 : decode c_Model_copy 131 = .ok (.istore 7, 2) := by decide +kernel
theorem d_Model_copy_133 : decode c_Model_copy 133 = .ok (.iconst 0, 1) := by decide +kernel
theorem d_Model_copy_134 : decode c_Model_copy 134 = .ok (.istore 8, 2) := by decide +kernel
theorem d_Model_copy_136 : decode c_Model_copy 136 = .ok (.iload 8, 2) := by decide +kernel
theorem d_Model_copy_138 : decode c_Model_copy 138 = .ok (.iload 5, 2) := by decide +kernel
theorem d_Model_copy_140 : decode c_Model_copy 140 = .ok (.if_icmp .ge 50, 3) := by decide +kernel
theorem d_Model_copy_143 : decode c_Model_copy 143 = .ok (.iload 6, 2) := by decide +kernel
theorem d_Model_copy_145 : decode c_Model_copy 145 = .ok (.iload 7, 2) := by decide +kernel
theorem d_Model_copy_147 : decode c_Model_copy 147 = .ok (.if_icmp .ge 13, 3) := by decide +kernel
theorem d_Model_copy_150 : decode c_Model_copy 150 = .ok (.iload 5, 2) := by decide +kernel
theorem d_Model_copy_152 : decode c_Model_copy 152 = .ok (.iconst 1, 1) := by decide +kernel
theorem d_Model_copy_153 : decode c_Model_copy 153 = .ok (.isub, 1) := by decide +kernel
theorem d_Model_copy_154 : decode c_Model_copy 154 = .ok (.iload 8, 2) := by decide +kernel
theorem d_Model_copy_156 : decode c_Model_copy 156 = .ok (.isub, 1) := by decide +kernel
theorem d_Model_copy_157 : decode c_Model_copy 157 = .ok (.goto 5, 3) := by decide +kernel
theorem d_Model_copy_160 : decode c_Model_copy 160 = .ok (.iload 8, 2) := by decide +kernel
theorem d_Model_copy_162 : decode c_Model_copy 162 = .ok (.istore 9, 2) := by decide +kernel
theorem d_Model_copy_164 : decode c_Model_copy 164 = .ok (.aload_n 0, 1) := by decide +kernel
theorem d_Model_copy_165 : decode c_Model_copy 165 = .ok (.getfield 34, 3) := by decide +kernel
theorem d_Model_copy_168 : decode c_Model_copy 168 = .ok (.iload 7, 2) := by decide +kernel
theorem d_Model_copy_170 : decode c_Model_copy 170 = .ok (.iload 9, 2) := by decide +kernel
theorem d_Model_copy_172 : decode c_Model_copy 172 = .ok (.iadd, 1) := by decide +kernel
theorem d_Model_copy_173 : decode c_Model_copy 173 = .ok (.aload_n 0, 1) := by decide +kernel
theorem d_Model_copy_174 : decode c_Model_copy 174 = .ok (.getfield 34, 3) := by decide +kernel
theorem d_Model_copy_177 : decode c_Model_copy 177 = .ok (.iload 6, 2) := by decide +kernel
theorem d_Model_copy_179 : decode c_Model_copy 179 = .ok (.iload 9, 2) := by decide +kernel
theorem d_Model_copy_181 : decode c_Model_copy 181 = .ok (.iadd, 1) := by decide +kernel
theorem d_Model_copy_182 : decode c_Model_copy 182 = .ok (.laload, 1) := by decide +kernel
theorem d_Model_copy_183 : decode c_Model_copy 183 = .ok (.lastore, 1) := by decide +kernel
theorem d_Model_copy_184 : decode c_Model_copy 184 = .ok (.iinc 8 1, 3) := by decide +kernel
theorem d_Model_copy_187 : decode c_Model_copy 187 = .ok (.goto (-51), 3) := by decide +kernel
theorem d_Model_copy_190 : decode c_Model_copy 190 = .ok (.iload 5, 2) := by decide +kernel
theorem d_Model_copy_192 : decode c_Model_copy 192 = .ok (.ireturn, 1) := by decide +kernel
theorem d_Model_wants_0 : decode c_Model_wants 0 = .ok (.iload_n 1, 1) := by decide +kernel
theorem d_Model_wants_1 : decode c_Model_wants 1 = .ok (.invokestatic 245, 3) := by decide +kernel
theorem d_Model_wants_4 : decode c_Model_wants 4 = .ok (.ifCond .ne 8, 3) := by decide +kernel
theorem d_Model_wants_7 : decode c_Model_wants 7 = .ok (.ldc 38, 2) := by decide +kernel
theorem d_Model_wants_9 : decode c_Model_wants 9 = .ok (.goto 18, 3) := by decide +kernel
theorem d_Model_wants_12 : decode c_Model_wants 12 = .ok (.aload_n 0, 1) := by decide +kernel
theorem d_Model_wants_13 : decode c_Model_wants 13 = .ok (.getfield 28, 3) := by decide +kernel
theorem d_Model_wants_16 : decode c_Model_wants 16 = .ok (.iload_n 1, 1) := by decide +kernel
theorem d_Model_wants_17 : decode c_Model_wants 17 = .ok (.iaload, 1) := by decide +kernel
theorem d_Model_wants_18 : decode c_Model_wants 18 = .ok (.ifCond .ge 8, 3) := by decide +kernel
theorem d_Model_wants_21 : decode c_Model_wants 21 = .ok (.ldc 249, 2) := by decide +kernel
theorem d_Model_wants_23 : decode c_Model_wants 23 = .ok (.goto 4, 3) := by decide +kernel
theorem d_Model_wants_26 : decode c_Model_wants 26 = .ok (.iconst 0, 1) := by decide +kernel
theorem d_Model_wants_27 : decode c_Model_wants 27 = .ok (.ireturn, 1) := by decide +kernel
theorem d_Model_lays_0 : decode c_Model_lays 0 = .ok (.aload_n 0, 1) := by decide +kernel
theorem d_Model_lays_1 : decode c_Model_lays 1 = .ok (.iload_n 1, 1) := by decide +kernel
theorem d_Model_lays_2 : decode c_Model_lays 2 = .ok (.invokevirtual 254, 3) := by decide +kernel
theorem d_Model_lays_5 : decode c_Model_lays 5 = .ok (.ifCond .eq 13, 3) := by decide +kernel
theorem d_Model_lays_8 : decode c_Model_lays 8 = .ok (.aload_n 0, 1) := by decide +kernel
theorem d_Model_lays_9 : decode c_Model_lays 9 = .ok (.aload_n 0, 1) := by decide +kernel
theorem d_Model_lays_10 : decode c_Model_lays 10 = .ok (.iload_n 1, 1) := by decide +kernel
theorem d_Model_lays_11 : decode c_Model_lays 11 = .ok (.invokevirtual 254, 3) := by decide +kernel
theorem d_Model_lays_14 : decode c_Model_lays 14 = .ok (.invokevirtual 44, 3) := by decide +kernel
theorem d_Model_lays_17 : decode c_Model_lays 17 = .ok (.ireturn, 1) := by decide +kernel
theorem d_Model_lays_18 : decode c_Model_lays 18 = .ok (.iconst 0, 1) := by decide +kernel
theorem d_Model_lays_19 : decode c_Model_lays 19 = .ok (.istore_n 2, 1) := by decide +kernel
theorem d_Model_lays_20 : decode c_Model_lays 20 = .ok (.iconst 0, 1) := by decide +kernel
theorem d_Model_lays_21 : decode c_Model_lays 21 = .ok (.istore_n 3, 1) := by decide +kernel
theorem d_Model_lays_22 : decode c_Model_lays 22 = .ok (.iload_n 3, 1) := by decide +kernel
theorem d_Model_lays_23 : decode c_Model_lays 23 = .ok (.aload_n 0, 1) := by decide +kernel
theorem d_Model_lays_24 : decode c_Model_lays 24 = .ok (.getfield 31, 3) := by decide +kernel
theorem d_Model_lays_27 : decode c_Model_lays 27 = .ok (.iload_n 1, 1) := by decide +kernel
theorem d_Model_lays_28 : decode c_Model_lays 28 = .ok (.iaload, 1) := by decide +kernel
theorem d_Model_lays_29 : decode c_Model_lays 29 = .ok (.if_icmp .ge 54, 3) := by decide +kernel
theorem d_Model_lays_32 : decode c_Model_lays 32 = .ok (.iload_n 3, 1) := by decide +kernel
theorem d_Model_lays_33 : decode c_Model_lays 33 = .ok (.bipush 16, 2) := by decide +kernel
theorem d_Model_lays_35 : decode c_Model_lays 35 = .ok (.if_icmp .ge 48, 3) := by decide +kernel
theorem d_Model_lays_38 : decode c_Model_lays 38 = .ok (.aload_n 0, 1) := by decide +kernel
theorem d_Model_lays_39 : decode c_Model_lays 39 = .ok (.getfield 34, 3) := by decide +kernel
theorem d_Model_lays_42 : decode c_Model_lays 42 = .ok (.bipush 40, 2) := by decide +kernel
theorem d_Model_lays_44 : decode c_Model_lays 44 = .ok (.iload_n 1, 1) := by decide +kernel
theorem d_Model_lays_45 : decode c_Model_lays 45 = .ok (.imul, 1) := by decide +kernel
theorem d_Model_lays_46 : decode c_Model_lays 46 = .ok (.iload_n 3, 1) := by decide +kernel
theorem d_Model_lays_47 : decode c_Model_lays 47 = .ok (.iadd, 1) := by decide +kernel
theorem d_Model_lays_48 : decode c_Model_lays 48 = .ok (.laload, 1) := by decide +kernel
theorem d_Model_lays_49 : decode c_Model_lays 49 = .ok (.lstore 4, 2) := by decide +kernel
theorem d_Model_lays_51 : decode c_Model_lays 51 = .ok (.lload 4, 2) := by decide +kernel
theorem d_Model_lays_53 : decode c_Model_lays 53 = .ok (.lconst 0, 1) := by decide +kernel
theorem d_Model_lays_54 : decode c_Model_lays 54 = .ok (.ldc2_w 52, 3) := by decide +kernel
theorem d_Model_lays_57 : decode c_Model_lays 57 = .ok (.invokestatic 54, 3) := by decide +kernel
theorem d_Model_lays_60 : decode c_Model_lays 60 = .ok (.ifCond .eq 17, 3) := by decide +kernel
theorem d_Model_lays_63 : decode c_Model_lays 63 = .ok (.aload_n 0, 1) := by decide +kernel
theorem d_Model_lays_64 : decode c_Model_lays 64 = .ok (.getfield 7, 3) := by decide +kernel
theorem d_Model_lays_67 : decode c_Model_lays 67 = .ok (.iconst 3, 1) := by decide +kernel
theorem d_Model_lays_68 : decode c_Model_lays 68 = .ok (.iload_n 3, 1) := by decide +kernel
theorem d_Model_lays_69 : decode c_Model_lays 69 = .ok (.iadd, 1) := by decide +kernel
theorem d_Model_lays_70 : decode c_Model_lays 70 = .ok (.lload 4, 2) := by decide +kernel
theorem d_Model_lays_72 : decode c_Model_lays 72 = .ok (.l2i, 1) := by decide +kernel
theorem d_Model_lays_73 : decode c_Model_lays 73 = .ok (.iastore, 1) := by decide +kernel
theorem d_Model_lays_74 : decode c_Model_lays 74 = .ok (.iinc 2 1, 3) := by decide +kernel
theorem d_Model_lays_77 : decode c_Model_lays 77 = .ok (.iinc 3 1, 3) := by decide +kernel
theorem d_Model_lays_80 : decode c_Model_lays 80 = .ok (.goto (-58), 3) := by decide +kernel
theorem d_Model_lays_83 : decode c_Model_lays 83 = .ok (.iload_n 2, 1) := by decide +kernel
theorem d_Model_lays_84 : decode c_Model_lays 84 = .ok (.ireturn, 1) := by decide +kernel
theorem d_Model_book_0 : decode c_Model_book 0 = .ok (.aload_n 0, 1) := by decide +kernel
theorem d_Model_book_1 : decode c_Model_book 1 = .ok (.iload_n 1, 1) := by decide +kernel
theorem d_Model_book_2 : decode c_Model_book 2 = .ok (.invokevirtual 254, 3) := by decide +kernel
theorem d_Model_book_5 : decode c_Model_book 5 = .ok (.ifCond .eq 11, 3) := by decide +kernel
theorem d_Model_book_8 : decode c_Model_book 8 = .ok (.aload_n 0, 1) := by decide +kernel
theorem d_Model_book_9 : decode c_Model_book 9 = .ok (.iload_n 1, 1) := by decide +kernel
theorem d_Model_book_10 : decode c_Model_book 10 = .ok (.invokevirtual 254, 3) := by decide +kernel
theorem d_Model_book_13 : decode c_Model_book 13 = .ok (.goto 16, 3) := by decide +kernel
theorem d_Model_book_16 : decode c_Model_book 16 = .ok (.iload_n 2, 1) := by decide +kernel
theorem d_Model_book_17 : decode c_Model_book 17 = .ok (.invokestatic 80, 3) := by decide +kernel
theorem d_Model_book_20 : decode c_Model_book 20 = .ok (.ifCond .eq 7, 3) := by decide +kernel
theorem d_Model_book_23 : decode c_Model_book 23 = .ok (.iconst 0, 1) := by decide +kernel
theorem d_Model_book_24 : decode c_Model_book 24 = .ok (.goto 5, 3) := by decide +kernel
theorem d_Model_book_27 : decode c_Model_book 27 = .ok (.ldc 38, 2) := by decide +kernel
theorem d_Model_book_29 : decode c_Model_book 29 = .ok (.istore_n 3, 1) := by decide +kernel
theorem d_Model_book_30 : decode c_Model_book 30 = .ok (.iload_n 3, 1) := by decide +kernel
theorem d_Model_book_31 : decode c_Model_book 31 = .ok (.ifCond .eq 9, 3) := by decide +kernel
theorem d_Model_book_34 : decode c_Model_book 34 = .ok (.aload_n 0, 1) := by decide +kernel
theorem d_Model_book_35 : decode c_Model_book 35 = .ok (.iload_n 3, 1) := by decide +kernel
theorem d_Model_book_36 : decode c_Model_book 36 = .ok (.invokevirtual 44, 3) := by decide +kernel
theorem d_Model_book_39 : decode c_Model_book 39 = .ok (.ireturn, 1) := by decide +kernel
theorem d_Model_book_40 : decode c_Model_book 40 = .ok (.aload_n 0, 1) := by decide +kernel
theorem d_Model_book_41 : decode c_Model_book 41 = .ok (.getfield 7, 3) := by decide +kernel
theorem d_Model_book_44 : decode c_Model_book 44 = .ok (.aload_n 0, 1) := by decide +kernel
theorem d_Model_book_45 : decode c_Model_book 45 = .ok (.getfield 19, 3) := by decide +kernel
theorem d_Model_book_48 : decode c_Model_book 48 = .ok (.invokestatic 148, 3) := by decide +kernel
theorem d_Model_book_51 : decode c_Model_book 51 = .ok (.iconst 0, 1) := by decide +kernel
theorem d_Model_book_52 : decode c_Model_book 52 = .ok (.istore 4, 2) := by decide +kernel
theorem d_Model_book_54 : decode c_Model_book 54 = .ok (.iload 4, 2) := by decide +kernel
theorem d_Model_book_56 : decode c_Model_book 56 = .ok (.aload_n 0, 1) := by decide +kernel
theorem d_Model_book_57 : decode c_Model_book 57 = .ok (.getfield 31, 3) := by decide +kernel
theorem d_Model_book_60 : decode c_Model_book 60 = .ok (.iload_n 1, 1) := by decide +kernel
theorem d_Model_book_61 : decode c_Model_book 61 = .ok (.iaload, 1) := by decide +kernel
theorem d_Model_book_62 : decode c_Model_book 62 = .ok (.if_icmp .ge 44, 3) := by decide +kernel
theorem d_Model_book_65 : decode c_Model_book 65 = .ok (.aload_n 0, 1) := by decide +kernel
theorem d_Model_book_66 : decode c_Model_book 66 = .ok (.getfield 34, 3) := by decide +kernel
theorem d_Model_book_69 : decode c_Model_book 69 = .ok (.bipush 40, 2) := by decide +kernel
theorem d_Model_book_71 : decode c_Model_book 71 = .ok (.iload_n 1, 1) := by decide +kernel
theorem d_Model_book_72 : decode c_Model_book 72 = .ok (.imul, 1) := by decide +kernel
theorem d_Model_book_73 : decode c_Model_book 73 = .ok (.iload 4, 2) := by decide +kernel
theorem d_Model_book_75 : decode c_Model_book 75 = .ok (.iadd, 1) := by decide +kernel
theorem d_Model_book_76 : decode c_Model_book 76 = .ok (.aload_n 0, 1) := by decide +kernel
theorem d_Model_book_77 : decode c_Model_book 77 = .ok (.getfield 28, 3) := by decide +kernel
theorem d_Model_book_80 : decode c_Model_book 80 = .ok (.iload_n 1, 1) := by decide +kernel
theorem d_Model_book_81 : decode c_Model_book 81 = .ok (.iaload, 1) := by decide +kernel
theorem d_Model_book_82 : decode c_Model_book 82 = .ok (.aload_n 0, 1) := by decide +kernel
theorem d_Model_book_83 : decode c_Model_book 83 = .ok (.getfield 7, 3) := by decide +kernel
theorem d_Model_book_86 : decode c_Model_book 86 = .ok (.bipush 19, 2) := by decide +kernel
theorem d_Model_book_88 : decode c_Model_book 88 = .ok (.iload_n 2, 1) := by decide +kernel
theorem d_Model_book_89 : decode c_Model_book 89 = .ok (.iadd, 1) := by decide +kernel
theorem d_Model_book_90 : decode c_Model_book 90 = .ok (.iaload, 1) := by decide +kernel
theorem d_Model_book_91 : decode c_Model_book 91 = .ok (.i2l, 1) := by decide +kernel
theorem d_Model_book_92 : decode c_Model_book 92 = .ok (.invokestatic 250, 3) := by decide +kernel
theorem d_Model_book_95 : decode c_Model_book 95 = .ok (.lastore, 1) := by decide +kernel
theorem d_Model_book_96 : decode c_Model_book 96 = .ok (.aload_n 0, 1) := by decide +kernel
theorem d_Model_book_97 : decode c_Model_book 97 = .ok (.invokevirtual 131, 3) := by decide +kernel
theorem d_Model_book_100 : decode c_Model_book 100 = .ok (.iinc 4 1, 3) := by decide +kernel
theorem d_Model_book_103 : decode c_Model_book 103 = .ok (.goto (-49), 3) := by decide +kernel
theorem d_Model_book_106 : decode c_Model_book 106 = .ok (.aload_n 0, 1) := by decide +kernel
theorem d_Model_book_107 : decode c_Model_book 107 = .ok (.getfield 19, 3) := by decide +kernel
theorem d_Model_book_110 : decode c_Model_book 110 = .ok (.aload_n 0, 1) := by decide +kernel
theorem d_Model_book_111 : decode c_Model_book 111 = .ok (.getfield 7, 3) := by decide +kernel
theorem d_Model_book_114 : decode c_Model_book 114 = .ok (.invokestatic 148, 3) := by decide +kernel
theorem d_Model_book_117 : decode c_Model_book 117 = .ok (.aload_n 0, 1) := by decide +kernel
theorem d_Model_book_118 : decode c_Model_book 118 = .ok (.getfield 31, 3) := by decide +kernel
theorem d_Model_book_121 : decode c_Model_book 121 = .ok (.iload_n 1, 1) := by decide +kernel
theorem d_Model_book_122 : decode c_Model_book 122 = .ok (.iaload, 1) := by decide +kernel
theorem d_Model_book_123 : decode c_Model_book 123 = .ok (.ireturn, 1) := by decide +kernel
theorem d_Model_isTold_0 : decode c_Model_isTold 0 = .ok (.aload_n 0, 1) := by decide +kernel
theorem d_Model_isTold_1 : decode c_Model_isTold 1 = .ok (.getfield 7, 3) := by decide +kernel
theorem d_Model_isTold_4 : decode c_Model_isTold 4 = .ok (.aload_n 0, 1) := by decide +kernel
theorem d_Model_isTold_5 : decode c_Model_isTold 5 = .ok (.getfield 19, 3) := by decide +kernel
theorem d_Model_isTold_8 : decode c_Model_isTold 8 = .ok (.invokestatic 148, 3) := by decide +kernel
theorem d_Model_isTold_11 : decode c_Model_isTold 11 = .ok (.iconst 1, 1) := by decide +kernel
theorem d_Model_isTold_12 : decode c_Model_isTold 12 = .ok (.istore_n 3, 1) := by decide +kernel
theorem d_Model_isTold_13 : decode c_Model_isTold 13 = .ok (.iconst 0, 1) := by decide +kernel
theorem d_Model_isTold_14 : decode c_Model_isTold 14 = .ok (.istore 4, 2) := by decide +kernel
theorem d_Model_isTold_16 : decode c_Model_isTold 16 = .ok (.iload 4, 2) := by decide +kernel
theorem d_Model_isTold_18 : decode c_Model_isTold 18 = .ok (.aload_n 0, 1) := by decide +kernel
theorem d_Model_isTold_19 : decode c_Model_isTold 19 = .ok (.getfield 31, 3) := by decide +kernel
theorem d_Model_isTold_22 : decode c_Model_isTold 22 = .ok (.iload_n 1, 1) := by decide +kernel
theorem d_Model_isTold_23 : decode c_Model_isTold 23 = .ok (.iaload, 1) := by decide +kernel
theorem d_Model_isTold_24 : decode c_Model_isTold 24 = .ok (.if_icmp .ge 49, 3) := by decide +kernel
theorem d_Model_isTold_27 : decode c_Model_isTold 27 = .ok (.iload_n 3, 1) := by decide +kernel
theorem d_Model_isTold_28 : decode c_Model_isTold 28 = .ok (.ifCond .eq 45, 3) := by decide +kernel
theorem d_Model_isTold_31 : decode c_Model_isTold 31 = .ok (.aload_n 0, 1) := by decide +kernel
theorem d_Model_isTold_32 : decode c_Model_isTold 32 = .ok (.getfield 34, 3) := by decide +kernel
theorem d_Model_isTold_35 : decode c_Model_isTold 35 = .ok (.bipush 40, 2) := by decide +kernel
theorem d_Model_isTold_37 : decode c_Model_isTold 37 = .ok (.iload_n 1, 1) := by decide +kernel
theorem d_Model_isTold_38 : decode c_Model_isTold 38 = .ok (.imul, 1) := by decide +kernel
theorem d_Model_isTold_39 : decode c_Model_isTold 39 = .ok (.iload 4, 2) := by decide +kernel
theorem d_Model_isTold_41 : decode c_Model_isTold 41 = .ok (.iadd, 1) := by decide +kernel
theorem d_Model_isTold_42 : decode c_Model_isTold 42 = .ok (.laload, 1) := by decide +kernel
theorem d_Model_isTold_43 : decode c_Model_isTold 43 = .ok (.aload_n 0, 1) := by decide +kernel
theorem d_Model_isTold_44 : decode c_Model_isTold 44 = .ok (.getfield 7, 3) := by decide +kernel
theorem d_Model_isTold_47 : decode c_Model_isTold 47 = .ok (.bipush 19, 2) := by decide +kernel
theorem d_Model_isTold_49 : decode c_Model_isTold 49 = .ok (.iload_n 2, 1) := by decide +kernel
theorem d_Model_isTold_50 : decode c_Model_isTold 50 = .ok (.iadd, 1) := by decide +kernel
theorem d_Model_isTold_51 : decode c_Model_isTold 51 = .ok (.iaload, 1) := by decide +kernel
theorem d_Model_isTold_52 : decode c_Model_isTold 52 = .ok (.i2l, 1) := by decide +kernel
theorem d_Model_isTold_53 : decode c_Model_isTold 53 = .ok (.lcmp, 1) := by decide +kernel
theorem d_Model_isTold_54 : decode c_Model_isTold 54 = .ok (.ifCond .ne 7, 3) := by decide +kernel
theorem d_Model_isTold_57 : decode c_Model_isTold 57 = .ok (.iconst 1, 1) := by decide +kernel
theorem d_Model_isTold_58 : decode c_Model_isTold 58 = .ok (.goto 4, 3) := by decide +kernel
theorem d_Model_isTold_61 : decode c_Model_isTold 61 = .ok (.iconst 0, 1) := by decide +kernel
theorem d_Model_isTold_62 : decode c_Model_isTold 62 = .ok (.istore_n 3, 1) := by decide +kernel
theorem d_Model_isTold_63 : decode c_Model_isTold 63 = .ok (.aload_n 0, 1) := by decide +kernel
theorem d_Model_isTold_64 : decode c_Model_isTold 64 = .ok (.invokevirtual 131, 3) := by decide +kernel
theorem d_Model_isTold_67 : decode c_Model_isTold 67 = .ok (.iinc 4 1, 3) := by decide +kernel
theorem d_Model_isTold_70 : decode c_Model_isTold 70 = .ok (.goto (-54), 3) := by decide +kernel
theorem d_Model_isTold_73 : decode c_Model_isTold 73 = .ok (.aload_n 0, 1) := by decide +kernel
theorem d_Model_isTold_74 : decode c_Model_isTold 74 = .ok (.getfield 19, 3) := by decide +kernel
theorem d_Model_isTold_77 : decode c_Model_isTold 77 = .ok (.aload_n 0, 1) := by decide +kernel
theorem d_Model_isTold_78 : decode c_Model_isTold 78 = .ok (.getfield 7, 3) := by decide +kernel
theorem d_Model_isTold_81 : decode c_Model_isTold 81 = .ok (.invokestatic 148, 3) := by decide +kernel
theorem d_Model_isTold_84 : decode c_Model_isTold 84 = .ok (.iload_n 3, 1) := by decide +kernel
theorem d_Model_isTold_85 : decode c_Model_isTold 85 = .ok (.ireturn, 1) := by decide +kernel
theorem d_Model_read_0 : decode c_Model_read 0 = .ok (.aload_n 0, 1) := by decide +kernel
theorem d_Model_read_1 : decode c_Model_read 1 = .ok (.iload_n 1, 1) := by decide +kernel
theorem d_Model_read_2 : decode c_Model_read 2 = .ok (.invokevirtual 254, 3) := by decide +kernel
theorem d_Model_read_5 : decode c_Model_read 5 = .ok (.ifCond .eq 11, 3) := by decide +kernel
theorem d_Model_read_8 : decode c_Model_read 8 = .ok (.aload_n 0, 1) := by decide +kernel
theorem d_Model_read_9 : decode c_Model_read 9 = .ok (.iload_n 1, 1) := by decide +kernel
theorem d_Model_read_10 : decode c_Model_read 10 = .ok (.invokevirtual 254, 3) := by decide +kernel
theorem d_Model_read_13 : decode c_Model_read 13 = .ok (.goto 24, 3) := by decide +kernel
theorem d_Model_read_16 : decode c_Model_read 16 = .ok (.iload_n 2, 1) := by decide +kernel
theorem d_Model_read_17 : decode c_Model_read 17 = .ok (.invokestatic 80, 3) := by decide +kernel
theorem d_Model_read_20 : decode c_Model_read 20 = .ok (.ifCond .eq 15, 3) := by decide +kernel
theorem d_Model_read_23 : decode c_Model_read 23 = .ok (.aload_n 0, 1) := by decide +kernel
theorem d_Model_read_24 : decode c_Model_read 24 = .ok (.iload_n 3, 1) := by decide +kernel
theorem d_Model_read_25 : decode c_Model_read 25 = .ok (.invokevirtual 104, 3) := by decide +kernel
theorem d_Model_read_28 : decode c_Model_read 28 = .ok (.ifCond .eq 7, 3) := by decide +kernel
theorem d_Model_read_31 : decode c_Model_read 31 = .ok (.iconst 0, 1) := by decide +kernel
theorem d_Model_read_32 : decode c_Model_read 32 = .ok (.goto 5, 3) := by decide +kernel
theorem d_Model_read_35 : decode c_Model_read 35 = .ok (.ldc 38, 2) := by decide +kernel
theorem d_Model_read_37 : decode c_Model_read 37 = .ok (.istore 4, 2) := by decide +kernel
theorem d_Model_read_39 : decode c_Model_read 39 = .ok (.iload 4, 2) := by decide +kernel
theorem d_Model_read_41 : decode c_Model_read 41 = .ok (.ifCond .ne 17, 3) := by decide +kernel
theorem d_Model_read_44 : decode c_Model_read 44 = .ok (.aload_n 0, 1) := by decide +kernel
theorem d_Model_read_45 : decode c_Model_read 45 = .ok (.iload_n 3, 1) := by decide +kernel
theorem d_Model_read_46 : decode c_Model_read 46 = .ok (.iconst 2, 1) := by decide +kernel
theorem d_Model_read_47 : decode c_Model_read 47 = .ok (.invokevirtual 61, 3) := by decide +kernel
theorem d_Model_read_50 : decode c_Model_read 50 = .ok (.ifCond .eq 8, 3) := by decide +kernel
theorem d_Model_read_53 : decode c_Model_read 53 = .ok (.ldc 118, 2) := by decide +kernel
theorem d_Model_read_55 : decode c_Model_read 55 = .ok (.goto 5, 3) := by decide +kernel
theorem d_Model_read_58 : decode c_Model_read 58 = .ok (.iload 4, 2) := by decide +kernel
theorem d_Model_read_60 : decode c_Model_read 60 = .ok (.istore 4, 2) := by decide +kernel
theorem d_Model_read_62 : decode c_Model_read 62 = .ok (.iload 4, 2) := by decide +kernel
theorem d_Model_read_64 : decode c_Model_read 64 = .ok (.ifCond .eq 10, 3) := by decide +kernel
theorem d_Model_read_67 : decode c_Model_read 67 = .ok (.aload_n 0, 1) := by decide +kernel
theorem d_Model_read_68 : decode c_Model_read 68 = .ok (.iload 4, 2) := by decide +kernel
theorem d_Model_read_70 : decode c_Model_read 70 = .ok (.invokevirtual 44, 3) := by decide +kernel
theorem d_Model_read_73 : decode c_Model_read 73 = .ok (.ireturn, 1) := by decide +kernel
theorem d_Model_read_74 : decode c_Model_read 74 = .ok (.aload_n 0, 1) := by decide +kernel
theorem d_Model_read_75 : decode c_Model_read 75 = .ok (.iload_n 3, 1) := by decide +kernel
theorem d_Model_read_76 : decode c_Model_read 76 = .ok (.iconst 0, 1) := by decide +kernel
theorem d_Model_read_77 : decode c_Model_read 77 = .ok (.invokevirtual 39, 3) := by decide +kernel
theorem d_Model_read_80 : decode c_Model_read 80 = .ok (.istore 5, 2) := by decide +kernel
theorem d_Model_read_82 : decode c_Model_read 82 = .ok (.aload_n 0, 1) := by decide +kernel
theorem d_Model_read_83 : decode c_Model_read 83 = .ok (.iload_n 3, 1) := by decide +kernel
theorem d_Model_read_84 : decode c_Model_read 84 = .ok (.iconst 2, 1) := by decide +kernel
theorem d_Model_read_85 : decode c_Model_read 85 = .ok (.invokevirtual 39, 3) := by decide +kernel
theorem d_Model_read_88 : decode c_Model_read 88 = .ok (.istore 6, 2) := by decide +kernel
theorem d_Model_read_90 : decode c_Model_read 90 = .ok (.aload_n 0, 1) := by decide +kernel
theorem d_Model_read_91 : decode c_Model_read 91 = .ok (.iload_n 3, 1) := by decide +kernel
theorem d_Model_read_92 : decode c_Model_read 92 = .ok (.iconst 4, 1) := by decide +kernel
theorem d_Model_read_93 : decode c_Model_read 93 = .ok (.invokevirtual 39, 3) := by decide +kernel
theorem d_Model_read_96 : decode c_Model_read 96 = .ok (.istore 7, 2) := by decide +kernel
theorem d_Model_read_98 : decode c_Model_read 98 = .ok (.iconst 0, 1) := by decide +kernel
theorem d_Model_read_99 : decode c_Model_read 99 = .ok (.istore 8, 2) := by decide +kernel
theorem d_Model_read_101 : decode c_Model_read 101 = .ok (.iconst 0, 1) := by decide +kernel
theorem d_Model_read_102 : decode c_Model_read 102 = .ok (.istore 9, 2) := by decide +kernel
theorem d_Model_read_104 : decode c_Model_read 104 = .ok (.iload 9, 2) := by decide +kernel
theorem d_Model_read_106 : decode c_Model_read 106 = .ok (.iconst 5, 1) := by decide +kernel
theorem d_Model_read_107 : decode c_Model_read 107 = .ok (.if_icmp .gt 63, 3) := by decide +kernel
theorem d_Model_read_110 : decode c_Model_read 110 = .ok (.iconst 0, 1) := by decide +kernel
theorem d_Model_read_111 : decode c_Model_read 111 = .ok (.istore 10, 2) := by decide +kernel
theorem d_Model_read_113 : decode c_Model_read 113 = .ok (.iload 10, 2) := by decide +kernel
theorem d_Model_read_115 : decode c_Model_read 115 = .ok (.bipush 16, 2) := by decide +kernel
theorem d_Model_read_117 : decode c_Model_read 117 = .ok (.if_icmp .ge 47, 3) := by decide +kernel
theorem d_Model_read_120 : decode c_Model_read 120 = .ok (.aload_n 0, 1) := by decide +kernel
theorem d_Model_read_121 : decode c_Model_read 121 = .ok (.getfield 7, 3) := by decide +kernel
theorem d_Model_read_124 : decode c_Model_read 124 = .ok (.iload_n 3, 1) := by decide +kernel
theorem d_Model_read_125 : decode c_Model_read 125 = .ok (.iconst 0, 1) := by decide +kernel
theorem d_Model_read_126 : decode c_Model_read 126 = .ok (.invokestatic 85, 3) := by decide +kernel
theorem d_Model_read_129 : decode c_Model_read 129 = .ok (.iload 9, 2) := by decide +kernel
theorem d_Model_read_131 : decode c_Model_read 131 = .ok (.iastore, 1) := by decide +kernel
theorem d_Model_read_132 : decode c_Model_read 132 = .ok (.aload_n 0, 1) := by decide +kernel
theorem d_Model_read_133 : decode c_Model_read 133 = .ok (.iload_n 3, 1) := by decide +kernel
theorem d_Model_read_134 : decode c_Model_read 134 = .ok (.iload 10, 2) := by decide +kernel
theorem d_Model_read_136 : decode c_Model_read 136 = .ok (.invokevirtual 119, 3) := by decide +kernel
theorem d_Model_read_139 : decode c_Model_read 139 = .ok (.iload 8, 2) := by decide +kernel
theorem d_Model_read_141 : decode c_Model_read 141 = .ok (.aload_n 0, 1) := by decide +kernel
theorem d_Model_read_142 : decode c_Model_read 142 = .ok (.iload_n 1, 1) := by decide +kernel
theorem d_Model_read_143 : decode c_Model_read 143 = .ok (.iload_n 2, 1) := by decide +kernel
theorem d_Model_read_144 : decode c_Model_read 144 = .ok (.invokevirtual 257, 3) := by decide +kernel
theorem d_Model_read_147 : decode c_Model_read 147 = .ok (.ifCond .eq 7, 3) := by decide +kernel
theorem d_Model_read_150 : decode c_Model_read 150 = .ok (.iconst 1, 1) := by decide +kernel
theorem d_Model_read_151 : decode c_Model_read 151 = .ok (.goto 4, 3) := by decide +kernel
theorem d_Model_read_154 : decode c_Model_read 154 = .ok (.iconst 0, 1) := by decide +kernel
theorem d_Model_read_155 : decode c_Model_read 155 = .ok (.iadd, 1) := by decide +kernel
theorem d_Model_read_156 : decode c_Model_read 156 = .ok (.istore 8, 2) := by decide +kernel
theorem d_Model_read_158 : decode c_Model_read 158 = .ok (.iinc 10 1, 3) := by decide +kernel
theorem d_Model_read_161 : decode c_Model_read 161 = .ok (.goto (-48), 3) := by decide +kernel
theorem d_Model_read_164 : decode c_Model_read 164 = .ok (.iinc 9 1, 3) := by decide +kernel
theorem d_Model_read_167 : decode c_Model_read 167 = .ok (.goto (-63), 3) := by decide +kernel
theorem d_Model_read_170 : decode c_Model_read 170 = .ok (.aload_n 0, 1) := by decide +kernel
theorem d_Model_read_171 : decode c_Model_read 171 = .ok (.getfield 7, 3) := by decide +kernel
theorem d_Model_read_174 : decode c_Model_read 174 = .ok (.iload_n 3, 1) := by decide +kernel
theorem d_Model_read_175 : decode c_Model_read 175 = .ok (.iconst 0, 1) := by decide +kernel
theorem d_Model_read_176 : decode c_Model_read 176 = .ok (.invokestatic 85, 3) := by decide +kernel
theorem d_Model_read_179 : decode c_Model_read 179 = .ok (.iload 5, 2) := by decide +kernel
theorem d_Model_read_181 : decode c_Model_read 181 = .ok (.iastore, 1) := by decide +kernel
theorem d_Model_read_182 : decode c_Model_read 182 = .ok (.aload_n 0, 1) := by decide +kernel
theorem d_Model_read_183 : decode c_Model_read 183 = .ok (.getfield 7, 3) := by decide +kernel
theorem d_Model_read_186 : decode c_Model_read 186 = .ok (.iload_n 3, 1) := by decide +kernel
theorem d_Model_read_187 : decode c_Model_read 187 = .ok (.iconst 2, 1) := by decide +kernel
theorem d_Model_read_188 : decode c_Model_read 188 = .ok (.invokestatic 85, 3) := by decide +kernel
theorem d_Model_read_191 : decode c_Model_read 191 = .ok (.iload 6, 2) := by decide +kernel
theorem d_Model_read_193 : decode c_Model_read 193 = .ok (.iastore, 1) := by decide +kernel
theorem d_Model_read_194 : decode c_Model_read 194 = .ok (.aload_n 0, 1) := by decide +kernel
theorem d_Model_read_195 : decode c_Model_read 195 = .ok (.getfield 7, 3) := by decide +kernel
theorem d_Model_read_198 : decode c_Model_read 198 = .ok (.iload_n 3, 1) := by decide +kernel
theorem d_Model_read_199 : decode c_Model_read 199 = .ok (.iconst 4, 1) := by decide +kernel
theorem d_Model_read_200 : decode c_Model_read 200 = .ok (.invokestatic 85, 3) := by decide +kernel
theorem d_Model_read_203 : decode c_Model_read 203 = .ok (.iload 7, 2) := by decide +kernel
theorem d_Model_read_205 : decode c_Model_read 205 = .ok (.iastore, 1) := by decide +kernel
theorem d_Model_read_206 : decode c_Model_read 206 = .ok (.iload 8, 2) := by decide +kernel
theorem d_Model_read_208 : decode c_Model_read 208 = .ok (.ireturn, 1) := by decide +kernel
theorem d_Model_image_0 : decode c_Model_image 0 = .ok (.aload_n 0, 1) := by decide +kernel
theorem d_Model_image_1 : decode c_Model_image 1 = .ok (.getfield 7, 3) := by decide +kernel
theorem d_Model_image_4 : decode c_Model_image 4 = .ok (.aload_n 0, 1) := by decide +kernel
theorem d_Model_image_5 : decode c_Model_image 5 = .ok (.getfield 13, 3) := by decide +kernel
theorem d_Model_image_8 : decode c_Model_image 8 = .ok (.invokestatic 148, 3) := by decide +kernel
theorem d_Model_image_11 : decode c_Model_image 11 = .ok (.aload_n 0, 1) := by decide +kernel
theorem d_Model_image_12 : decode c_Model_image 12 = .ok (.iconst 1, 1) := by decide +kernel
theorem d_Model_image_13 : decode c_Model_image 13 = .ok (.putfield 260, 3) := by decide +kernel
theorem d_Model_image_16 : decode c_Model_image 16 = .ok (.iconst 1, 1) := by decide +kernel
theorem d_Model_image_17 : decode c_Model_image 17 = .ok (.ireturn, 1) := by decide +kernel
theorem d_Model_undo_0 : decode c_Model_undo 0 = .ok (.aload_n 0, 1) := by decide +kernel
theorem d_Model_undo_1 : decode c_Model_undo 1 = .ok (.getfield 260, 3) := by decide +kernel
theorem d_Model_undo_4 : decode c_Model_undo 4 = .ok (.ifCond .ne 10, 3) := by decide +kernel
theorem d_Model_undo_7 : decode c_Model_undo 7 = .ok (.aload_n 0, 1) := by decide +kernel
theorem d_Model_undo_8 : decode c_Model_undo 8 = .ok (.ldc 43, 2) := by decide +kernel
theorem d_Model_undo_10 : decode c_Model_undo 10 = .ok (.invokevirtual 44, 3) := by decide +kernel
theorem d_Model_undo_13 : decode c_Model_undo 13 = .ok (.ireturn, 1) := by decide +kernel
theorem d_Model_undo_14 : decode c_Model_undo 14 = .ok (.aload_n 0, 1) := by decide +kernel
theorem d_Model_undo_15 : decode c_Model_undo 15 = .ok (.getfield 13, 3) := by decide +kernel
theorem d_Model_undo_18 : decode c_Model_undo 18 = .ok (.aload_n 0, 1) := by decide +kernel
theorem d_Model_undo_19 : decode c_Model_undo 19 = .ok (.getfield 7, 3) := by decide +kernel
theorem d_Model_undo_22 : decode c_Model_undo 22 = .ok (.invokestatic 148, 3) := by decide +kernel
theorem d_Model_undo_25 : decode c_Model_undo 25 = .ok (.aload_n 0, 1) := by decide +kernel
theorem d_Model_undo_26 : decode c_Model_undo 26 = .ok (.getfield 7, 3) := by decide +kernel
theorem d_Model_undo_29 : decode c_Model_undo 29 = .ok (.iconst 0, 1) := by decide +kernel
theorem d_Model_undo_30 : decode c_Model_undo 30 = .ok (.iaload, 1) := by decide +kernel
theorem d_Model_undo_31 : decode c_Model_undo 31 = .ok (.ireturn, 1) := by decide +kernel
theorem d_Model_tear_0 : decode c_Model_tear 0 = .ok (.aload_n 0, 1) := by decide +kernel
theorem d_Model_tear_1 : decode c_Model_tear 1 = .ok (.getfield 260, 3) := by decide +kernel
theorem d_Model_tear_4 : decode c_Model_tear 4 = .ok (.istore_n 1, 1) := by decide +kernel
theorem d_Model_tear_5 : decode c_Model_tear 5 = .ok (.aload_n 0, 1) := by decide +kernel
theorem d_Model_tear_6 : decode c_Model_tear 6 = .ok (.iconst 0, 1) := by decide +kernel
theorem d_Model_tear_7 : decode c_Model_tear 7 = .ok (.putfield 260, 3) := by decide +kernel
theorem d_Model_tear_10 : decode c_Model_tear 10 = .ok (.iload_n 1, 1) := by decide +kernel
theorem d_Model_tear_11 : decode c_Model_tear 11 = .ok (.ifCond .eq 7, 3) := by decide +kernel
theorem d_Model_tear_14 : decode c_Model_tear 14 = .ok (.iconst 1, 1) := by decide +kernel
theorem d_Model_tear_15 : decode c_Model_tear 15 = .ok (.goto 4, 3) := by decide +kernel
theorem d_Model_tear_18 : decode c_Model_tear 18 = .ok (.iconst 0, 1) := by decide +kernel
theorem d_Model_tear_19 : decode c_Model_tear 19 = .ok (.ireturn, 1) := by decide +kernel
theorem d_Model_count_0 : decode c_Model_count 0 = .ok (.iconst 0, 1) := by decide +kernel
theorem d_Model_count_1 : decode c_Model_count 1 = .ok (.istore_n 2, 1) := by decide +kernel
theorem d_Model_count_2 : decode c_Model_count 2 = .ok (.iload_n 1, 1) := by decide +kernel
theorem d_Model_count_3 : decode c_Model_count 3 = .ok (.tableswitch 77 0 3 #[29, 36, 41, 50], 29) := by decide +kernel
theorem d_Model_count_32 : decode c_Model_count 32 = .ok (.aload_n 0, 1) := by decide +kernel
theorem d_Model_count_33 : decode c_Model_count 33 = .ok (.getfield 7, 3) := by decide +kernel
theorem d_Model_count_36 : decode c_Model_count 36 = .ok (.iconst 0, 1) := by decide +kernel
theorem d_Model_count_37 : decode c_Model_count 37 = .ok (.iaload, 1) := by decide +kernel
theorem d_Model_count_38 : decode c_Model_count 38 = .ok (.ireturn, 1) := by decide +kernel
theorem d_Model_count_39 : decode c_Model_count 39 = .ok (.aload_n 0, 1) := by decide +kernel
theorem d_Model_count_40 : decode c_Model_count 40 = .ok (.getfield 173, 3) := by decide +kernel
theorem d_Model_count_43 : decode c_Model_count 43 = .ok (.ireturn, 1) := by decide +kernel
theorem d_Model_count_44 : decode c_Model_count 44 = .ok (.aload_n 0, 1) := by decide +kernel
theorem d_Model_count_45 : decode c_Model_count 45 = .ok (.iconst 0, 1) := by decide +kernel
theorem d_Model_count_46 : decode c_Model_count 46 = .ok (.invokevirtual 145, 3) := by decide +kernel
theorem d_Model_count_49 : decode c_Model_count 49 = .ok (.invokestatic 122, 3) := by decide +kernel
theorem d_Model_count_52 : decode c_Model_count 52 = .ok (.ireturn, 1) := by decide +kernel
theorem d_Model_count_53 : decode c_Model_count 53 = .ok (.iconst 0, 1) := by decide +kernel
theorem d_Model_count_54 : decode c_Model_count 54 = .ok (.istore_n 3, 1) := by decide +kernel
theorem d_Model_count_55 : decode c_Model_count 55 = .ok (.iload_n 3, 1) := by decide +kernel
theorem d_Model_count_56 : decode c_Model_count 56 = .ok (.bipush 16, 2) := by decide +kernel
theorem d_Model_count_58 : decode c_Model_count 58 = .ok (.if_icmp .ge 20, 3) := by decide +kernel
theorem d_Model_count_61 : decode c_Model_count 61 = .ok (.iload_n 2, 1) := by decide +kernel
theorem d_Model_count_62 : decode c_Model_count 62 = .ok (.aload_n 0, 1) := by decide +kernel
theorem d_Model_count_63 : decode c_Model_count 63 = .ok (.getfield 7, 3) := by decide +kernel
theorem d_Model_count_66 : decode c_Model_count 66 = .ok (.iconst 3, 1) := by decide +kernel
theorem d_Model_count_67 : decode c_Model_count 67 = .ok (.iload_n 3, 1) := by decide +kernel
theorem d_Model_count_68 : decode c_Model_count 68 = .ok (.iadd, 1) := by decide +kernel
theorem d_Model_count_69 : decode c_Model_count 69 = .ok (.iaload, 1) := by decide +kernel
theorem d_Model_count_70 : decode c_Model_count 70 = .ok (.iadd, 1) := by decide +kernel
theorem d_Model_count_71 : decode c_Model_count 71 = .ok (.istore_n 2, 1) := by decide +kernel
theorem d_Model_count_72 : decode c_Model_count 72 = .ok (.iinc 3 1, 3) := by decide +kernel
theorem d_Model_count_75 : decode c_Model_count 75 = .ok (.goto (-20), 3) := by decide +kernel
theorem d_Model_count_78 : decode c_Model_count 78 = .ok (.iload_n 2, 1) := by decide +kernel
theorem d_Model_count_79 : decode c_Model_count 79 = .ok (.ireturn, 1) := by decide +kernel
theorem d_Model_count_80 : decode c_Model_count 80 = .ok (.aload_n 0, 1) := by decide +kernel
theorem d_Model_count_81 : decode c_Model_count 81 = .ok (.ldc 38, 2) := by decide +kernel
theorem d_Model_count_83 : decode c_Model_count 83 = .ok (.invokevirtual 44, 3) := by decide +kernel
theorem d_Model_count_86 : decode c_Model_count 86 = .ok (.ireturn, 1) := by decide +kernel
theorem d_Model_status_0 : decode c_Model_status 0 = .ok (.iload_n 1, 1) := by decide +kernel
theorem d_Model_status_1 : decode c_Model_status 1 = .ok (.i2l, 1) := by decide +kernel
theorem d_Model_status_2 : decode c_Model_status 2 = .ok (.ldc2_w 161, 3) := by decide +kernel
theorem d_Model_status_5 : decode c_Model_status 5 = .ok (.ldc2_w 264, 3) := by decide +kernel
theorem d_Model_status_8 : decode c_Model_status 8 = .ok (.invokestatic 54, 3) := by decide +kernel
theorem d_Model_status_11 : decode c_Model_status 11 = .ok (.ifCond .eq 14, 3) := by decide +kernel
theorem d_Model_status_14 : decode c_Model_status 14 = .ok (.aload_n 0, 1) := by decide +kernel
theorem d_Model_status_15 : decode c_Model_status 15 = .ok (.getfield 22, 3) := by decide +kernel
theorem d_Model_status_18 : decode c_Model_status 18 = .ok (.iload_n 1, 1) := by decide +kernel
theorem d_Model_status_19 : decode c_Model_status 19 = .ok (.iconst 1, 1) := by decide +kernel
theorem d_Model_status_20 : decode c_Model_status 20 = .ok (.iadd, 1) := by decide +kernel
theorem d_Model_status_21 : decode c_Model_status 21 = .ok (.iaload, 1) := by decide +kernel
theorem d_Model_status_22 : decode c_Model_status 22 = .ok (.goto 9, 3) := by decide +kernel
theorem d_Model_status_25 : decode c_Model_status 25 = .ok (.aload_n 0, 1) := by decide +kernel
theorem d_Model_status_26 : decode c_Model_status 26 = .ok (.ldc 38, 2) := by decide +kernel
theorem d_Model_status_28 : decode c_Model_status 28 = .ok (.invokevirtual 44, 3) := by decide +kernel
theorem d_Model_status_31 : decode c_Model_status 31 = .ok (.ireturn, 1) := by decide +kernel
