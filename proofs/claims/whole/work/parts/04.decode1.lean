theorem d_Sheet_isMissing_0 : decode c_Sheet_isMissing 0 = .ok (.aload_n 0, 1) := by decide +kernel
theorem d_Sheet_isMissing_1 : decode c_Sheet_isMissing 1 = .ok (.getfield 15, 3) := by decide +kernel
theorem d_Sheet_isMissing_4 : decode c_Sheet_isMissing 4 = .ok (.ifCond .ne 7, 3) := by decide +kernel
theorem d_Sheet_isMissing_7 : decode c_Sheet_isMissing 7 = .ok (.iconst 1, 1) := by decide +kernel
theorem d_Sheet_isMissing_8 : decode c_Sheet_isMissing 8 = .ok (.goto 4, 3) := by decide +kernel
theorem d_Sheet_isMissing_11 : decode c_Sheet_isMissing 11 = .ok (.iconst 0, 1) := by decide +kernel
theorem d_Sheet_isMissing_12 : decode c_Sheet_isMissing 12 = .ok (.ireturn, 1) := by decide +kernel
theorem d_Sheet_renew_0 : decode c_Sheet_renew 0 = .ok (.aload_n 0, 1) := by decide +kernel
theorem d_Sheet_renew_1 : decode c_Sheet_renew 1 = .ok (.iload_n 1, 1) := by decide +kernel
theorem d_Sheet_renew_2 : decode c_Sheet_renew 2 = .ok (.putfield 15, 3) := by decide +kernel
theorem d_Sheet_renew_5 : decode c_Sheet_renew 5 = .ok (.aload_n 0, 1) := by decide +kernel
theorem d_Sheet_renew_6 : decode c_Sheet_renew 6 = .ok (.iload_n 1, 1) := by decide +kernel
theorem d_Sheet_renew_7 : decode c_Sheet_renew 7 = .ok (.ifCond .ne 7, 3) := by decide +kernel
theorem d_Sheet_renew_10 : decode c_Sheet_renew 10 = .ok (.iconst 0, 1) := by decide +kernel
theorem d_Sheet_renew_11 : decode c_Sheet_renew 11 = .ok (.goto 4, 3) := by decide +kernel
theorem d_Sheet_renew_14 : decode c_Sheet_renew 14 = .ok (.iload_n 2, 1) := by decide +kernel
theorem d_Sheet_renew_15 : decode c_Sheet_renew 15 = .ok (.putfield 19, 3) := by decide +kernel
theorem d_Sheet_renew_18 : decode c_Sheet_renew 18 = .ok (.iconst 0, 1) := by decide +kernel
theorem d_Sheet_renew_19 : decode c_Sheet_renew 19 = .ok (.istore_n 3, 1) := by decide +kernel
theorem d_Sheet_renew_20 : decode c_Sheet_renew 20 = .ok (.iload_n 3, 1) := by decide +kernel
theorem d_Sheet_renew_21 : decode c_Sheet_renew 21 = .ok (.bipush 40, 2) := by decide +kernel
theorem d_Sheet_renew_23 : decode c_Sheet_renew 23 = .ok (.if_icmp .ge 16, 3) := by decide +kernel
theorem d_Sheet_renew_26 : decode c_Sheet_renew 26 = .ok (.aload_n 0, 1) := by decide +kernel
theorem d_Sheet_renew_27 : decode c_Sheet_renew 27 = .ok (.getfield 9, 3) := by decide +kernel
theorem d_Sheet_renew_30 : decode c_Sheet_renew 30 = .ok (.iload_n 3, 1) := by decide +kernel
theorem d_Sheet_renew_31 : decode c_Sheet_renew 31 = .ok (.lconst 0, 1) := by decide +kernel
theorem d_Sheet_renew_32 : decode c_Sheet_renew 32 = .ok (.lastore, 1) := by decide +kernel
theorem d_Sheet_renew_33 : decode c_Sheet_renew 33 = .ok (.iinc 3 1, 3) := by decide +kernel
theorem d_Sheet_renew_36 : decode c_Sheet_renew 36 = .ok (.goto (-16), 3) := by decide +kernel
theorem d_Sheet_renew_39 : decode c_Sheet_renew 39 = .ok (.return_, 1) := by decide +kernel
theorem d_Sheet_put_0 : decode c_Sheet_put 0 = .ok (.aload_n 0, 1) := by decide +kernel
theorem d_Sheet_put_1 : decode c_Sheet_put 1 = .ok (.getfield 15, 3) := by decide +kernel
theorem d_Sheet_put_4 : decode c_Sheet_put 4 = .ok (.bipush 8, 2) := by decide +kernel
theorem d_Sheet_put_6 : decode c_Sheet_put 6 = .ok (.if_icmp .ne 16, 3) := by decide +kernel
theorem d_Sheet_put_9 : decode c_Sheet_put 9 = .ok (.aload_n 0, 1) := by decide +kernel
theorem d_Sheet_put_10 : decode c_Sheet_put 10 = .ok (.getfield 9, 3) := by decide +kernel
theorem d_Sheet_put_13 : decode c_Sheet_put 13 = .ok (.iload_n 1, 1) := by decide +kernel
theorem d_Sheet_put_14 : decode c_Sheet_put 14 = .ok (.lload_n 2, 1) := by decide +kernel
theorem d_Sheet_put_15 : decode c_Sheet_put 15 = .ok (.l2i, 1) := by decide +kernel
theorem d_Sheet_put_16 : decode c_Sheet_put 16 = .ok (.i2b, 1) := by decide +kernel
theorem d_Sheet_put_17 : decode c_Sheet_put 17 = .ok (.i2l, 1) := by decide +kernel
theorem d_Sheet_put_18 : decode c_Sheet_put 18 = .ok (.lastore, 1) := by decide +kernel
theorem d_Sheet_put_19 : decode c_Sheet_put 19 = .ok (.goto 32, 3) := by decide +kernel
theorem d_Sheet_put_22 : decode c_Sheet_put 22 = .ok (.aload_n 0, 1) := by decide +kernel
theorem d_Sheet_put_23 : decode c_Sheet_put 23 = .ok (.getfield 15, 3) := by decide +kernel
theorem d_Sheet_put_26 : decode c_Sheet_put 26 = .ok (.bipush 16, 2) := by decide +kernel
theorem d_Sheet_put_28 : decode c_Sheet_put 28 = .ok (.if_icmp .ne 16, 3) := by decide +kernel
theorem d_Sheet_put_31 : decode c_Sheet_put 31 = .ok (.aload_n 0, 1) := by decide +kernel
theorem d_Sheet_put_32 : decode c_Sheet_put 32 = .ok (.getfield 9, 3) := by decide +kernel
theorem d_Sheet_put_35 : decode c_Sheet_put 35 = .ok (.iload_n 1, 1) := by decide +kernel
theorem d_Sheet_put_36 : decode c_Sheet_put 36 = .ok (.lload_n 2, 1) := by decide +kernel
theorem d_Sheet_put_37 : decode c_Sheet_put 37 = .ok (.l2i, 1) := by decide +kernel
theorem d_Sheet_put_38 : decode c_Sheet_put 38 = .ok (.i2s, 1) := by decide +kernel
theorem d_Sheet_put_39 : decode c_Sheet_put 39 = .ok (.i2l, 1) := by decide +kernel
theorem d_Sheet_put_40 : decode c_Sheet_put 40 = .ok (.lastore, 1) := by decide +kernel
theorem d_Sheet_put_41 : decode c_Sheet_put 41 = .ok (.goto 10, 3) := by decide +kernel
theorem d_Sheet_put_44 : decode c_Sheet_put 44 = .ok (.aload_n 0, 1) := by decide +kernel
theorem d_Sheet_put_45 : decode c_Sheet_put 45 = .ok (.getfield 9, 3) := by decide +kernel
theorem d_Sheet_put_48 : decode c_Sheet_put 48 = .ok (.iload_n 1, 1) := by decide +kernel
theorem d_Sheet_put_49 : decode c_Sheet_put 49 = .ok (.lload_n 2, 1) := by decide +kernel
theorem d_Sheet_put_50 : decode c_Sheet_put 50 = .ok (.lastore, 1) := by decide +kernel
theorem d_Sheet_put_51 : decode c_Sheet_put 51 = .ok (.return_, 1) := by decide +kernel
theorem d_Sheet_hasRun_0 : decode c_Sheet_hasRun 0 = .ok (.iload_n 1, 1) := by decide +kernel
theorem d_Sheet_hasRun_1 : decode c_Sheet_hasRun 1 = .ok (.ifCond .lt 29, 3) := by decide +kernel
theorem d_Sheet_hasRun_4 : decode c_Sheet_hasRun 4 = .ok (.iload_n 2, 1) := by decide +kernel
theorem d_Sheet_hasRun_5 : decode c_Sheet_hasRun 5 = .ok (.ifCond .lt 25, 3) := by decide +kernel
theorem d_Sheet_hasRun_8 : decode c_Sheet_hasRun 8 = .ok (.iload_n 1, 1) := by decide +kernel
theorem d_Sheet_hasRun_9 : decode c_Sheet_hasRun 9 = .ok (.aload_n 0, 1) := by decide +kernel
theorem d_Sheet_hasRun_10 : decode c_Sheet_hasRun 10 = .ok (.getfield 19, 3) := by decide +kernel
theorem d_Sheet_hasRun_13 : decode c_Sheet_hasRun 13 = .ok (.if_icmp .gt 17, 3) := by decide +kernel
theorem d_Sheet_hasRun_16 : decode c_Sheet_hasRun 16 = .ok (.iload_n 2, 1) := by decide +kernel
theorem d_Sheet_hasRun_17 : decode c_Sheet_hasRun 17 = .ok (.aload_n 0, 1) := by decide +kernel
theorem d_Sheet_hasRun_18 : decode c_Sheet_hasRun 18 = .ok (.getfield 19, 3) := by decide +kernel
theorem d_Sheet_hasRun_21 : decode c_Sheet_hasRun 21 = .ok (.iload_n 1, 1) := by decide +kernel
theorem d_Sheet_hasRun_22 : decode c_Sheet_hasRun 22 = .ok (.isub, 1) := by decide +kernel
theorem d_Sheet_hasRun_23 : decode c_Sheet_hasRun 23 = .ok (.if_icmp .gt 7, 3) := by decide +kernel
theorem d_Sheet_hasRun_26 : decode c_Sheet_hasRun 26 = .ok (.iconst 1, 1) := by decide +kernel
theorem d_Sheet_hasRun_27 : decode c_Sheet_hasRun 27 = .ok (.goto 4, 3) := by decide +kernel
theorem d_Sheet_hasRun_30 : decode c_Sheet_hasRun 30 = .ok (.iconst 0, 1) := by decide +kernel
theorem d_Sheet_hasRun_31 : decode c_Sheet_hasRun 31 = .ok (.ireturn, 1) := by decide +kernel
theorem d_Thing_become_0 : decode c_Thing_become 0 = .ok (.aload_n 0, 1) := by decide +kernel
theorem d_Thing_become_1 : decode c_Thing_become 1 = .ok (.aload_n 1, 1) := by decide +kernel
theorem d_Thing_become_2 : decode c_Thing_become 2 = .ok (.getfield 9, 3) := by decide +kernel
theorem d_Thing_become_5 : decode c_Thing_become 5 = .ok (.putfield 9, 3) := by decide +kernel
theorem d_Thing_become_8 : decode c_Thing_become 8 = .ok (.aload_n 0, 1) := by decide +kernel
theorem d_Thing_become_9 : decode c_Thing_become 9 = .ok (.aload_n 1, 1) := by decide +kernel
theorem d_Thing_become_10 : decode c_Thing_become 10 = .ok (.getfield 15, 3) := by decide +kernel
theorem d_Thing_become_13 : decode c_Thing_become 13 = .ok (.putfield 15, 3) := by decide +kernel
theorem d_Thing_become_16 : decode c_Thing_become 16 = .ok (.aload_n 0, 1) := by decide +kernel
theorem d_Thing_become_17 : decode c_Thing_become 17 = .ok (.aload_n 1, 1) := by decide +kernel
theorem d_Thing_become_18 : decode c_Thing_become 18 = .ok (.getfield 18, 3) := by decide +kernel
theorem d_Thing_become_21 : decode c_Thing_become 21 = .ok (.putfield 18, 3) := by decide +kernel
theorem d_Thing_become_24 : decode c_Thing_become 24 = .ok (.aload_n 0, 1) := by decide +kernel
theorem d_Thing_become_25 : decode c_Thing_become 25 = .ok (.aload_n 1, 1) := by decide +kernel
theorem d_Thing_become_26 : decode c_Thing_become 26 = .ok (.getfield 21, 3) := by decide +kernel
theorem d_Thing_become_29 : decode c_Thing_become 29 = .ok (.putfield 21, 3) := by decide +kernel
theorem d_Thing_become_32 : decode c_Thing_become 32 = .ok (.aload_n 0, 1) := by decide +kernel
theorem d_Thing_become_33 : decode c_Thing_become 33 = .ok (.aload_n 1, 1) := by decide +kernel
theorem d_Thing_become_34 : decode c_Thing_become 34 = .ok (.getfield 24, 3) := by decide +kernel
theorem d_Thing_become_37 : decode c_Thing_become 37 = .ok (.putfield 24, 3) := by decide +kernel
theorem d_Thing_become_40 : decode c_Thing_become 40 = .ok (.aload_n 0, 1) := by decide +kernel
theorem d_Thing_become_41 : decode c_Thing_become 41 = .ok (.aload_n 1, 1) := by decide +kernel
theorem d_Thing_become_42 : decode c_Thing_become 42 = .ok (.getfield 27, 3) := by decide +kernel
theorem d_Thing_become_45 : decode c_Thing_become 45 = .ok (.putfield 27, 3) := by decide +kernel
theorem d_Thing_become_48 : decode c_Thing_become 48 = .ok (.return_, 1) := by decide +kernel
theorem d_Shore_become_0 : decode c_Shore_become 0 = .ok (.aload_n 1, 1) := by decide +kernel
theorem d_Shore_become_1 : decode c_Shore_become 1 = .ok (.getfield 9, 3) := by decide +kernel
theorem d_Shore_become_4 : decode c_Shore_become 4 = .ok (.iconst 0, 1) := by decide +kernel
theorem d_Shore_become_5 : decode c_Shore_become 5 = .ok (.aload_n 0, 1) := by decide +kernel
theorem d_Shore_become_6 : decode c_Shore_become 6 = .ok (.getfield 9, 3) := by decide +kernel
theorem d_Shore_become_9 : decode c_Shore_become 9 = .ok (.iconst 0, 1) := by decide +kernel
theorem d_Shore_become_10 : decode c_Shore_become 10 = .ok (.bipush 16, 2) := by decide +kernel
theorem d_Shore_become_12 : decode c_Shore_become 12 = .ok (.invokestatic 29, 3) := by decide +kernel
theorem d_Shore_become_15 : decode c_Shore_become 15 = .ok (.aload_n 1, 1) := by decide +kernel
theorem d_Shore_become_16 : decode c_Shore_become 16 = .ok (.getfield 15, 3) := by decide +kernel
theorem d_Shore_become_19 : decode c_Shore_become 19 = .ok (.iconst 0, 1) := by decide +kernel
theorem d_Shore_become_20 : decode c_Shore_become 20 = .ok (.aload_n 0, 1) := by decide +kernel
theorem d_Shore_become_21 : decode c_Shore_become 21 = .ok (.getfield 15, 3) := by decide +kernel
theorem d_Shore_become_24 : decode c_Shore_become 24 = .ok (.iconst 0, 1) := by decide +kernel
theorem d_Shore_become_25 : decode c_Shore_become 25 = .ok (.iconst 4, 1) := by decide +kernel
theorem d_Shore_become_26 : decode c_Shore_become 26 = .ok (.invokestatic 29, 3) := by decide +kernel
theorem d_Shore_become_29 : decode c_Shore_become 29 = .ok (.aload_n 0, 1) := by decide +kernel
theorem d_Shore_become_30 : decode c_Shore_become 30 = .ok (.aload_n 1, 1) := by decide +kernel
theorem d_Shore_become_31 : decode c_Shore_become 31 = .ok (.getfield 35, 3) := by decide +kernel
theorem d_Shore_become_34 : decode c_Shore_become 34 = .ok (.putfield 35, 3) := by decide +kernel
theorem d_Shore_become_37 : decode c_Shore_become 37 = .ok (.aload_n 0, 1) := by decide +kernel
theorem d_Shore_become_38 : decode c_Shore_become 38 = .ok (.aload_n 1, 1) := by decide +kernel
theorem d_Shore_become_39 : decode c_Shore_become 39 = .ok (.getfield 38, 3) := by decide +kernel
theorem d_Shore_become_42 : decode c_Shore_become 42 = .ok (.putfield 38, 3) := by decide +kernel
theorem d_Shore_become_45 : decode c_Shore_become 45 = .ok (.aload_n 0, 1) := by decide +kernel
theorem d_Shore_become_46 : decode c_Shore_become 46 = .ok (.aload_n 1, 1) := by decide +kernel
theorem d_Shore_become_47 : decode c_Shore_become 47 = .ok (.getfield 24, 3) := by decide +kernel
theorem d_Shore_become_50 : decode c_Shore_become 50 = .ok (.putfield 24, 3) := by decide +kernel
theorem d_Shore_become_53 : decode c_Shore_become 53 = .ok (.iconst 0, 1) := by decide +kernel
theorem d_Shore_become_54 : decode c_Shore_become 54 = .ok (.istore_n 2, 1) := by decide +kernel
theorem d_Shore_become_55 : decode c_Shore_become 55 = .ok (.iload_n 2, 1) := by decide +kernel
theorem d_Shore_become_56 : decode c_Shore_become 56 = .ok (.aload_n 0, 1) := by decide +kernel
theorem d_Shore_become_57 : decode c_Shore_become 57 = .ok (.getfield 35, 3) := by decide +kernel
theorem d_Shore_become_60 : decode c_Shore_become 60 = .ok (.if_icmp .ge 24, 3) := by decide +kernel
theorem d_Shore_become_63 : decode c_Shore_become 63 = .ok (.aload_n 0, 1) := by decide +kernel
theorem d_Shore_become_64 : decode c_Shore_become 64 = .ok (.getfield 20, 3) := by decide +kernel
theorem d_Shore_become_67 : decode c_Shore_become 67 = .ok (.iload_n 2, 1) := by decide +kernel
theorem d_Shore_become_68 : decode c_Shore_become 68 = .ok (.aaload, 1) := by decide +kernel
theorem d_Shore_become_69 : decode c_Shore_become 69 = .ok (.aload_n 1, 1) := by decide +kernel
theorem d_Shore_become_70 : decode c_Shore_become 70 = .ok (.getfield 20, 3) := by decide +kernel
theorem d_Shore_become_73 : decode c_Shore_become 73 = .ok (.iload_n 2, 1) := by decide +kernel
theorem d_Shore_become_74 : decode c_Shore_become 74 = .ok (.aaload, 1) := by decide +kernel
theorem d_Shore_become_75 : decode c_Shore_become 75 = .ok (.invokevirtual 41, 3) := by decide +kernel
theorem d_Shore_become_78 : decode c_Shore_become 78 = .ok (.iinc 2 1, 3) := by decide +kernel
theorem d_Shore_become_81 : decode c_Shore_become 81 = .ok (.goto (-26), 3) := by decide +kernel
theorem d_Shore_become_84 : decode c_Shore_become 84 = .ok (.return_, 1) := by decide +kernel
theorem d_Tide_isBelow_0 : decode c_Tide_isBelow 0 = .ok (.iload_n 0, 1) := by decide +kernel
theorem d_Tide_isBelow_1 : decode c_Tide_isBelow 1 = .ok (.ifCond .lt 12, 3) := by decide +kernel
theorem d_Tide_isBelow_4 : decode c_Tide_isBelow 4 = .ok (.iload_n 0, 1) := by decide +kernel
theorem d_Tide_isBelow_5 : decode c_Tide_isBelow 5 = .ok (.iload_n 1, 1) := by decide +kernel
theorem d_Tide_isBelow_6 : decode c_Tide_isBelow 6 = .ok (.if_icmp .ge 7, 3) := by decide +kernel
theorem d_Tide_isBelow_9 : decode c_Tide_isBelow 9 = .ok (.iconst 1, 1) := by decide +kernel
theorem d_Tide_isBelow_10 : decode c_Tide_isBelow 10 = .ok (.goto 4, 3) := by decide +kernel
theorem d_Tide_isBelow_13 : decode c_Tide_isBelow 13 = .ok (.iconst 0, 1) := by decide +kernel
theorem d_Tide_isBelow_14 : decode c_Tide_isBelow 14 = .ok (.ireturn, 1) := by decide +kernel
theorem d_Shore_has_0 : decode c_Shore_has 0 = .ok (.iload_n 1, 1) := by decide +kernel
theorem d_Shore_has_1 : decode c_Shore_has 1 = .ok (.aload_n 0, 1) := by decide +kernel
theorem d_Shore_has_2 : decode c_Shore_has 2 = .ok (.getfield 35, 3) := by decide +kernel
theorem d_Shore_has_5 : decode c_Shore_has 5 = .ok (.invokestatic 45, 3) := by decide +kernel
theorem d_Shore_has_8 : decode c_Shore_has 8 = .ok (.ireturn, 1) := by decide +kernel
theorem d_Shore_isFull_0 : decode c_Shore_isFull 0 = .ok (.aload_n 0, 1) := by decide +kernel
theorem d_Shore_isFull_1 : decode c_Shore_isFull 1 = .ok (.getfield 35, 3) := by decide +kernel
theorem d_Shore_isFull_4 : decode c_Shore_isFull 4 = .ok (.bipush 10, 2) := by decide +kernel
theorem d_Shore_isFull_6 : decode c_Shore_isFull 6 = .ok (.if_icmp .lt 7, 3) := by decide +kernel
theorem d_Shore_isFull_9 : decode c_Shore_isFull 9 = .ok (.iconst 1, 1) := by decide +kernel
theorem d_Shore_isFull_10 : decode c_Shore_isFull 10 = .ok (.goto 4, 3) := by decide +kernel
theorem d_Shore_isFull_13 : decode c_Shore_isFull 13 = .ok (.iconst 0, 1) := by decide +kernel
theorem d_Shore_isFull_14 : decode c_Shore_isFull 14 = .ok (.ireturn, 1) := by decide +kernel
theorem d_Thing_begin_0 : decode c_Thing_begin 0 = .ok (.aload_n 0, 1) := by decide +kernel
theorem d_Thing_begin_1 : decode c_Thing_begin 1 = .ok (.iload_n 1, 1) := by decide +kernel
theorem d_Thing_begin_2 : decode c_Thing_begin 2 = .ok (.putfield 9, 3) := by decide +kernel
theorem d_Thing_begin_5 : decode c_Thing_begin 5 = .ok (.aload_n 0, 1) := by decide +kernel
theorem d_Thing_begin_6 : decode c_Thing_begin 6 = .ok (.iload_n 2, 1) := by decide +kernel
theorem d_Thing_begin_7 : decode c_Thing_begin 7 = .ok (.putfield 15, 3) := by decide +kernel
theorem d_Thing_begin_10 : decode c_Thing_begin 10 = .ok (.aload_n 0, 1) := by decide +kernel
theorem d_Thing_begin_11 : decode c_Thing_begin 11 = .ok (.iconst 0, 1) := by decide +kernel
theorem d_Thing_begin_12 : decode c_Thing_begin 12 = .ok (.putfield 18, 3) := by decide +kernel
theorem d_Thing_begin_15 : decode c_Thing_begin 15 = .ok (.aload_n 0, 1) := by decide +kernel
theorem d_Thing_begin_16 : decode c_Thing_begin 16 = .ok (.bipush 10, 2) := by decide +kernel
theorem d_Thing_begin_18 : decode c_Thing_begin 18 = .ok (.putfield 21, 3) := by decide +kernel
theorem d_Thing_begin_21 : decode c_Thing_begin 21 = .ok (.aload_n 0, 1) := by decide +kernel
theorem d_Thing_begin_22 : decode c_Thing_begin 22 = .ok (.iconst 0, 1) := by decide +kernel
theorem d_Thing_begin_23 : decode c_Thing_begin 23 = .ok (.putfield 24, 3) := by decide +kernel
theorem d_Thing_begin_26 : decode c_Thing_begin 26 = .ok (.aload_n 0, 1) := by decide +kernel
theorem d_Thing_begin_27 : decode c_Thing_begin 27 = .ok (.iconst 0, 1) := by decide +kernel
theorem d_Thing_begin_28 : decode c_Thing_begin 28 = .ok (.putfield 27, 3) := by decide +kernel
theorem d_Thing_begin_31 : decode c_Thing_begin 31 = .ok (.return_, 1) := by decide +kernel
theorem d_Shore_add_0 : decode c_Shore_add 0 = .ok (.aload_n 0, 1) := by decide +kernel
theorem d_Shore_add_1 : decode c_Shore_add 1 = .ok (.invokevirtual 49, 3) := by decide +kernel
theorem d_Shore_add_4 : decode c_Shore_add 4 = .ok (.ifCond .eq 5, 3) := by decide +kernel
theorem d_Shore_add_7 : decode c_Shore_add 7 = .ok (.iconst (-1), 1) := by decide +kernel
theorem d_Shore_add_8 : decode c_Shore_add 8 = .ok (.ireturn, 1) := by decide +kernel
theorem d_Shore_add_9 : decode c_Shore_add 9 = .ok (.aload_n 0, 1) := by decide +kernel
theorem d_Shore_add_10 : decode c_Shore_add 10 = .ok (.getfield 20, 3) := by decide +kernel
theorem d_Shore_add_13 : decode c_Shore_add 13 = .ok (.aload_n 0, 1) := by decide +kernel
theorem d_Shore_add_14 : decode c_Shore_add 14 = .ok (.getfield 35, 3) := by decide +kernel
theorem d_Shore_add_17 : decode c_Shore_add 17 = .ok (.aaload, 1) := by decide +kernel
theorem d_Shore_add_18 : decode c_Shore_add 18 = .ok (.iload_n 1, 1) := by decide +kernel
theorem d_Shore_add_19 : decode c_Shore_add 19 = .ok (.iload_n 2, 1) := by decide +kernel
theorem d_Shore_add_20 : decode c_Shore_add 20 = .ok (.invokevirtual 53, 3) := by decide +kernel
theorem d_Shore_add_23 : decode c_Shore_add 23 = .ok (.aload_n 0, 1) := by decide +kernel
theorem d_Shore_add_24 : decode c_Shore_add 24 = .ok (.dup, 1) := by decide +kernel
theorem d_Shore_add_25 : decode c_Shore_add 25 = .ok (.getfield 35, 3) := by decide +kernel
theorem d_Shore_add_28 : decode c_Shore_add 28 = .ok (.iconst 1, 1) := by decide +kernel
theorem d_Shore_add_29 : decode c_Shore_add 29 = .ok (.iadd, 1) := by decide +kernel
theorem d_Shore_add_30 : decode c_Shore_add 30 = .ok (.putfield 35, 3) := by decide +kernel
theorem d_Shore_add_33 : decode c_Shore_add 33 = .ok (.aload_n 0, 1) := by decide +kernel
theorem d_Shore_add_34 : decode c_Shore_add 34 = .ok (.getfield 35, 3) := by decide +kernel
theorem d_Shore_add_37 : decode c_Shore_add 37 = .ok (.iconst 1, 1) := by decide +kernel
theorem d_Shore_add_38 : decode c_Shore_add 38 = .ok (.isub, 1) := by decide +kernel
theorem d_Shore_add_39 : decode c_Shore_add 39 = .ok (.ireturn, 1) := by decide +kernel
theorem d_Shore_laidAt_0 : decode c_Shore_laidAt 0 = .ok (.iconst 0, 1) := by decide +kernel
theorem d_Shore_laidAt_1 : decode c_Shore_laidAt 1 = .ok (.istore_n 2, 1) := by decide +kernel
theorem d_Shore_laidAt_2 : decode c_Shore_laidAt 2 = .ok (.iconst 0, 1) := by decide +kernel
theorem d_Shore_laidAt_3 : decode c_Shore_laidAt 3 = .ok (.istore_n 3, 1) := by decide +kernel
theorem d_Shore_laidAt_4 : decode c_Shore_laidAt 4 = .ok (.iload_n 3, 1) := by decide +kernel
theorem d_Shore_laidAt_5 : decode c_Shore_laidAt 5 = .ok (.aload_n 0, 1) := by decide +kernel
theorem d_Shore_laidAt_6 : decode c_Shore_laidAt 6 = .ok (.getfield 35, 3) := by decide +kernel
theorem d_Shore_laidAt_9 : decode c_Shore_laidAt 9 = .ok (.if_icmp .ge 41, 3) := by decide +kernel
theorem d_Shore_laidAt_12 : decode c_Shore_laidAt 12 = .ok (.aload_n 0, 1) := by decide +kernel
theorem d_Shore_laidAt_13 : decode c_Shore_laidAt 13 = .ok (.getfield 20, 3) := by decide +kernel
theorem d_Shore_laidAt_16 : decode c_Shore_laidAt 16 = .ok (.iload_n 3, 1) := by decide +kernel
theorem d_Shore_laidAt_17 : decode c_Shore_laidAt 17 = .ok (.aaload, 1) := by decide +kernel
theorem d_Shore_laidAt_18 : decode c_Shore_laidAt 18 = .ok (.getfield 57, 3) := by decide +kernel
theorem d_Shore_laidAt_21 : decode c_Shore_laidAt 21 = .ok (.iconst 1, 1) := by decide +kernel
theorem d_Shore_laidAt_22 : decode c_Shore_laidAt 22 = .ok (.if_icmp .ne 22, 3) := by decide +kernel
theorem d_Shore_laidAt_25 : decode c_Shore_laidAt 25 = .ok (.aload_n 0, 1) := by decide +kernel
theorem d_Shore_laidAt_26 : decode c_Shore_laidAt 26 = .ok (.getfield 20, 3) := by decide +kernel
theorem d_Shore_laidAt_29 : decode c_Shore_laidAt 29 = .ok (.iload_n 3, 1) := by decide +kernel
theorem d_Shore_laidAt_30 : decode c_Shore_laidAt 30 = .ok (.aaload, 1) := by decide +kernel
theorem d_Shore_laidAt_31 : decode c_Shore_laidAt 31 = .ok (.getfield 60, 3) := by decide +kernel
theorem d_Shore_laidAt_34 : decode c_Shore_laidAt 34 = .ok (.iload_n 1, 1) := by decide +kernel
theorem d_Shore_laidAt_35 : decode c_Shore_laidAt 35 = .ok (.if_icmp .ne 9, 3) := by decide +kernel
theorem d_Shore_laidAt_38 : decode c_Shore_laidAt 38 = .ok (.iload_n 2, 1) := by decide +kernel
theorem d_Shore_laidAt_39 : decode c_Shore_laidAt 39 = .ok (.iconst 1, 1) := by decide +kernel
theorem d_Shore_laidAt_40 : decode c_Shore_laidAt 40 = .ok (.iload_n 3, 1) := by decide +kernel
theorem d_Shore_laidAt_41 : decode c_Shore_laidAt 41 = .ok (.ishl, 1) := by decide +kernel
theorem d_Shore_laidAt_42 : decode c_Shore_laidAt 42 = .ok (.ior, 1) := by decide +kernel
theorem d_Shore_laidAt_43 : decode c_Shore_laidAt 43 = .ok (.istore_n 2, 1) := by decide +kernel
theorem d_Shore_laidAt_44 : decode c_Shore_laidAt 44 = .ok (.iinc 3 1, 3) := by decide +kernel
theorem d_Shore_laidAt_47 : decode c_Shore_laidAt 47 = .ok (.goto (-43), 3) := by decide +kernel
theorem d_Shore_laidAt_50 : decode c_Shore_laidAt 50 = .ok (.iload_n 2, 1) := by decide +kernel
theorem d_Shore_laidAt_51 : decode c_Shore_laidAt 51 = .ok (.ireturn, 1) := by decide +kernel
theorem d_Shore_allIn_0 : decode c_Shore_allIn 0 = .ok (.iconst 0, 1) := by decide +kernel
theorem d_Shore_allIn_1 : decode c_Shore_allIn 1 = .ok (.istore_n 2, 1) := by decide +kernel
theorem d_Shore_allIn_2 : decode c_Shore_allIn 2 = .ok (.iconst 0, 1) := by decide +kernel
theorem d_Shore_allIn_3 : decode c_Shore_allIn 3 = .ok (.istore_n 3, 1) := by decide +kernel
theorem d_Shore_allIn_4 : decode c_Shore_allIn 4 = .ok (.iload_n 3, 1) := by decide +kernel
theorem d_Shore_allIn_5 : decode c_Shore_allIn 5 = .ok (.aload_n 0, 1) := by decide +kernel
theorem d_Shore_allIn_6 : decode c_Shore_allIn 6 = .ok (.getfield 35, 3) := by decide +kernel
theorem d_Shore_allIn_9 : decode c_Shore_allIn 9 = .ok (.if_icmp .ge 28, 3) := by decide +kernel
theorem d_Shore_allIn_12 : decode c_Shore_allIn 12 = .ok (.aload_n 0, 1) := by decide +kernel
theorem d_Shore_allIn_13 : decode c_Shore_allIn 13 = .ok (.getfield 20, 3) := by decide +kernel
theorem d_Shore_allIn_16 : decode c_Shore_allIn 16 = .ok (.iload_n 3, 1) := by decide +kernel
theorem d_Shore_allIn_17 : decode c_Shore_allIn 17 = .ok (.aaload, 1) := by decide +kernel
theorem d_Shore_allIn_18 : decode c_Shore_allIn 18 = .ok (.getfield 57, 3) := by decide +kernel
theorem d_Shore_allIn_21 : decode c_Shore_allIn 21 = .ok (.iload_n 1, 1) := by decide +kernel
theorem d_Shore_allIn_22 : decode c_Shore_allIn 22 = .ok (.if_icmp .ne 9, 3) := by decide +kernel
theorem d_Shore_allIn_25 : decode c_Shore_allIn 25 = .ok (.iload_n 2, 1) := by decide +kernel
theorem d_Shore_allIn_26 : decode c_Shore_allIn 26 = .ok (.iconst 1, 1) := by decide +kernel
theorem d_Shore_allIn_27 : decode c_Shore_allIn 27 = .ok (.iload_n 3, 1) := by decide +kernel
theorem d_Shore_allIn_28 : decode c_Shore_allIn 28 = .ok (.ishl, 1) := by decide +kernel
theorem d_Shore_allIn_29 : decode c_Shore_allIn 29 = .ok (.ior, 1) := by decide +kernel
theorem d_Shore_allIn_30 : decode c_Shore_allIn 30 = .ok (.istore_n 2, 1) := by decide +kernel
theorem d_Shore_allIn_31 : decode c_Shore_allIn 31 = .ok (.iinc 3 1, 3) := by decide +kernel
theorem d_Shore_allIn_34 : decode c_Shore_allIn 34 = .ok (.goto (-30), 3) := by decide +kernel
theorem d_Shore_allIn_37 : decode c_Shore_allIn 37 = .ok (.iload_n 2, 1) := by decide +kernel
theorem d_Shore_allIn_38 : decode c_Shore_allIn 38 = .ok (.ireturn, 1) := by decide +kernel
theorem d_Shore_allWorth_0 : decode c_Shore_allWorth 0 = .ok (.iconst 0, 1) := by decide +kernel
theorem d_Shore_allWorth_1 : decode c_Shore_allWorth 1 = .ok (.istore_n 1, 1) := by decide +kernel
theorem d_Shore_allWorth_2 : decode c_Shore_allWorth 2 = .ok (.iconst 0, 1) := by decide +kernel
theorem d_Shore_allWorth_3 : decode c_Shore_allWorth 3 = .ok (.istore_n 2, 1) := by decide +kernel
theorem d_Shore_allWorth_4 : decode c_Shore_allWorth 4 = .ok (.iload_n 2, 1) := by decide +kernel
theorem d_Shore_allWorth_5 : decode c_Shore_allWorth 5 = .ok (.aload_n 0, 1) := by decide +kernel
theorem d_Shore_allWorth_6 : decode c_Shore_allWorth 6 = .ok (.getfield 35, 3) := by decide +kernel
theorem d_Shore_allWorth_9 : decode c_Shore_allWorth 9 = .ok (.if_icmp .ge 21, 3) := by decide +kernel
theorem d_Shore_allWorth_12 : decode c_Shore_allWorth 12 = .ok (.iload_n 1, 1) := by decide +kernel
theorem d_Shore_allWorth_13 : decode c_Shore_allWorth 13 = .ok (.aload_n 0, 1) := by decide +kernel
theorem d_Shore_allWorth_14 : decode c_Shore_allWorth 14 = .ok (.getfield 20, 3) := by decide +kernel
theorem d_Shore_allWorth_17 : decode c_Shore_allWorth 17 = .ok (.iload_n 2, 1) := by decide +kernel
theorem d_Shore_allWorth_18 : decode c_Shore_allWorth 18 = .ok (.aaload, 1) := by decide +kernel
theorem d_Shore_allWorth_19 : decode c_Shore_allWorth 19 = .ok (.getfield 63, 3) := by decide +kernel
theorem d_Shore_allWorth_22 : decode c_Shore_allWorth 22 = .ok (.iadd, 1) := by decide +kernel
theorem d_Shore_allWorth_23 : decode c_Shore_allWorth 23 = .ok (.istore_n 1, 1) := by decide +kernel
theorem d_Shore_allWorth_24 : decode c_Shore_allWorth 24 = .ok (.iinc 2 1, 3) := by decide +kernel
theorem d_Shore_allWorth_27 : decode c_Shore_allWorth 27 = .ok (.goto (-23), 3) := by decide +kernel
theorem d_Shore_allWorth_30 : decode c_Shore_allWorth 30 = .ok (.iload_n 1, 1) := by decide +kernel
theorem d_Shore_allWorth_31 : decode c_Shore_allWorth 31 = .ok (.ireturn, 1) := by decide +kernel
theorem d_Shore_allHeights_0 : decode c_Shore_allHeights 0 = .ok (.iconst 0, 1) := by decide +kernel
theorem d_Shore_allHeights_1 : decode c_Shore_allHeights 1 = .ok (.istore_n 1, 1) := by decide +kernel
theorem d_Shore_allHeights_2 : decode c_Shore_allHeights 2 = .ok (.iconst 0, 1) := by decide +kernel
theorem d_Shore_allHeights_3 : decode c_Shore_allHeights 3 = .ok (.istore_n 2, 1) := by decide +kernel
theorem d_Shore_allHeights_4 : decode c_Shore_allHeights 4 = .ok (.iload_n 2, 1) := by decide +kernel
theorem d_Shore_allHeights_5 : decode c_Shore_allHeights 5 = .ok (.bipush 16, 2) := by decide +kernel
theorem d_Shore_allHeights_7 : decode c_Shore_allHeights 7 = .ok (.if_icmp .ge 18, 3) := by decide +kernel
theorem d_Shore_allHeights_10 : decode c_Shore_allHeights 10 = .ok (.iload_n 1, 1) := by decide +kernel
theorem d_Shore_allHeights_11 : decode c_Shore_allHeights 11 = .ok (.aload_n 0, 1) := by decide +kernel
theorem d_Shore_allHeights_12 : decode c_Shore_allHeights 12 = .ok (.getfield 9, 3) := by decide +kernel
theorem d_Shore_allHeights_15 : decode c_Shore_allHeights 15 = .ok (.iload_n 2, 1) := by decide +kernel
theorem d_Shore_allHeights_16 : decode c_Shore_allHeights 16 = .ok (.iaload, 1) := by decide +kernel
theorem d_Shore_allHeights_17 : decode c_Shore_allHeights 17 = .ok (.iadd, 1) := by decide +kernel
theorem d_Shore_allHeights_18 : decode c_Shore_allHeights 18 = .ok (.istore_n 1, 1) := by decide +kernel
theorem d_Shore_allHeights_19 : decode c_Shore_allHeights 19 = .ok (.iinc 2 1, 3) := by decide +kernel
theorem d_Shore_allHeights_22 : decode c_Shore_allHeights 22 = .ok (.goto (-18), 3) := by decide +kernel
theorem d_Shore_allHeights_25 : decode c_Shore_allHeights 25 = .ok (.iload_n 1, 1) := by decide +kernel
theorem d_Shore_allHeights_26 : decode c_Shore_allHeights 26 = .ok (.ireturn, 1) := by decide +kernel
theorem d_Shore_cellsBelow_0 : decode c_Shore_cellsBelow 0 = .ok (.iconst 0, 1) := by decide +kernel
theorem d_Shore_cellsBelow_1 : decode c_Shore_cellsBelow 1 = .ok (.istore_n 2, 1) := by decide +kernel
theorem d_Shore_cellsBelow_2 : decode c_Shore_cellsBelow 2 = .ok (.iconst 0, 1) := by decide +kernel
theorem d_Shore_cellsBelow_3 : decode c_Shore_cellsBelow 3 = .ok (.istore_n 3, 1) := by decide +kernel
theorem d_Shore_cellsBelow_4 : decode c_Shore_cellsBelow 4 = .ok (.iload_n 3, 1) := by decide +kernel
theorem d_Shore_cellsBelow_5 : decode c_Shore_cellsBelow 5 = .ok (.bipush 16, 2) := by decide +kernel
theorem d_Shore_cellsBelow_7 : decode c_Shore_cellsBelow 7 = .ok (.if_icmp .ge 22, 3) := by decide +kernel
theorem d_Shore_cellsBelow_10 : decode c_Shore_cellsBelow 10 = .ok (.aload_n 0, 1) := by decide +kernel
theorem d_Shore_cellsBelow_11 : decode c_Shore_cellsBelow 11 = .ok (.getfield 9, 3) := by decide +kernel
theorem d_Shore_cellsBelow_14 : decode c_Shore_cellsBelow 14 = .ok (.iload_n 3, 1) := by decide +kernel
theorem d_Shore_cellsBelow_15 : decode c_Shore_cellsBelow 15 = .ok (.iaload, 1) := by decide +kernel
theorem d_Shore_cellsBelow_16 : decode c_Shore_cellsBelow 16 = .ok (.iload_n 1, 1) := by decide +kernel
theorem d_Shore_cellsBelow_17 : decode c_Shore_cellsBelow 17 = .ok (.if_icmp .ge 6, 3) := by decide +kernel
theorem d_Shore_cellsBelow_20 : decode c_Shore_cellsBelow 20 = .ok (.iinc 2 1, 3) := by decide +kernel
theorem d_Shore_cellsBelow_23 : decode c_Shore_cellsBelow 23 = .ok (.iinc 3 1, 3) := by decide +kernel
theorem d_Shore_cellsBelow_26 : decode c_Shore_cellsBelow 26 = .ok (.goto (-22), 3) := by decide +kernel
theorem d_Shore_cellsBelow_29 : decode c_Shore_cellsBelow 29 = .ok (.iload_n 2, 1) := by decide +kernel
theorem d_Shore_cellsBelow_30 : decode c_Shore_cellsBelow 30 = .ok (.ireturn, 1) := by decide +kernel
theorem d_Shore_allPurses_0 : decode c_Shore_allPurses 0 = .ok (.lconst 0, 1) := by decide +kernel
theorem d_Shore_allPurses_1 : decode c_Shore_allPurses 1 = .ok (.lstore_n 1, 1) := by decide +kernel
theorem d_Shore_allPurses_2 : decode c_Shore_allPurses 2 = .ok (.iconst 0, 1) := by decide +kernel
theorem d_Shore_allPurses_3 : decode c_Shore_allPurses 3 = .ok (.istore_n 3, 1) := by decide +kernel
theorem d_Shore_allPurses_4 : decode c_Shore_allPurses 4 = .ok (.iload_n 3, 1) := by decide +kernel
theorem d_Shore_allPurses_5 : decode c_Shore_allPurses 5 = .ok (.iconst 4, 1) := by decide +kernel
theorem d_Shore_allPurses_6 : decode c_Shore_allPurses 6 = .ok (.if_icmp .ge 19, 3) := by decide +kernel
theorem d_Shore_allPurses_9 : decode c_Shore_allPurses 9 = .ok (.lload_n 1, 1) := by decide +kernel
theorem d_Shore_allPurses_10 : decode c_Shore_allPurses 10 = .ok (.aload_n 0, 1) := by decide +kernel
theorem d_Shore_allPurses_11 : decode c_Shore_allPurses 11 = .ok (.getfield 15, 3) := by decide +kernel
theorem d_Shore_allPurses_14 : decode c_Shore_allPurses 14 = .ok (.iload_n 3, 1) := by decide +kernel
theorem d_Shore_allPurses_15 : decode c_Shore_allPurses 15 = .ok (.iaload, 1) := by decide +kernel
theorem d_Shore_allPurses_16 : decode c_Shore_allPurses 16 = .ok (.i2l, 1) := by decide +kernel
theorem d_Shore_allPurses_17 : decode c_Shore_allPurses 17 = .ok (.ladd, 1) := by decide +kernel
theorem d_Shore_allPurses_18 : decode c_Shore_allPurses 18 = .ok (.lstore_n 1, 1) := by decide +kernel
theorem d_Shore_allPurses_19 : decode c_Shore_allPurses 19 = .ok (.iinc 3 1, 3) := by decide +kernel
theorem d_Shore_allPurses_22 : decode c_Shore_allPurses 22 = .ok (.goto (-18), 3) := by decide +kernel
theorem d_Shore_allPurses_25 : decode c_Shore_allPurses 25 = .ok (.lload_n 1, 1) := by decide +kernel
theorem d_Shore_allPurses_26 : decode c_Shore_allPurses 26 = .ok (.lreturn, 1) := by decide +kernel
theorem d_Tape_put_0 : decode c_Tape_put 0 = .ok (.aload_n 0, 1) := by decide +kernel
theorem d_Tape_put_1 : decode c_Tape_put 1 = .ok (.getfield 15, 3) := by decide +kernel
theorem d_Tape_put_4 : decode c_Tape_put 4 = .ok (.bipush 120, 2) := by decide +kernel
theorem d_Tape_put_6 : decode c_Tape_put 6 = .ok (.if_icmp .ge 23, 3) := by decide +kernel
theorem d_Tape_put_9 : decode c_Tape_put 9 = .ok (.aload_n 0, 1) := by decide +kernel
theorem d_Tape_put_10 : decode c_Tape_put 10 = .ok (.getfield 9, 3) := by decide +kernel
theorem d_Tape_put_13 : decode c_Tape_put 13 = .ok (.aload_n 0, 1) := by decide +kernel
theorem d_Tape_put_14 : decode c_Tape_put 14 = .ok (.getfield 15, 3) := by decide +kernel
theorem d_Tape_put_17 : decode c_Tape_put 17 = .ok (.iload_n 1, 1) := by decide +kernel
theorem d_Tape_put_18 : decode c_Tape_put 18 = .ok (.bastore, 1) := by decide +kernel
theorem d_Tape_put_19 : decode c_Tape_put 19 = .ok (.aload_n 0, 1) := by decide +kernel
theorem d_Tape_put_20 : decode c_Tape_put 20 = .ok (.dup, 1) := by decide +kernel
theorem d_Tape_put_21 : decode c_Tape_put 21 = .ok (.getfield 15, 3) := by decide +kernel
theorem d_Tape_put_24 : decode c_Tape_put 24 = .ok (.iconst 1, 1) := by decide +kernel
theorem d_Tape_put_25 : decode c_Tape_put 25 = .ok (.iadd, 1) := by decide +kernel
theorem d_Tape_put_26 : decode c_Tape_put 26 = .ok (.putfield 15, 3) := by decide +kernel
theorem d_Tape_put_29 : decode c_Tape_put 29 = .ok (.return_, 1) := by decide +kernel
theorem d_Tape_tokenOf_0 : decode c_Tape_tokenOf 0 = .ok (.iload_n 0, 1) := by decide +kernel
theorem d_Tape_tokenOf_1 : decode c_Tape_tokenOf 1 = .ok (.bipush 97, 2) := by decide +kernel
theorem d_Tape_tokenOf_3 : decode c_Tape_tokenOf 3 = .ok (.if_icmp .lt 11, 3) := by decide +kernel
theorem d_Tape_tokenOf_6 : decode c_Tape_tokenOf 6 = .ok (.iload_n 0, 1) := by decide +kernel
theorem d_Tape_tokenOf_7 : decode c_Tape_tokenOf 7 = .ok (.bipush 122, 2) := by decide +kernel
theorem d_Tape_tokenOf_9 : decode c_Tape_tokenOf 9 = .ok (.if_icmp .gt 5, 3) := by decide +kernel
theorem d_Tape_tokenOf_12 : decode c_Tape_tokenOf 12 = .ok (.iconst 1, 1) := by decide +kernel
theorem d_Tape_tokenOf_13 : decode c_Tape_tokenOf 13 = .ok (.ireturn, 1) := by decide +kernel
theorem d_Tape_tokenOf_14 : decode c_Tape_tokenOf 14 = .ok (.iload_n 0, 1) := by decide +kernel
theorem d_Tape_tokenOf_15 : decode c_Tape_tokenOf 15 = .ok (.bipush 48, 2) := by decide +kernel
theorem d_Tape_tokenOf_17 : decode c_Tape_tokenOf 17 = .ok (.if_icmp .lt 11, 3) := by decide +kernel
theorem d_Tape_tokenOf_20 : decode c_Tape_tokenOf 20 = .ok (.iload_n 0, 1) := by decide +kernel
theorem d_Tape_tokenOf_21 : decode c_Tape_tokenOf 21 = .ok (.bipush 57, 2) := by decide +kernel
theorem d_Tape_tokenOf_23 : decode c_Tape_tokenOf 23 = .ok (.if_icmp .gt 5, 3) := by decide +kernel
theorem d_Tape_tokenOf_26 : decode c_Tape_tokenOf 26 = .ok (.iconst 2, 1) := by decide +kernel
theorem d_Tape_tokenOf_27 : decode c_Tape_tokenOf 27 = .ok (.ireturn, 1) := by decide +kernel
theorem d_Tape_tokenOf_28 : decode c_Tape_tokenOf 28 = .ok (.iload_n 0, 1) := by decide +kernel
theorem d_Tape_tokenOf_29 : decode c_Tape_tokenOf 29 = .ok (.bipush 59, 2) := by decide +kernel
theorem d_Tape_tokenOf_31 : decode c_Tape_tokenOf 31 = .ok (.if_icmp .ne 7, 3) := by decide +kernel
theorem d_Tape_tokenOf_34 : decode c_Tape_tokenOf 34 = .ok (.iconst 3, 1) := by decide +kernel
theorem d_Tape_tokenOf_35 : decode c_Tape_tokenOf 35 = .ok (.goto 4, 3) := by decide +kernel
theorem d_Tape_tokenOf_38 : decode c_Tape_tokenOf 38 = .ok (.iconst 4, 1) := by decide +kernel
theorem d_Tape_tokenOf_39 : decode c_Tape_tokenOf 39 = .ok (.ireturn, 1) := by decide +kernel
theorem d_Tape_step_0 : decode c_Tape_step 0 = .ok (.aload_n 0, 1) := by decide +kernel
theorem d_Tape_step_1 : decode c_Tape_step 1 = .ok (.getfield 19, 3) := by decide +kernel
theorem d_Tape_step_4 : decode c_Tape_step 4 = .ok (.aload_n 0, 1) := by decide +kernel
theorem d_Tape_step_5 : decode c_Tape_step 5 = .ok (.getfield 15, 3) := by decide +kernel
theorem d_Tape_step_8 : decode c_Tape_step 8 = .ok (.if_icmp .ge 30, 3) := by decide +kernel
theorem d_Tape_step_11 : decode c_Tape_step 11 = .ok (.aload_n 0, 1) := by decide +kernel
theorem d_Tape_step_12 : decode c_Tape_step 12 = .ok (.getfield 9, 3) := by decide +kernel
theorem d_Tape_step_15 : decode c_Tape_step 15 = .ok (.aload_n 0, 1) := by decide +kernel
theorem d_Tape_step_16 : decode c_Tape_step 16 = .ok (.getfield 19, 3) := by decide +kernel
theorem d_Tape_step_19 : decode c_Tape_step 19 = .ok (.baload, 1) := by decide +kernel
theorem d_Tape_step_20 : decode c_Tape_step 20 = .ok (.bipush 32, 2) := by decide +kernel
theorem d_Tape_step_22 : decode c_Tape_step 22 = .ok (.if_icmp .ne 16, 3) := by decide +kernel
theorem d_Tape_step_25 : decode c_Tape_step 25 = .ok (.aload_n 0, 1) := by decide +kernel
theorem d_Tape_step_26 : decode c_Tape_step 26 = .ok (.dup, 1) := by decide +kernel
theorem d_Tape_step_27 : decode c_Tape_step 27 = .ok (.getfield 19, 3) := by decide +kernel
theorem d_Tape_step_30 : decode c_Tape_step 30 = .ok (.iconst 1, 1) := by decide +kernel
theorem d_Tape_step_31 : decode c_Tape_step 31 = .ok (.iadd, 1) := by decide +kernel
theorem d_Tape_step_32 : decode c_Tape_step 32 = .ok (.putfield 19, 3) := by decide +kernel
theorem d_Tape_step_35 : decode c_Tape_step 35 = .ok (.goto (-35), 3) := by decide +kernel
theorem d_Tape_step_38 : decode c_Tape_step 38 = .ok (.aload_n 0, 1) := by decide +kernel
theorem d_Tape_step_39 : decode c_Tape_step 39 = .ok (.aload_n 0, 1) := by decide +kernel
theorem d_Tape_step_40 : decode c_Tape_step 40 = .ok (.getfield 19, 3) := by decide +kernel
theorem d_Tape_step_43 : decode c_Tape_step 43 = .ok (.putfield 25, 3) := by decide +kernel
theorem d_Tape_step_46 : decode c_Tape_step 46 = .ok (.aload_n 0, 1) := by decide +kernel
theorem d_Tape_step_47 : decode c_Tape_step 47 = .ok (.aload_n 0, 1) := by decide +kernel
theorem d_Tape_step_48 : decode c_Tape_step 48 = .ok (.getfield 19, 3) := by decide +kernel
theorem d_Tape_step_51 : decode c_Tape_step 51 = .ok (.aload_n 0, 1) := by decide +kernel
theorem d_Tape_step_52 : decode c_Tape_step 52 = .ok (.getfield 15, 3) := by decide +kernel
theorem d_Tape_step_55 : decode c_Tape_step 55 = .ok (.if_icmp .ge 18, 3) := by decide +kernel
theorem d_Tape_step_58 : decode c_Tape_step 58 = .ok (.aload_n 0, 1) := by decide +kernel
theorem d_Tape_step_59 : decode c_Tape_step 59 = .ok (.getfield 9, 3) := by decide +kernel
theorem d_Tape_step_62 : decode c_Tape_step 62 = .ok (.aload_n 0, 1) := by decide +kernel
theorem d_Tape_step_63 : decode c_Tape_step 63 = .ok (.getfield 19, 3) := by decide +kernel
theorem d_Tape_step_66 : decode c_Tape_step 66 = .ok (.baload, 1) := by decide +kernel
theorem d_Tape_step_67 : decode c_Tape_step 67 = .ok (.invokestatic 28, 3) := by decide +kernel
theorem d_Tape_step_70 : decode c_Tape_step 70 = .ok (.goto 4, 3) := by decide +kernel
theorem d_Tape_step_73 : decode c_Tape_step 73 = .ok (.iconst 0, 1) := by decide +kernel
theorem d_Tape_step_74 : decode c_Tape_step 74 = .ok (.putfield 32, 3) := by decide +kernel
theorem d_Tape_step_77 : decode c_Tape_step 77 = .ok (.aload_n 0, 1) := by decide +kernel
theorem d_Tape_step_78 : decode c_Tape_step 78 = .ok (.getfield 32, 3) := by decide +kernel
theorem d_Tape_step_81 : decode c_Tape_step 81 = .ok (.iconst 1, 1) := by decide +kernel
theorem d_Tape_step_82 : decode c_Tape_step 82 = .ok (.if_icmp .eq 11, 3) := by decide +kernel
theorem d_Tape_step_85 : decode c_Tape_step 85 = .ok (.aload_n 0, 1) := by decide +kernel
theorem d_Tape_step_86 : decode c_Tape_step 86 = .ok (.getfield 32, 3) := by decide +kernel
theorem d_Tape_step_89 : decode c_Tape_step 89 = .ok (.iconst 2, 1) := by decide +kernel
theorem d_Tape_step_90 : decode c_Tape_step 90 = .ok (.if_icmp .ne 46, 3) := by decide +kernel
theorem d_Tape_step_93 : decode c_Tape_step 93 = .ok (.aload_n 0, 1) := by decide +kernel
theorem d_Tape_step_94 : decode c_Tape_step 94 = .ok (.getfield 19, 3) := by decide +kernel
theorem d_Tape_step_97 : decode c_Tape_step 97 = .ok (.aload_n 0, 1) := by decide +kernel
theorem d_Tape_step_98 : decode c_Tape_step 98 = .ok (.getfield 15, 3) := by decide +kernel
theorem d_Tape_step_101 : decode c_Tape_step 101 = .ok (.if_icmp .ge 52, 3) := by decide +kernel
theorem d_Tape_step_104 : decode c_Tape_step 104 = .ok (.aload_n 0, 1) := by decide +kernel
theorem d_Tape_step_105 : decode c_Tape_step 105 = .ok (.getfield 9, 3) := by decide +kernel
theorem d_Tape_step_108 : decode c_Tape_step 108 = .ok (.aload_n 0, 1) := by decide +kernel
theorem d_Tape_step_109 : decode c_Tape_step 109 = .ok (.getfield 19, 3) := by decide +kernel
theorem d_Tape_step_112 : decode c_Tape_step 112 = .ok (.baload, 1) := by decide +kernel
theorem d_Tape_step_113 : decode c_Tape_step 113 = .ok (.invokestatic 28, 3) := by decide +kernel
theorem d_Tape_step_116 : decode c_Tape_step 116 = .ok (.aload_n 0, 1) := by decide +kernel
theorem d_Tape_step_117 : decode c_Tape_step 117 = .ok (.getfield 32, 3) := by decide +kernel
theorem d_Tape_step_120 : decode c_Tape_step 120 = .ok (.if_icmp .ne 33, 3) := by decide +kernel
theorem d_Tape_step_123 : decode c_Tape_step 123 = .ok (.aload_n 0, 1) := by decide +kernel
theorem d_Tape_step_124 : decode c_Tape_step 124 = .ok (.dup, 1) := by decide +kernel
theorem d_Tape_step_125 : decode c_Tape_step 125 = .ok (.getfield 19, 3) := by decide +kernel
theorem d_Tape_step_128 : decode c_Tape_step 128 = .ok (.iconst 1, 1) := by decide +kernel
theorem d_Tape_step_129 : decode c_Tape_step 129 = .ok (.iadd, 1) := by decide +kernel
theorem d_Tape_step_130 : decode c_Tape_step 130 = .ok (.putfield 19, 3) := by decide +kernel
theorem d_Tape_step_133 : decode c_Tape_step 133 = .ok (.goto (-40), 3) := by decide +kernel
theorem d_Tape_step_136 : decode c_Tape_step 136 = .ok (.aload_n 0, 1) := by decide +kernel
theorem d_Tape_step_137 : decode c_Tape_step 137 = .ok (.getfield 32, 3) := by decide +kernel
theorem d_Tape_step_140 : decode c_Tape_step 140 = .ok (.ifCond .eq 13, 3) := by decide +kernel
theorem d_Tape_step_143 : decode c_Tape_step 143 = .ok (.aload_n 0, 1) := by decide +kernel
theorem d_Tape_step_144 : decode c_Tape_step 144 = .ok (.dup, 1) := by decide +kernel
theorem d_Tape_step_145 : decode c_Tape_step 145 = .ok (.getfield 19, 3) := by decide +kernel
theorem d_Tape_step_148 : decode c_Tape_step 148 = .ok (.iconst 1, 1) := by decide +kernel
theorem d_Tape_step_149 : decode c_Tape_step 149 = .ok (.iadd, 1) := by decide +kernel
theorem d_Tape_step_150 : decode c_Tape_step 150 = .ok (.putfield 19, 3) := by decide +kernel
theorem d_Tape_step_153 : decode c_Tape_step 153 = .ok (.return_, 1) := by decide +kernel
theorem d_Tape_rewind_0 : decode c_Tape_rewind 0 = .ok (.aload_n 0, 1) := by decide +kernel
theorem d_Tape_rewind_1 : decode c_Tape_rewind 1 = .ok (.iconst 0, 1) := by decide +kernel
theorem d_Tape_rewind_2 : decode c_Tape_rewind 2 = .ok (.putfield 19, 3) := by decide +kernel
theorem d_Tape_rewind_5 : decode c_Tape_rewind 5 = .ok (.aload_n 0, 1) := by decide +kernel
theorem d_Tape_rewind_6 : decode c_Tape_rewind 6 = .ok (.invokevirtual 22, 3) := by decide +kernel
theorem d_Tape_rewind_9 : decode c_Tape_rewind 9 = .ok (.return_, 1) := by decide +kernel
theorem d_Tape_isNumberTo_0 : decode c_Tape_isNumberTo 0 = .ok (.aload_n 0, 1) := by decide +kernel
theorem d_Tape_isNumberTo_1 : decode c_Tape_isNumberTo 1 = .ok (.iconst 0, 1) := by decide +kernel
theorem d_Tape_isNumberTo_2 : decode c_Tape_isNumberTo 2 = .ok (.putfield 35, 3) := by decide +kernel
theorem d_Tape_isNumberTo_5 : decode c_Tape_isNumberTo 5 = .ok (.aload_n 0, 1) := by decide +kernel
theorem d_Tape_isNumberTo_6 : decode c_Tape_isNumberTo 6 = .ok (.getfield 25, 3) := by decide +kernel
theorem d_Tape_isNumberTo_9 : decode c_Tape_isNumberTo 9 = .ok (.istore_n 2, 1) := by decide +kernel
theorem d_Tape_isNumberTo_10 : decode c_Tape_isNumberTo 10 = .ok (.iload_n 2, 1) := by decide +kernel
theorem d_Tape_isNumberTo_11 : decode c_Tape_isNumberTo 11 = .ok (.aload_n 0, 1) := by decide +kernel
theorem d_Tape_isNumberTo_12 : decode c_Tape_isNumberTo 12 = .ok (.getfield 19, 3) := by decide +kernel
theorem d_Tape_isNumberTo_15 : decode c_Tape_isNumberTo 15 = .ok (.if_icmp .ge 44, 3) := by decide +kernel
theorem d_Tape_isNumberTo_18 : decode c_Tape_isNumberTo 18 = .ok (.aload_n 0, 1) := by decide +kernel
theorem d_Tape_isNumberTo_19 : decode c_Tape_isNumberTo 19 = .ok (.getfield 32, 3) := by decide +kernel
theorem d_Tape_isNumberTo_22 : decode c_Tape_isNumberTo 22 = .ok (.iconst 2, 1) := by decide +kernel
theorem d_Tape_isNumberTo_23 : decode c_Tape_isNumberTo 23 = .ok (.if_icmp .ne 36, 3) := by decide +kernel
theorem d_Tape_isNumberTo_26 : decode c_Tape_isNumberTo 26 = .ok (.aload_n 0, 1) := by decide +kernel
theorem d_Tape_isNumberTo_27 : decode c_Tape_isNumberTo 27 = .ok (.sipush 10000, 3) := by decide +kernel
theorem d_Tape_isNumberTo_30 : decode c_Tape_isNumberTo 30 = .ok (.aload_n 0, 1) := by decide +kernel
theorem d_Tape_isNumberTo_31 : decode c_Tape_isNumberTo 31 = .ok (.getfield 35, 3) := by decide +kernel
theorem d_Tape_isNumberTo_34 : decode c_Tape_isNumberTo 34 = .ok (.bipush 10, 2) := by decide +kernel
theorem d_Tape_isNumberTo_36 : decode c_Tape_isNumberTo 36 = .ok (.imul, 1) := by decide +kernel
theorem d_Tape_isNumberTo_37 : decode c_Tape_isNumberTo 37 = .ok (.aload_n 0, 1) := by decide +kernel
theorem d_Tape_isNumberTo_38 : decode c_Tape_isNumberTo 38 = .ok (.getfield 9, 3) := by decide +kernel
theorem d_Tape_isNumberTo_41 : decode c_Tape_isNumberTo 41 = .ok (.iload_n 2, 1) := by decide +kernel
theorem d_Tape_isNumberTo_42 : decode c_Tape_isNumberTo 42 = .ok (.baload, 1) := by decide +kernel
theorem d_Tape_isNumberTo_43 : decode c_Tape_isNumberTo 43 = .ok (.iadd, 1) := by decide +kernel
theorem d_Tape_isNumberTo_44 : decode c_Tape_isNumberTo 44 = .ok (.bipush 48, 2) := by decide +kernel
theorem d_Tape_isNumberTo_46 : decode c_Tape_isNumberTo 46 = .ok (.isub, 1) := by decide +kernel
theorem d_Tape_isNumberTo_47 : decode c_Tape_isNumberTo 47 = .ok (.invokestatic 38, 3) := by decide +kernel
theorem d_Tape_isNumberTo_50 : decode c_Tape_isNumberTo 50 = .ok (.putfield 35, 3) := by decide +kernel
theorem d_Tape_isNumberTo_53 : decode c_Tape_isNumberTo 53 = .ok (.iinc 2 1, 3) := by decide +kernel
theorem d_Tape_isNumberTo_56 : decode c_Tape_isNumberTo 56 = .ok (.goto (-46), 3) := by decide +kernel
theorem d_Tape_isNumberTo_59 : decode c_Tape_isNumberTo 59 = .ok (.aload_n 0, 1) := by decide +kernel
theorem d_Tape_isNumberTo_60 : decode c_Tape_isNumberTo 60 = .ok (.getfield 32, 3) := by decide +kernel
theorem d_Tape_isNumberTo_63 : decode c_Tape_isNumberTo 63 = .ok (.iconst 2, 1) := by decide +kernel
theorem d_Tape_isNumberTo_64 : decode c_Tape_isNumberTo 64 = .ok (.if_icmp .ne 15, 3) := by decide +kernel
theorem d_Tape_isNumberTo_67 : decode c_Tape_isNumberTo 67 = .ok (.aload_n 0, 1) := by decide +kernel
theorem d_Tape_isNumberTo_68 : decode c_Tape_isNumberTo 68 = .ok (.getfield 35, 3) := by decide +kernel
theorem d_Tape_isNumberTo_71 : decode c_Tape_isNumberTo 71 = .ok (.iload_n 1, 1) := by decide +kernel
theorem d_Tape_isNumberTo_72 : decode c_Tape_isNumberTo 72 = .ok (.if_icmp .gt 7, 3) := by decide +kernel
theorem d_Tape_isNumberTo_75 : decode c_Tape_isNumberTo 75 = .ok (.iconst 1, 1) := by decide +kernel
theorem d_Tape_isNumberTo_76 : decode c_Tape_isNumberTo 76 = .ok (.goto 4, 3) := by decide +kernel
theorem d_Tape_isNumberTo_79 : decode c_Tape_isNumberTo 79 = .ok (.iconst 0, 1) := by decide +kernel
theorem d_Tape_isNumberTo_80 : decode c_Tape_isNumberTo 80 = .ok (.ireturn, 1) := by decide +kernel
theorem d_Tape_isWord_0 : decode c_Tape_isWord 0 = .ok (.aload_n 0, 1) := by decide +kernel
theorem d_Tape_isWord_1 : decode c_Tape_isWord 1 = .ok (.getfield 32, 3) := by decide +kernel
theorem d_Tape_isWord_4 : decode c_Tape_isWord 4 = .ok (.iconst 1, 1) := by decide +kernel
theorem d_Tape_isWord_5 : decode c_Tape_isWord 5 = .ok (.if_icmp .ne 19, 3) := by decide +kernel
theorem d_Tape_isWord_8 : decode c_Tape_isWord 8 = .ok (.aload_n 0, 1) := by decide +kernel
theorem d_Tape_isWord_9 : decode c_Tape_isWord 9 = .ok (.getfield 19, 3) := by decide +kernel
theorem d_Tape_isWord_12 : decode c_Tape_isWord 12 = .ok (.aload_n 0, 1) := by decide +kernel
theorem d_Tape_isWord_13 : decode c_Tape_isWord 13 = .ok (.getfield 25, 3) := by decide +kernel
theorem d_Tape_isWord_16 : decode c_Tape_isWord 16 = .ok (.isub, 1) := by decide +kernel
theorem d_Tape_isWord_17 : decode c_Tape_isWord 17 = .ok (.aload_n 1, 1) := by decide +kernel
theorem d_Tape_isWord_18 : decode c_Tape_isWord 18 = .ok (.invokevirtual 44, 3) := by decide +kernel
theorem d_Tape_isWord_21 : decode c_Tape_isWord 21 = .ok (.if_icmp .eq 5, 3) := by decide +kernel
theorem d_Tape_isWord_24 : decode c_Tape_isWord 24 = .ok (.iconst 0, 1) := by decide +kernel
theorem d_Tape_isWord_25 : decode c_Tape_isWord 25 = .ok (.ireturn, 1) := by decide +kernel
theorem d_Tape_isWord_26 : decode c_Tape_isWord 26 = .ok (.iconst 0, 1) := by decide +kernel
theorem d_Tape_isWord_27 : decode c_Tape_isWord 27 = .ok (.istore_n 2, 1) := by decide +kernel
theorem d_Tape_isWord_28 : decode c_Tape_isWord 28 = .ok (.iload_n 2, 1) := by decide +kernel
theorem d_Tape_isWord_29 : decode c_Tape_isWord 29 = .ok (.aload_n 1, 1) := by decide +kernel
theorem d_Tape_isWord_30 : decode c_Tape_isWord 30 = .ok (.invokevirtual 44, 3) := by decide +kernel
theorem d_Tape_isWord_33 : decode c_Tape_isWord 33 = .ok (.if_icmp .ge 30, 3) := by decide +kernel
theorem d_Tape_isWord_36 : decode c_Tape_isWord 36 = .ok (.aload_n 0, 1) := by decide +kernel
theorem d_Tape_isWord_37 : decode c_Tape_isWord 37 = .ok (.getfield 9, 3) := by decide +kernel
theorem d_Tape_isWord_40 : decode c_Tape_isWord 40 = .ok (.aload_n 0, 1) := by decide +kernel
theorem d_Tape_isWord_41 : decode c_Tape_isWord 41 = .ok (.getfield 25, 3) := by decide +kernel
theorem d_Tape_isWord_44 : decode c_Tape_isWord 44 = .ok (.iload_n 2, 1) := by decide +kernel
theorem d_Tape_isWord_45 : decode c_Tape_isWord 45 = .ok (.iadd, 1) := by decide +kernel
theorem d_Tape_isWord_46 : decode c_Tape_isWord 46 = .ok (.baload, 1) := by decide +kernel
theorem d_Tape_isWord_47 : decode c_Tape_isWord 47 = .ok (.aload_n 1, 1) := by decide +kernel
theorem d_Tape_isWord_48 : decode c_Tape_isWord 48 = .ok (.iload_n 2, 1) := by decide +kernel
theorem d_Tape_isWord_49 : decode c_Tape_isWord 49 = .ok (.invokevirtual 49, 3) := by decide +kernel
theorem d_Tape_isWord_52 : decode c_Tape_isWord 52 = .ok (.if_icmp .eq 5, 3) := by decide +kernel
theorem d_Tape_isWord_55 : decode c_Tape_isWord 55 = .ok (.iconst 0, 1) := by decide +kernel
theorem d_Tape_isWord_56 : decode c_Tape_isWord 56 = .ok (.ireturn, 1) := by decide +kernel
theorem d_Tape_isWord_57 : decode c_Tape_isWord 57 = .ok (.iinc 2 1, 3) := by decide +kernel
theorem d_Tape_isWord_60 : decode c_Tape_isWord 60 = .ok (.goto (-32), 3) := by decide +kernel
theorem d_Tape_isWord_63 : decode c_Tape_isWord 63 = .ok (.iconst 1, 1) := by decide +kernel
theorem d_Tape_isWord_64 : decode c_Tape_isWord 64 = .ok (.ireturn, 1) := by decide +kernel
theorem d_Tape_nameOf_0 : decode c_Tape_nameOf 0 = .ok (.iload_n 0, 1) := by decide +kernel
theorem d_Tape_nameOf_1 : decode c_Tape_nameOf 1 = .ok (.tableswitch 50 1 5 #[35, 38, 41, 44, 47], 35) := by decide +kernel
theorem d_Tape_nameOf_36 : decode c_Tape_nameOf 36 = .ok (.ldc 61, 2) := by decide +kernel
theorem d_Tape_nameOf_38 : decode c_Tape_nameOf 38 = .ok (.areturn, 1) := by decide +kernel
theorem d_Tape_nameOf_39 : decode c_Tape_nameOf 39 = .ok (.ldc 63, 2) := by decide +kernel
theorem d_Tape_nameOf_41 : decode c_Tape_nameOf 41 = .ok (.areturn, 1) := by decide +kernel
theorem d_Tape_nameOf_42 : decode c_Tape_nameOf 42 = .ok (.ldc 65, 2) := by decide +kernel
theorem d_Tape_nameOf_44 : decode c_Tape_nameOf 44 = .ok (.areturn, 1) := by decide +kernel
theorem d_Tape_nameOf_45 : decode c_Tape_nameOf 45 = .ok (.ldc 67, 2) := by decide +kernel
theorem d_Tape_nameOf_47 : decode c_Tape_nameOf 47 = .ok (.areturn, 1) := by decide +kernel
theorem d_Tape_nameOf_48 : decode c_Tape_nameOf 48 = .ok (.ldc 69, 2) := by decide +kernel
theorem d_Tape_nameOf_50 : decode c_Tape_nameOf 50 = .ok (.areturn, 1) := by decide +kernel
theorem d_Tape_nameOf_51 : decode c_Tape_nameOf 51 = .ok (.ldc 71, 2) := by decide +kernel
theorem d_Tape_nameOf_53 : decode c_Tape_nameOf 53 = .ok (.areturn, 1) := by decide +kernel
theorem d_Tape_kindNamed_0 : decode c_Tape_kindNamed 0 = .ok (.iconst 0, 1) := by decide +kernel
theorem d_Tape_kindNamed_1 : decode c_Tape_kindNamed 1 = .ok (.istore_n 1, 1) := by decide +kernel
theorem d_Tape_kindNamed_2 : decode c_Tape_kindNamed 2 = .ok (.iload_n 1, 1) := by decide +kernel
theorem d_Tape_kindNamed_3 : decode c_Tape_kindNamed 3 = .ok (.bipush 6, 2) := by decide +kernel
theorem d_Tape_kindNamed_5 : decode c_Tape_kindNamed 5 = .ok (.if_icmp .ge 22, 3) := by decide +kernel
theorem d_Tape_kindNamed_8 : decode c_Tape_kindNamed 8 = .ok (.aload_n 0, 1) := by decide +kernel
theorem d_Tape_kindNamed_9 : decode c_Tape_kindNamed 9 = .ok (.iload_n 1, 1) := by decide +kernel
theorem d_Tape_kindNamed_10 : decode c_Tape_kindNamed 10 = .ok (.invokestatic 53, 3) := by decide +kernel
theorem d_Tape_kindNamed_13 : decode c_Tape_kindNamed 13 = .ok (.invokevirtual 57, 3) := by decide +kernel
theorem d_Tape_kindNamed_16 : decode c_Tape_kindNamed 16 = .ok (.ifCond .eq 5, 3) := by decide +kernel
theorem d_Tape_kindNamed_19 : decode c_Tape_kindNamed 19 = .ok (.iload_n 1, 1) := by decide +kernel
theorem d_Tape_kindNamed_20 : decode c_Tape_kindNamed 20 = .ok (.ireturn, 1) := by decide +kernel
theorem d_Tape_kindNamed_21 : decode c_Tape_kindNamed 21 = .ok (.iinc 1 1, 3) := by decide +kernel
theorem d_Tape_kindNamed_24 : decode c_Tape_kindNamed 24 = .ok (.goto (-22), 3) := by decide +kernel
theorem d_Tape_kindNamed_27 : decode c_Tape_kindNamed 27 = .ok (.iconst (-1), 1) := by decide +kernel
theorem d_Tape_kindNamed_28 : decode c_Tape_kindNamed 28 = .ok (.ireturn, 1) := by decide +kernel
theorem d_Thing_layAt_0 : decode c_Thing_layAt 0 = .ok (.aload_n 0, 1) := by decide +kernel
theorem d_Thing_layAt_1 : decode c_Thing_layAt 1 = .ok (.iload_n 1, 1) := by decide +kernel
theorem d_Thing_layAt_2 : decode c_Thing_layAt 2 = .ok (.putfield 18, 3) := by decide +kernel
theorem d_Thing_layAt_5 : decode c_Thing_layAt 5 = .ok (.aload_n 0, 1) := by decide +kernel
theorem d_Thing_layAt_6 : decode c_Thing_layAt 6 = .ok (.iconst 1, 1) := by decide +kernel
theorem d_Thing_layAt_7 : decode c_Thing_layAt 7 = .ok (.putfield 24, 3) := by decide +kernel
theorem d_Thing_layAt_10 : decode c_Thing_layAt 10 = .ok (.return_, 1) := by decide +kernel
theorem d_Tide_isSpring_0 : decode c_Tide_isSpring 0 = .ok (.iload_n 0, 1) := by decide +kernel
theorem d_Tide_isSpring_1 : decode c_Tide_isSpring 1 = .ok (.bipush 14, 2) := by decide +kernel
theorem d_Tide_isSpring_3 : decode c_Tide_isSpring 3 = .ok (.irem, 1) := by decide +kernel
theorem d_Tide_isSpring_4 : decode c_Tide_isSpring 4 = .ok (.ifCond .ne 7, 3) := by decide +kernel
theorem d_Tide_isSpring_7 : decode c_Tide_isSpring 7 = .ok (.iconst 1, 1) := by decide +kernel
theorem d_Tide_isSpring_8 : decode c_Tide_isSpring 8 = .ok (.goto 4, 3) := by decide +kernel
theorem d_Tide_isSpring_11 : decode c_Tide_isSpring 11 = .ok (.iconst 0, 1) := by decide +kernel
theorem d_Tide_isSpring_12 : decode c_Tide_isSpring 12 = .ok (.ireturn, 1) := by decide +kernel
theorem d_Tide_markOf_0 : decode c_Tide_markOf 0 = .ok (.iload_n 0, 1) := by decide +kernel
theorem d_Tide_markOf_1 : decode c_Tide_markOf 1 = .ok (.bipush 14, 2) := by decide +kernel
theorem d_Tide_markOf_3 : decode c_Tide_markOf 3 = .ok (.irem, 1) := by decide +kernel
theorem d_Tide_markOf_4 : decode c_Tide_markOf 4 = .ok (.istore_n 1, 1) := by decide +kernel
theorem d_Tide_markOf_5 : decode c_Tide_markOf 5 = .ok (.iload_n 1, 1) := by decide +kernel
theorem d_Tide_markOf_6 : decode c_Tide_markOf 6 = .ok (.bipush 14, 2) := by decide +kernel
theorem d_Tide_markOf_8 : decode c_Tide_markOf 8 = .ok (.iload_n 1, 1) := by decide +kernel
theorem d_Tide_markOf_9 : decode c_Tide_markOf 9 = .ok (.isub, 1) := by decide +kernel
theorem d_Tide_markOf_10 : decode c_Tide_markOf 10 = .ok (.if_icmp .ge 7, 3) := by decide +kernel
theorem d_Tide_markOf_13 : decode c_Tide_markOf 13 = .ok (.iload_n 1, 1) := by decide +kernel
theorem d_Tide_markOf_14 : decode c_Tide_markOf 14 = .ok (.goto 7, 3) := by decide +kernel
theorem d_Tide_markOf_17 : decode c_Tide_markOf 17 = .ok (.bipush 14, 2) := by decide +kernel
theorem d_Tide_markOf_19 : decode c_Tide_markOf 19 = .ok (.iload_n 1, 1) := by decide +kernel
theorem d_Tide_markOf_20 : decode c_Tide_markOf 20 = .ok (.isub, 1) := by decide +kernel
theorem d_Tide_markOf_21 : decode c_Tide_markOf 21 = .ok (.istore_n 2, 1) := by decide +kernel
theorem d_Tide_markOf_22 : decode c_Tide_markOf 22 = .ok (.bipush 9, 2) := by decide +kernel
theorem d_Tide_markOf_24 : decode c_Tide_markOf 24 = .ok (.iload_n 2, 1) := by decide +kernel
theorem d_Tide_markOf_25 : decode c_Tide_markOf 25 = .ok (.isub, 1) := by decide +kernel
theorem d_Tide_markOf_26 : decode c_Tide_markOf 26 = .ok (.ireturn, 1) := by decide +kernel
theorem d_Tide_isTaken_0 : decode c_Tide_isTaken 0 = .ok (.iload_n 0, 1) := by decide +kernel
theorem d_Tide_isTaken_1 : decode c_Tide_isTaken 1 = .ok (.tableswitch 107 1 5 #[35, 57, 71, 78, 85], 35) := by decide +kernel
theorem d_Tide_isTaken_36 : decode c_Tide_isTaken 36 = .ok (.iconst 0, 1) := by decide +kernel
theorem d_Tide_isTaken_37 : decode c_Tide_isTaken 37 = .ok (.iload_n 1, 1) := by decide +kernel
theorem d_Tide_isTaken_38 : decode c_Tide_isTaken 38 = .ok (.iload_n 2, 1) := by decide +kernel
theorem d_Tide_isTaken_39 : decode c_Tide_isTaken 39 = .ok (.invokestatic 302, 3) := by decide +kernel
theorem d_Tide_isTaken_42 : decode c_Tide_isTaken 42 = .ok (.ifCond .eq 14, 3) := by decide +kernel
theorem d_Tide_isTaken_45 : decode c_Tide_isTaken 45 = .ok (.iload_n 2, 1) := by decide +kernel
theorem d_Tide_isTaken_46 : decode c_Tide_isTaken 46 = .ok (.invokestatic 94, 3) := by decide +kernel
theorem d_Tide_isTaken_49 : decode c_Tide_isTaken 49 = .ok (.ifCond .ne 7, 3) := by decide +kernel
theorem d_Tide_isTaken_52 : decode c_Tide_isTaken 52 = .ok (.iconst 1, 1) := by decide +kernel
theorem d_Tide_isTaken_53 : decode c_Tide_isTaken 53 = .ok (.goto 4, 3) := by decide +kernel
theorem d_Tide_isTaken_56 : decode c_Tide_isTaken 56 = .ok (.iconst 0, 1) := by decide +kernel
theorem d_Tide_isTaken_57 : decode c_Tide_isTaken 57 = .ok (.ireturn, 1) := by decide +kernel
theorem d_Tide_isTaken_58 : decode c_Tide_isTaken 58 = .ok (.iload_n 1, 1) := by decide +kernel
theorem d_Tide_isTaken_59 : decode c_Tide_isTaken 59 = .ok (.iload_n 2, 1) := by decide +kernel
theorem d_Tide_isTaken_60 : decode c_Tide_isTaken 60 = .ok (.invokestatic 88, 3) := by decide +kernel
theorem d_Tide_isTaken_63 : decode c_Tide_isTaken 63 = .ok (.if_icmp .gt 7, 3) := by decide +kernel
theorem d_Tide_isTaken_66 : decode c_Tide_isTaken 66 = .ok (.iconst 1, 1) := by decide +kernel
theorem d_Tide_isTaken_67 : decode c_Tide_isTaken 67 = .ok (.goto 4, 3) := by decide +kernel
theorem d_Tide_isTaken_70 : decode c_Tide_isTaken 70 = .ok (.iconst 0, 1) := by decide +kernel
theorem d_Tide_isTaken_71 : decode c_Tide_isTaken 71 = .ok (.ireturn, 1) := by decide +kernel
theorem d_Tide_isTaken_72 : decode c_Tide_isTaken 72 = .ok (.iconst 0, 1) := by decide +kernel
theorem d_Tide_isTaken_73 : decode c_Tide_isTaken 73 = .ok (.iload_n 1, 1) := by decide +kernel
theorem d_Tide_isTaken_74 : decode c_Tide_isTaken 74 = .ok (.iload_n 2, 1) := by decide +kernel
theorem d_Tide_isTaken_75 : decode c_Tide_isTaken 75 = .ok (.invokestatic 302, 3) := by decide +kernel
theorem d_Tide_isTaken_78 : decode c_Tide_isTaken 78 = .ok (.ireturn, 1) := by decide +kernel
theorem d_Tide_isTaken_79 : decode c_Tide_isTaken 79 = .ok (.iconst 1, 1) := by decide +kernel
theorem d_Tide_isTaken_80 : decode c_Tide_isTaken 80 = .ok (.iload_n 1, 1) := by decide +kernel
theorem d_Tide_isTaken_81 : decode c_Tide_isTaken 81 = .ok (.iload_n 2, 1) := by decide +kernel
theorem d_Tide_isTaken_82 : decode c_Tide_isTaken 82 = .ok (.invokestatic 302, 3) := by decide +kernel
theorem d_Tide_isTaken_85 : decode c_Tide_isTaken 85 = .ok (.ireturn, 1) := by decide +kernel
theorem d_Tide_isTaken_86 : decode c_Tide_isTaken 86 = .ok (.iconst 2, 1) := by decide +kernel
theorem d_Tide_isTaken_87 : decode c_Tide_isTaken 87 = .ok (.iload_n 1, 1) := by decide +kernel
theorem d_Tide_isTaken_88 : decode c_Tide_isTaken 88 = .ok (.iload_n 2, 1) := by decide +kernel
theorem d_Tide_isTaken_89 : decode c_Tide_isTaken 89 = .ok (.invokestatic 302, 3) := by decide +kernel
theorem d_Tide_isTaken_92 : decode c_Tide_isTaken 92 = .ok (.ifCond .eq 14, 3) := by decide +kernel
theorem d_Tide_isTaken_95 : decode c_Tide_isTaken 95 = .ok (.iload_n 2, 1) := by decide +kernel
theorem d_Tide_isTaken_96 : decode c_Tide_isTaken 96 = .ok (.invokestatic 94, 3) := by decide +kernel
theorem d_Tide_isTaken_99 : decode c_Tide_isTaken 99 = .ok (.ifCond .eq 7, 3) := by decide +kernel
theorem d_Tide_isTaken_102 : decode c_Tide_isTaken 102 = .ok (.iconst 1, 1) := by decide +kernel
theorem d_Tide_isTaken_103 : decode c_Tide_isTaken 103 = .ok (.goto 4, 3) := by decide +kernel
theorem d_Tide_isTaken_106 : decode c_Tide_isTaken 106 = .ok (.iconst 0, 1) := by decide +kernel
theorem d_Tide_isTaken_107 : decode c_Tide_isTaken 107 = .ok (.ireturn, 1) := by decide +kernel
theorem d_Tide_isTaken_108 : decode c_Tide_isTaken 108 = .ok (.iload_n 1, 1) := by decide +kernel
theorem d_Tide_isTaken_109 : decode c_Tide_isTaken 109 = .ok (.iload_n 2, 1) := by decide +kernel
theorem d_Tide_isTaken_110 : decode c_Tide_isTaken 110 = .ok (.invokestatic 88, 3) := by decide +kernel
theorem d_Tide_isTaken_113 : decode c_Tide_isTaken 113 = .ok (.if_icmp .ge 7, 3) := by decide +kernel
theorem d_Tide_isTaken_116 : decode c_Tide_isTaken 116 = .ok (.iconst 1, 1) := by decide +kernel
theorem d_Tide_isTaken_117 : decode c_Tide_isTaken 117 = .ok (.goto 4, 3) := by decide +kernel
theorem d_Tide_isTaken_120 : decode c_Tide_isTaken 120 = .ok (.iconst 0, 1) := by decide +kernel
theorem d_Tide_isTaken_121 : decode c_Tide_isTaken 121 = .ok (.ireturn, 1) := by decide +kernel
theorem d_Way_waitForTide_0 : decode c_Way_waitForTide 0 = .ok (.iconst 0, 1) := by decide +kernel
theorem d_Way_waitForTide_1 : decode c_Way_waitForTide 1 = .ok (.istore 5, 2) := by decide +kernel
theorem d_Way_waitForTide_3 : decode c_Way_waitForTide 3 = .ok (.iload 5, 2) := by decide +kernel
theorem d_Way_waitForTide_5 : decode c_Way_waitForTide 5 = .ok (.iload 4, 2) := by decide +kernel
theorem d_Way_waitForTide_7 : decode c_Way_waitForTide 7 = .ok (.if_icmp .ge 57, 3) := by decide +kernel
theorem d_Way_waitForTide_10 : decode c_Way_waitForTide 10 = .ok (.iload 5, 2) := by decide +kernel
theorem d_Way_waitForTide_12 : decode c_Way_waitForTide 12 = .ok (.bipush 14, 2) := by decide +kernel
theorem d_Way_waitForTide_14 : decode c_Way_waitForTide 14 = .ok (.if_icmp .ge 50, 3) := by decide +kernel
theorem d_Way_waitForTide_17 : decode c_Way_waitForTide 17 = .ok (.aload_n 0, 1) := by decide +kernel
theorem d_Way_waitForTide_18 : decode c_Way_waitForTide 18 = .ok (.getfield 26, 3) := by decide +kernel
theorem d_Way_waitForTide_21 : decode c_Way_waitForTide 21 = .ok (.iconst 1, 1) := by decide +kernel
theorem d_Way_waitForTide_22 : decode c_Way_waitForTide 22 = .ok (.if_icmp .ne 42, 3) := by decide +kernel
theorem d_Way_waitForTide_25 : decode c_Way_waitForTide 25 = .ok (.iload_n 1, 1) := by decide +kernel
theorem d_Way_waitForTide_26 : decode c_Way_waitForTide 26 = .ok (.iload_n 2, 1) := by decide +kernel
theorem d_Way_waitForTide_27 : decode c_Way_waitForTide 27 = .ok (.iload_n 3, 1) := by decide +kernel
theorem d_Way_waitForTide_28 : decode c_Way_waitForTide 28 = .ok (.iload 5, 2) := by decide +kernel
theorem d_Way_waitForTide_30 : decode c_Way_waitForTide 30 = .ok (.iadd, 1) := by decide +kernel
theorem d_Way_waitForTide_31 : decode c_Way_waitForTide 31 = .ok (.invokestatic 42, 3) := by decide +kernel
theorem d_Way_waitForTide_34 : decode c_Way_waitForTide 34 = .ok (.ifCond .eq 24, 3) := by decide +kernel
theorem d_Way_waitForTide_37 : decode c_Way_waitForTide 37 = .ok (.aload_n 0, 1) := by decide +kernel
theorem d_Way_waitForTide_38 : decode c_Way_waitForTide 38 = .ok (.iconst 2, 1) := by decide +kernel
theorem d_Way_waitForTide_39 : decode c_Way_waitForTide 39 = .ok (.putfield 26, 3) := by decide +kernel
theorem d_Way_waitForTide_42 : decode c_Way_waitForTide 42 = .ok (.aload_n 0, 1) := by decide +kernel
theorem d_Way_waitForTide_43 : decode c_Way_waitForTide 43 = .ok (.iload_n 3, 1) := by decide +kernel
theorem d_Way_waitForTide_44 : decode c_Way_waitForTide 44 = .ok (.iload 5, 2) := by decide +kernel
theorem d_Way_waitForTide_46 : decode c_Way_waitForTide 46 = .ok (.iadd, 1) := by decide +kernel
theorem d_Way_waitForTide_47 : decode c_Way_waitForTide 47 = .ok (.putfield 30, 3) := by decide +kernel
theorem d_Way_waitForTide_50 : decode c_Way_waitForTide 50 = .ok (.aload_n 0, 1) := by decide +kernel
theorem d_Way_waitForTide_51 : decode c_Way_waitForTide 51 = .ok (.iload 5, 2) := by decide +kernel
theorem d_Way_waitForTide_53 : decode c_Way_waitForTide 53 = .ok (.iconst 1, 1) := by decide +kernel
theorem d_Way_waitForTide_54 : decode c_Way_waitForTide 54 = .ok (.iadd, 1) := by decide +kernel
theorem d_Way_waitForTide_55 : decode c_Way_waitForTide 55 = .ok (.putfield 9, 3) := by decide +kernel
theorem d_Way_waitForTide_58 : decode c_Way_waitForTide 58 = .ok (.iinc 5 1, 3) := by decide +kernel
theorem d_Way_waitForTide_61 : decode c_Way_waitForTide 61 = .ok (.goto (-58), 3) := by decide +kernel
theorem d_Way_waitForTide_64 : decode c_Way_waitForTide 64 = .ok (.return_, 1) := by decide +kernel
theorem d_Tide_termOf_0 : decode c_Tide_termOf 0 = .ok (.iload_n 0, 1) := by decide +kernel
theorem d_Tide_termOf_1 : decode c_Tide_termOf 1 = .ok (.tableswitch 66 1 5 #[35, 43, 48, 51, 58], 35) := by decide +kernel
theorem d_Tide_termOf_36 : decode c_Tide_termOf 36 = .ok (.iconst 0, 1) := by decide +kernel
theorem d_Tide_termOf_37 : decode c_Tide_termOf 37 = .ok (.invokestatic 139, 3) := by decide +kernel
theorem d_Tide_termOf_40 : decode c_Tide_termOf 40 = .ok (.bipush 7, 2) := by decide +kernel
theorem d_Tide_termOf_42 : decode c_Tide_termOf 42 = .ok (.iadd, 1) := by decide +kernel
theorem d_Tide_termOf_43 : decode c_Tide_termOf 43 = .ok (.ireturn, 1) := by decide +kernel
theorem d_Tide_termOf_44 : decode c_Tide_termOf 44 = .ok (.iconst 0, 1) := by decide +kernel
theorem d_Tide_termOf_45 : decode c_Tide_termOf 45 = .ok (.invokestatic 139, 3) := by decide +kernel
theorem d_Tide_termOf_48 : decode c_Tide_termOf 48 = .ok (.ireturn, 1) := by decide +kernel
theorem d_Tide_termOf_49 : decode c_Tide_termOf 49 = .ok (.bipush 28, 2) := by decide +kernel
theorem d_Tide_termOf_51 : decode c_Tide_termOf 51 = .ok (.ireturn, 1) := by decide +kernel
theorem d_Tide_termOf_52 : decode c_Tide_termOf 52 = .ok (.iconst 2, 1) := by decide +kernel
theorem d_Tide_termOf_53 : decode c_Tide_termOf 53 = .ok (.iconst 1, 1) := by decide +kernel
theorem d_Tide_termOf_54 : decode c_Tide_termOf 54 = .ok (.invokestatic 139, 3) := by decide +kernel
theorem d_Tide_termOf_57 : decode c_Tide_termOf 57 = .ok (.imul, 1) := by decide +kernel
theorem d_Tide_termOf_58 : decode c_Tide_termOf 58 = .ok (.ireturn, 1) := by decide +kernel
theorem d_Tide_termOf_59 : decode c_Tide_termOf 59 = .ok (.iconst 2, 1) := by decide +kernel
theorem d_Tide_termOf_60 : decode c_Tide_termOf 60 = .ok (.invokestatic 139, 3) := by decide +kernel
theorem d_Tide_termOf_63 : decode c_Tide_termOf 63 = .ok (.bipush 14, 2) := by decide +kernel
theorem d_Tide_termOf_65 : decode c_Tide_termOf 65 = .ok (.iadd, 1) := by decide +kernel
theorem d_Tide_termOf_66 : decode c_Tide_termOf 66 = .ok (.ireturn, 1) := by decide +kernel
theorem d_Tide_termOf_67 : decode c_Tide_termOf 67 = .ok (.iconst 1, 1) := by decide +kernel
theorem d_Tide_termOf_68 : decode c_Tide_termOf 68 = .ok (.ireturn, 1) := by decide +kernel
theorem d_Tide_springFrom_0 : decode c_Tide_springFrom 0 = .ok (.iload_n 0, 1) := by decide +kernel
theorem d_Tide_springFrom_1 : decode c_Tide_springFrom 1 = .ok (.bipush 14, 2) := by decide +kernel
theorem d_Tide_springFrom_3 : decode c_Tide_springFrom 3 = .ok (.iadd, 1) := by decide +kernel
theorem d_Tide_springFrom_4 : decode c_Tide_springFrom 4 = .ok (.iconst 1, 1) := by decide +kernel
theorem d_Tide_springFrom_5 : decode c_Tide_springFrom 5 = .ok (.isub, 1) := by decide +kernel
theorem d_Tide_springFrom_6 : decode c_Tide_springFrom 6 = .ok (.bipush 14, 2) := by decide +kernel
theorem d_Tide_springFrom_8 : decode c_Tide_springFrom 8 = .ok (.idiv, 1) := by decide +kernel
theorem d_Tide_springFrom_9 : decode c_Tide_springFrom 9 = .ok (.bipush 14, 2) := by decide +kernel
theorem d_Tide_springFrom_11 : decode c_Tide_springFrom 11 = .ok (.imul, 1) := by decide +kernel
theorem d_Tide_springFrom_12 : decode c_Tide_springFrom 12 = .ok (.ireturn, 1) := by decide +kernel
theorem d_Way_waitForSpring_0 : decode c_Way_waitForSpring 0 = .ok (.iload_n 2, 1) := by decide +kernel
theorem d_Way_waitForSpring_1 : decode c_Way_waitForSpring 1 = .ok (.aload_n 0, 1) := by decide +kernel
theorem d_Way_waitForSpring_2 : decode c_Way_waitForSpring 2 = .ok (.getfield 30, 3) := by decide +kernel
theorem d_Way_waitForSpring_5 : decode c_Way_waitForSpring 5 = .ok (.iload_n 1, 1) := by decide +kernel
theorem d_Way_waitForSpring_6 : decode c_Way_waitForSpring 6 = .ok (.invokestatic 46, 3) := by decide +kernel
theorem d_Way_waitForSpring_9 : decode c_Way_waitForSpring 9 = .ok (.iadd, 1) := by decide +kernel
theorem d_Way_waitForSpring_10 : decode c_Way_waitForSpring 10 = .ok (.invokestatic 50, 3) := by decide +kernel
theorem d_Way_waitForSpring_13 : decode c_Way_waitForSpring 13 = .ok (.invokestatic 56, 3) := by decide +kernel
theorem d_Way_waitForSpring_16 : decode c_Way_waitForSpring 16 = .ok (.istore 4, 2) := by decide +kernel
theorem d_Way_waitForSpring_18 : decode c_Way_waitForSpring 18 = .ok (.iload 4, 2) := by decide +kernel
theorem d_Way_waitForSpring_20 : decode c_Way_waitForSpring 20 = .ok (.iload_n 2, 1) := by decide +kernel
theorem d_Way_waitForSpring_21 : decode c_Way_waitForSpring 21 = .ok (.isub, 1) := by decide +kernel
theorem d_Way_waitForSpring_22 : decode c_Way_waitForSpring 22 = .ok (.iload_n 3, 1) := by decide +kernel
theorem d_Way_waitForSpring_23 : decode c_Way_waitForSpring 23 = .ok (.if_icmp .ge 29, 3) := by decide +kernel
theorem d_Way_waitForSpring_26 : decode c_Way_waitForSpring 26 = .ok (.aload_n 0, 1) := by decide +kernel
theorem d_Way_waitForSpring_27 : decode c_Way_waitForSpring 27 = .ok (.iconst 0, 1) := by decide +kernel
theorem d_Way_waitForSpring_28 : decode c_Way_waitForSpring 28 = .ok (.putfield 26, 3) := by decide +kernel
theorem d_Way_waitForSpring_31 : decode c_Way_waitForSpring 31 = .ok (.aload_n 0, 1) := by decide +kernel
theorem d_Way_waitForSpring_32 : decode c_Way_waitForSpring 32 = .ok (.iload 4, 2) := by decide +kernel
theorem d_Way_waitForSpring_34 : decode c_Way_waitForSpring 34 = .ok (.iload_n 2, 1) := by decide +kernel
theorem d_Way_waitForSpring_35 : decode c_Way_waitForSpring 35 = .ok (.isub, 1) := by decide +kernel
theorem d_Way_waitForSpring_36 : decode c_Way_waitForSpring 36 = .ok (.iconst 1, 1) := by decide +kernel
theorem d_Way_waitForSpring_37 : decode c_Way_waitForSpring 37 = .ok (.iadd, 1) := by decide +kernel
theorem d_Way_waitForSpring_38 : decode c_Way_waitForSpring 38 = .ok (.putfield 15, 3) := by decide +kernel
theorem d_Way_waitForSpring_41 : decode c_Way_waitForSpring 41 = .ok (.aload_n 0, 1) := by decide +kernel
theorem d_Way_waitForSpring_42 : decode c_Way_waitForSpring 42 = .ok (.iload 4, 2) := by decide +kernel
theorem d_Way_waitForSpring_44 : decode c_Way_waitForSpring 44 = .ok (.aload_n 0, 1) := by decide +kernel
theorem d_Way_waitForSpring_45 : decode c_Way_waitForSpring 45 = .ok (.getfield 30, 3) := by decide +kernel
theorem d_Way_waitForSpring_48 : decode c_Way_waitForSpring 48 = .ok (.isub, 1) := by decide +kernel
theorem d_Way_waitForSpring_49 : decode c_Way_waitForSpring 49 = .ok (.putfield 18, 3) := by decide +kernel
theorem d_Way_waitForSpring_52 : decode c_Way_waitForSpring 52 = .ok (.return_, 1) := by decide +kernel
theorem d_Way_follow_0 : decode c_Way_follow 0 = .ok (.aload_n 0, 1) := by decide +kernel
theorem d_Way_follow_1 : decode c_Way_follow 1 = .ok (.iconst 0, 1) := by decide +kernel
theorem d_Way_follow_2 : decode c_Way_follow 2 = .ok (.putfield 9, 3) := by decide +kernel
theorem d_Way_follow_5 : decode c_Way_follow 5 = .ok (.aload_n 0, 1) := by decide +kernel
theorem d_Way_follow_6 : decode c_Way_follow 6 = .ok (.iconst 0, 1) := by decide +kernel
theorem d_Way_follow_7 : decode c_Way_follow 7 = .ok (.putfield 15, 3) := by decide +kernel
theorem d_Way_follow_10 : decode c_Way_follow 10 = .ok (.aload_n 0, 1) := by decide +kernel
theorem d_Way_follow_11 : decode c_Way_follow 11 = .ok (.iconst 0, 1) := by decide +kernel
theorem d_Way_follow_12 : decode c_Way_follow 12 = .ok (.putfield 18, 3) := by decide +kernel
theorem d_Way_follow_15 : decode c_Way_follow 15 = .ok (.aload_n 0, 1) := by decide +kernel
theorem d_Way_follow_16 : decode c_Way_follow 16 = .ok (.aload_n 1, 1) := by decide +kernel
theorem d_Way_follow_17 : decode c_Way_follow 17 = .ok (.getfield 21, 3) := by decide +kernel
theorem d_Way_follow_20 : decode c_Way_follow 20 = .ok (.putfield 26, 3) := by decide +kernel
theorem d_Way_follow_23 : decode c_Way_follow 23 = .ok (.aload_n 0, 1) := by decide +kernel
theorem d_Way_follow_24 : decode c_Way_follow 24 = .ok (.aload_n 1, 1) := by decide +kernel
theorem d_Way_follow_25 : decode c_Way_follow 25 = .ok (.getfield 27, 3) := by decide +kernel
theorem d_Way_follow_28 : decode c_Way_follow 28 = .ok (.putfield 30, 3) := by decide +kernel
theorem d_Way_follow_31 : decode c_Way_follow 31 = .ok (.aload_n 0, 1) := by decide +kernel
theorem d_Way_follow_32 : decode c_Way_follow 32 = .ok (.getfield 26, 3) := by decide +kernel
theorem d_Way_follow_35 : decode c_Way_follow 35 = .ok (.iconst 1, 1) := by decide +kernel
theorem d_Way_follow_36 : decode c_Way_follow 36 = .ok (.if_icmp .ne 15, 3) := by decide +kernel
theorem d_Way_follow_39 : decode c_Way_follow 39 = .ok (.aload_n 0, 1) := by decide +kernel
theorem d_Way_follow_40 : decode c_Way_follow 40 = .ok (.aload_n 1, 1) := by decide +kernel
theorem d_Way_follow_41 : decode c_Way_follow 41 = .ok (.getfield 31, 3) := by decide +kernel
theorem d_Way_follow_44 : decode c_Way_follow 44 = .ok (.iload_n 2, 1) := by decide +kernel
theorem d_Way_follow_45 : decode c_Way_follow 45 = .ok (.iload_n 3, 1) := by decide +kernel
theorem d_Way_follow_46 : decode c_Way_follow 46 = .ok (.iload 4, 2) := by decide +kernel
theorem d_Way_follow_48 : decode c_Way_follow 48 = .ok (.invokevirtual 34, 3) := by decide +kernel
theorem d_Way_follow_51 : decode c_Way_follow 51 = .ok (.aload_n 0, 1) := by decide +kernel
theorem d_Way_follow_52 : decode c_Way_follow 52 = .ok (.getfield 26, 3) := by decide +kernel
theorem d_Way_follow_55 : decode c_Way_follow 55 = .ok (.iconst 2, 1) := by decide +kernel
theorem d_Way_follow_56 : decode c_Way_follow 56 = .ok (.if_icmp .ne 14, 3) := by decide +kernel
theorem d_Way_follow_59 : decode c_Way_follow 59 = .ok (.aload_n 0, 1) := by decide +kernel
theorem d_Way_follow_60 : decode c_Way_follow 60 = .ok (.aload_n 1, 1) := by decide +kernel
theorem d_Way_follow_61 : decode c_Way_follow 61 = .ok (.getfield 31, 3) := by decide +kernel
theorem d_Way_follow_64 : decode c_Way_follow 64 = .ok (.iload_n 3, 1) := by decide +kernel
theorem d_Way_follow_65 : decode c_Way_follow 65 = .ok (.iload 4, 2) := by decide +kernel
theorem d_Way_follow_67 : decode c_Way_follow 67 = .ok (.invokevirtual 38, 3) := by decide +kernel
theorem d_Way_follow_70 : decode c_Way_follow 70 = .ok (.return_, 1) := by decide +kernel
theorem d_Tide_moonOf_0 : decode c_Tide_moonOf 0 = .ok (.iload_n 0, 1) := by decide +kernel
theorem d_Tide_moonOf_1 : decode c_Tide_moonOf 1 = .ok (.bipush 28, 2) := by decide +kernel
theorem d_Tide_moonOf_3 : decode c_Tide_moonOf 3 = .ok (.irem, 1) := by decide +kernel
theorem d_Tide_moonOf_4 : decode c_Tide_moonOf 4 = .ok (.ireturn, 1) := by decide +kernel
theorem d_Tide_broughtAs_0 : decode c_Tide_broughtAs 0 = .ok (.iload_n 0, 1) := by decide +kernel
theorem d_Tide_broughtAs_1 : decode c_Tide_broughtAs 1 = .ok (.tableswitch 99 1 5 #[35, 46, 57, 77, 88], 35) := by decide +kernel
theorem d_Tide_broughtAs_36 : decode c_Tide_broughtAs 36 = .ok (.iconst 0, 1) := by decide +kernel
theorem d_Tide_broughtAs_37 : decode c_Tide_broughtAs 37 = .ok (.lload_n 1, 1) := by decide +kernel
theorem d_Tide_broughtAs_38 : decode c_Tide_broughtAs 38 = .ok (.iload_n 3, 1) := by decide +kernel
theorem d_Tide_broughtAs_39 : decode c_Tide_broughtAs 39 = .ok (.invokestatic 305, 3) := by decide +kernel
theorem d_Tide_broughtAs_42 : decode c_Tide_broughtAs 42 = .ok (.ldc2_w 309, 3) := by decide +kernel
theorem d_Tide_broughtAs_45 : decode c_Tide_broughtAs 45 = .ok (.ladd, 1) := by decide +kernel
theorem d_Tide_broughtAs_46 : decode c_Tide_broughtAs 46 = .ok (.lreturn, 1) := by decide +kernel
theorem d_Tide_broughtAs_47 : decode c_Tide_broughtAs 47 = .ok (.iconst 0, 1) := by decide +kernel
theorem d_Tide_broughtAs_48 : decode c_Tide_broughtAs 48 = .ok (.lload_n 1, 1) := by decide +kernel
theorem d_Tide_broughtAs_49 : decode c_Tide_broughtAs 49 = .ok (.iload_n 3, 1) := by decide +kernel
theorem d_Tide_broughtAs_50 : decode c_Tide_broughtAs 50 = .ok (.invokestatic 305, 3) := by decide +kernel
theorem d_Tide_broughtAs_53 : decode c_Tide_broughtAs 53 = .ok (.ldc2_w 311, 3) := by decide +kernel
theorem d_Tide_broughtAs_56 : decode c_Tide_broughtAs 56 = .ok (.ldiv, 1) := by decide +kernel
theorem d_Tide_broughtAs_57 : decode c_Tide_broughtAs 57 = .ok (.lreturn, 1) := by decide +kernel
theorem d_Tide_broughtAs_58 : decode c_Tide_broughtAs 58 = .ok (.iload_n 3, 1) := by decide +kernel
theorem d_Tide_broughtAs_59 : decode c_Tide_broughtAs 59 = .ok (.invokestatic 91, 3) := by decide +kernel
theorem d_Tide_broughtAs_62 : decode c_Tide_broughtAs 62 = .ok (.bipush 14, 2) := by decide +kernel
theorem d_Tide_broughtAs_64 : decode c_Tide_broughtAs 64 = .ok (.if_icmp .ne 7, 3) := by decide +kernel
theorem d_Tide_broughtAs_67 : decode c_Tide_broughtAs 67 = .ok (.lconst 0, 1) := by decide +kernel
theorem d_Tide_broughtAs_68 : decode c_Tide_broughtAs 68 = .ok (.goto 9, 3) := by decide +kernel
theorem d_Tide_broughtAs_71 : decode c_Tide_broughtAs 71 = .ok (.iconst 0, 1) := by decide +kernel
theorem d_Tide_broughtAs_72 : decode c_Tide_broughtAs 72 = .ok (.lload_n 1, 1) := by decide +kernel
theorem d_Tide_broughtAs_73 : decode c_Tide_broughtAs 73 = .ok (.iload_n 3, 1) := by decide +kernel
theorem d_Tide_broughtAs_74 : decode c_Tide_broughtAs 74 = .ok (.invokestatic 305, 3) := by decide +kernel
theorem d_Tide_broughtAs_77 : decode c_Tide_broughtAs 77 = .ok (.lreturn, 1) := by decide +kernel
theorem d_Tide_broughtAs_78 : decode c_Tide_broughtAs 78 = .ok (.ldc2_w 311, 3) := by decide +kernel
theorem d_Tide_broughtAs_81 : decode c_Tide_broughtAs 81 = .ok (.iconst 1, 1) := by decide +kernel
theorem d_Tide_broughtAs_82 : decode c_Tide_broughtAs 82 = .ok (.lload_n 1, 1) := by decide +kernel
theorem d_Tide_broughtAs_83 : decode c_Tide_broughtAs 83 = .ok (.iload_n 3, 1) := by decide +kernel
theorem d_Tide_broughtAs_84 : decode c_Tide_broughtAs 84 = .ok (.invokestatic 305, 3) := by decide +kernel
theorem d_Tide_broughtAs_87 : decode c_Tide_broughtAs 87 = .ok (.lmul, 1) := by decide +kernel
theorem d_Tide_broughtAs_88 : decode c_Tide_broughtAs 88 = .ok (.lreturn, 1) := by decide +kernel
theorem d_Tide_broughtAs_89 : decode c_Tide_broughtAs 89 = .ok (.iconst 2, 1) := by decide +kernel
theorem d_Tide_broughtAs_90 : decode c_Tide_broughtAs 90 = .ok (.lload_n 1, 1) := by decide +kernel
theorem d_Tide_broughtAs_91 : decode c_Tide_broughtAs 91 = .ok (.iload_n 3, 1) := by decide +kernel
theorem d_Tide_broughtAs_92 : decode c_Tide_broughtAs 92 = .ok (.invokestatic 305, 3) := by decide +kernel
theorem d_Tide_broughtAs_95 : decode c_Tide_broughtAs 95 = .ok (.ldc2_w 313, 3) := by decide +kernel
theorem d_Tide_broughtAs_98 : decode c_Tide_broughtAs 98 = .ok (.ladd, 1) := by decide +kernel
theorem d_Tide_broughtAs_99 : decode c_Tide_broughtAs 99 = .ok (.lreturn, 1) := by decide +kernel
theorem d_Tide_broughtAs_100 : decode c_Tide_broughtAs 100 = .ok (.lload_n 1, 1) := by decide +kernel
theorem d_Tide_broughtAs_101 : decode c_Tide_broughtAs 101 = .ok (.lreturn, 1) := by decide +kernel
theorem d_Tide_repaid_0 : decode c_Tide_repaid 0 = .ok (.aload_n 0, 1) := by decide +kernel
theorem d_Tide_repaid_1 : decode c_Tide_repaid 1 = .ok (.getfield 130, 3) := by decide +kernel
theorem d_Tide_repaid_4 : decode c_Tide_repaid 4 = .ok (.i2l, 1) := by decide +kernel
theorem d_Tide_repaid_5 : decode c_Tide_repaid 5 = .ok (.aload_n 0, 1) := by decide +kernel
theorem d_Tide_repaid_6 : decode c_Tide_repaid 6 = .ok (.getfield 130, 3) := by decide +kernel
theorem d_Tide_repaid_9 : decode c_Tide_repaid 9 = .ok (.i2l, 1) := by decide +kernel
theorem d_Tide_repaid_10 : decode c_Tide_repaid 10 = .ok (.iload_n 1, 1) := by decide +kernel
theorem d_Tide_repaid_11 : decode c_Tide_repaid 11 = .ok (.i2l, 1) := by decide +kernel
theorem d_Tide_repaid_12 : decode c_Tide_repaid 12 = .ok (.lmul, 1) := by decide +kernel
theorem d_Tide_repaid_13 : decode c_Tide_repaid 13 = .ok (.iload_n 3, 1) := by decide +kernel
theorem d_Tide_repaid_14 : decode c_Tide_repaid 14 = .ok (.i2l, 1) := by decide +kernel
theorem d_Tide_repaid_15 : decode c_Tide_repaid 15 = .ok (.lmul, 1) := by decide +kernel
theorem d_Tide_repaid_16 : decode c_Tide_repaid 16 = .ok (.ldc2_w 315, 3) := by decide +kernel
theorem d_Tide_repaid_19 : decode c_Tide_repaid 19 = .ok (.ldiv, 1) := by decide +kernel
theorem d_Tide_repaid_20 : decode c_Tide_repaid 20 = .ok (.ladd, 1) := by decide +kernel
theorem d_Tide_repaid_21 : decode c_Tide_repaid 21 = .ok (.lstore 4, 2) := by decide +kernel
theorem d_Tide_repaid_23 : decode c_Tide_repaid 23 = .ok (.ldc2_w 317, 3) := by decide +kernel
theorem d_Tide_repaid_26 : decode c_Tide_repaid 26 = .ok (.aload_n 0, 1) := by decide +kernel
theorem d_Tide_repaid_27 : decode c_Tide_repaid 27 = .ok (.getfield 121, 3) := by decide +kernel
theorem d_Tide_repaid_30 : decode c_Tide_repaid 30 = .ok (.lload 4, 2) := by decide +kernel
theorem d_Tide_repaid_32 : decode c_Tide_repaid 32 = .ok (.iload_n 2, 1) := by decide +kernel
theorem d_Tide_repaid_33 : decode c_Tide_repaid 33 = .ok (.invokestatic 305, 3) := by decide +kernel
theorem d_Tide_repaid_36 : decode c_Tide_repaid 36 = .ok (.invokestatic 319, 3) := by decide +kernel
theorem d_Tide_repaid_39 : decode c_Tide_repaid 39 = .ok (.l2i, 1) := by decide +kernel
theorem d_Tide_repaid_40 : decode c_Tide_repaid 40 = .ok (.ireturn, 1) := by decide +kernel
theorem d_Way_brings_0 : decode c_Way_brings 0 = .ok (.aload_n 0, 1) := by decide +kernel
theorem d_Way_brings_1 : decode c_Way_brings 1 = .ok (.getfield 15, 3) := by decide +kernel
theorem d_Way_brings_4 : decode c_Way_brings 4 = .ok (.ifCond .le 19, 3) := by decide +kernel
theorem d_Way_brings_7 : decode c_Way_brings 7 = .ok (.aload_n 1, 1) := by decide +kernel
theorem d_Way_brings_8 : decode c_Way_brings 8 = .ok (.iload_n 2, 1) := by decide +kernel
theorem d_Way_brings_9 : decode c_Way_brings 9 = .ok (.aload_n 0, 1) := by decide +kernel
theorem d_Way_brings_10 : decode c_Way_brings 10 = .ok (.getfield 30, 3) := by decide +kernel
theorem d_Way_brings_13 : decode c_Way_brings 13 = .ok (.aload_n 0, 1) := by decide +kernel
theorem d_Way_brings_14 : decode c_Way_brings 14 = .ok (.getfield 18, 3) := by decide +kernel
theorem d_Way_brings_17 : decode c_Way_brings 17 = .ok (.invokestatic 59, 3) := by decide +kernel
theorem d_Way_brings_20 : decode c_Way_brings 20 = .ok (.goto 4, 3) := by decide +kernel
theorem d_Way_brings_23 : decode c_Way_brings 23 = .ok (.iconst 0, 1) := by decide +kernel
theorem d_Way_brings_24 : decode c_Way_brings 24 = .ok (.ireturn, 1) := by decide +kernel
theorem d_Tide_finding_0 : decode c_Tide_finding 0 = .ok (.ldc 68, 2) := by decide +kernel
theorem d_Tide_finding_2 : decode c_Tide_finding 2 = .ok (.iload_n 1, 1) := by decide +kernel
theorem d_Tide_finding_3 : decode c_Tide_finding 3 = .ok (.isub, 1) := by decide +kernel
theorem d_Tide_finding_4 : decode c_Tide_finding 4 = .ok (.istore_n 2, 1) := by decide +kernel
theorem d_Tide_finding_5 : decode c_Tide_finding 5 = .ok (.iload_n 2, 1) := by decide +kernel
theorem d_Tide_finding_6 : decode c_Tide_finding 6 = .ok (.bipush 7, 2) := by decide +kernel
theorem d_Tide_finding_8 : decode c_Tide_finding 8 = .ok (.invokestatic 64, 3) := by decide +kernel
theorem d_Tide_finding_11 : decode c_Tide_finding 11 = .ok (.ifCond .eq 13, 3) := by decide +kernel
theorem d_Tide_finding_14 : decode c_Tide_finding 14 = .ok (.aload_n 0, 1) := by decide +kernel
theorem d_Tide_finding_15 : decode c_Tide_finding 15 = .ok (.getfield 9, 3) := by decide +kernel
theorem d_Tide_finding_18 : decode c_Tide_finding 18 = .ok (.iload_n 2, 1) := by decide +kernel
theorem d_Tide_finding_19 : decode c_Tide_finding 19 = .ok (.dup2, 1) := by decide +kernel
theorem d_Tide_finding_20 : decode c_Tide_finding 20 = .ok (.iaload, 1) := by decide +kernel
theorem d_Tide_finding_21 : decode c_Tide_finding 21 = .ok (.iconst 1, 1) := by decide +kernel
theorem d_Tide_finding_22 : decode c_Tide_finding 22 = .ok (.iadd, 1) := by decide +kernel
theorem d_Tide_finding_23 : decode c_Tide_finding 23 = .ok (.iastore, 1) := by decide +kernel
theorem d_Tide_finding_24 : decode c_Tide_finding 24 = .ok (.iload_n 1, 1) := by decide +kernel
theorem d_Tide_finding_25 : decode c_Tide_finding 25 = .ok (.ireturn, 1) := by decide +kernel
theorem d_Tide_height_0 : decode c_Tide_height 0 = .ok (.iload_n 1, 1) := by decide +kernel
theorem d_Tide_height_1 : decode c_Tide_height 1 = .ok (.bipush 16, 2) := by decide +kernel
theorem d_Tide_height_3 : decode c_Tide_height 3 = .ok (.invokestatic 64, 3) := by decide +kernel
theorem d_Tide_height_6 : decode c_Tide_height 6 = .ok (.ifCond .eq 12, 3) := by decide +kernel
theorem d_Tide_height_9 : decode c_Tide_height 9 = .ok (.iload_n 2, 1) := by decide +kernel
theorem d_Tide_height_10 : decode c_Tide_height 10 = .ok (.bipush 10, 2) := by decide +kernel
theorem d_Tide_height_12 : decode c_Tide_height 12 = .ok (.invokestatic 64, 3) := by decide +kernel
theorem d_Tide_height_15 : decode c_Tide_height 15 = .ok (.ifCond .ne 10, 3) := by decide +kernel
theorem d_Tide_height_18 : decode c_Tide_height 18 = .ok (.aload_n 0, 1) := by decide +kernel
theorem d_Tide_height_19 : decode c_Tide_height 19 = .ok (.ldc 68, 2) := by decide +kernel
theorem d_Tide_height_21 : decode c_Tide_height 21 = .ok (.invokevirtual 69, 3) := by decide +kernel
theorem d_Tide_height_24 : decode c_Tide_height 24 = .ok (.ireturn, 1) := by decide +kernel
theorem d_Tide_height_25 : decode c_Tide_height 25 = .ok (.aload_n 0, 1) := by decide +kernel
theorem d_Tide_height_26 : decode c_Tide_height 26 = .ok (.getfield 16, 3) := by decide +kernel
theorem d_Tide_height_29 : decode c_Tide_height 29 = .ok (.getfield 73, 3) := by decide +kernel
theorem d_Tide_height_32 : decode c_Tide_height 32 = .ok (.iload_n 1, 1) := by decide +kernel
theorem d_Tide_height_33 : decode c_Tide_height 33 = .ok (.iaload, 1) := by decide +kernel
theorem d_Tide_height_34 : decode c_Tide_height 34 = .ok (.istore_n 3, 1) := by decide +kernel
theorem d_Tide_height_35 : decode c_Tide_height 35 = .ok (.aload_n 0, 1) := by decide +kernel
theorem d_Tide_height_36 : decode c_Tide_height 36 = .ok (.getfield 16, 3) := by decide +kernel
theorem d_Tide_height_39 : decode c_Tide_height 39 = .ok (.getfield 73, 3) := by decide +kernel
theorem d_Tide_height_42 : decode c_Tide_height 42 = .ok (.iload_n 1, 1) := by decide +kernel
theorem d_Tide_height_43 : decode c_Tide_height 43 = .ok (.iload_n 2, 1) := by decide +kernel
theorem d_Tide_height_44 : decode c_Tide_height 44 = .ok (.iastore, 1) := by decide +kernel
theorem d_Tide_height_45 : decode c_Tide_height 45 = .ok (.iload_n 3, 1) := by decide +kernel
theorem d_Tide_height_46 : decode c_Tide_height 46 = .ok (.ireturn, 1) := by decide +kernel
theorem d_Tide_cell_0 : decode c_Tide_cell 0 = .ok (.iload_n 1, 1) := by decide +kernel
theorem d_Tide_cell_1 : decode c_Tide_cell 1 = .ok (.bipush 16, 2) := by decide +kernel
theorem d_Tide_cell_3 : decode c_Tide_cell 3 = .ok (.invokestatic 64, 3) := by decide +kernel
theorem d_Tide_cell_6 : decode c_Tide_cell 6 = .ok (.ifCond .eq 11, 3) := by decide +kernel
theorem d_Tide_cell_9 : decode c_Tide_cell 9 = .ok (.iload_n 2, 1) := by decide +kernel
theorem d_Tide_cell_10 : decode c_Tide_cell 10 = .ok (.iconst 2, 1) := by decide +kernel
theorem d_Tide_cell_11 : decode c_Tide_cell 11 = .ok (.invokestatic 64, 3) := by decide +kernel
theorem d_Tide_cell_14 : decode c_Tide_cell 14 = .ok (.ifCond .ne 10, 3) := by decide +kernel
theorem d_Tide_cell_17 : decode c_Tide_cell 17 = .ok (.aload_n 0, 1) := by decide +kernel
theorem d_Tide_cell_18 : decode c_Tide_cell 18 = .ok (.ldc 68, 2) := by decide +kernel
theorem d_Tide_cell_20 : decode c_Tide_cell 20 = .ok (.invokevirtual 69, 3) := by decide +kernel
theorem d_Tide_cell_23 : decode c_Tide_cell 23 = .ok (.ireturn, 1) := by decide +kernel
theorem d_Tide_cell_24 : decode c_Tide_cell 24 = .ok (.iload_n 2, 1) := by decide +kernel
theorem d_Tide_cell_25 : decode c_Tide_cell 25 = .ok (.ifCond .ne 15, 3) := by decide +kernel
theorem d_Tide_cell_28 : decode c_Tide_cell 28 = .ok (.aload_n 0, 1) := by decide +kernel
theorem d_Tide_cell_29 : decode c_Tide_cell 29 = .ok (.getfield 16, 3) := by decide +kernel
theorem d_Tide_cell_32 : decode c_Tide_cell 32 = .ok (.getfield 73, 3) := by decide +kernel
theorem d_Tide_cell_35 : decode c_Tide_cell 35 = .ok (.iload_n 1, 1) := by decide +kernel
theorem d_Tide_cell_36 : decode c_Tide_cell 36 = .ok (.iaload, 1) := by decide +kernel
theorem d_Tide_cell_37 : decode c_Tide_cell 37 = .ok (.goto 11, 3) := by decide +kernel
theorem d_Tide_cell_40 : decode c_Tide_cell 40 = .ok (.aload_n 0, 1) := by decide +kernel
theorem d_Tide_cell_41 : decode c_Tide_cell 41 = .ok (.getfield 16, 3) := by decide +kernel
theorem d_Tide_cell_44 : decode c_Tide_cell 44 = .ok (.iload_n 1, 1) := by decide +kernel
theorem d_Tide_cell_45 : decode c_Tide_cell 45 = .ok (.invokevirtual 76, 3) := by decide +kernel
theorem d_Tide_cell_48 : decode c_Tide_cell 48 = .ok (.ireturn, 1) := by decide +kernel
theorem d_Tide_isUpTo_0 : decode c_Tide_isUpTo 0 = .ok (.iload_n 0, 1) := by decide +kernel
theorem d_Tide_isUpTo_1 : decode c_Tide_isUpTo 1 = .ok (.iload_n 1, 1) := by decide +kernel
theorem d_Tide_isUpTo_2 : decode c_Tide_isUpTo 2 = .ok (.if_icmp .lt 12, 3) := by decide +kernel
theorem d_Tide_isUpTo_5 : decode c_Tide_isUpTo 5 = .ok (.iload_n 0, 1) := by decide +kernel
theorem d_Tide_isUpTo_6 : decode c_Tide_isUpTo 6 = .ok (.iload_n 2, 1) := by decide +kernel
theorem d_Tide_isUpTo_7 : decode c_Tide_isUpTo 7 = .ok (.if_icmp .gt 7, 3) := by decide +kernel
theorem d_Tide_isUpTo_10 : decode c_Tide_isUpTo 10 = .ok (.iconst 1, 1) := by decide +kernel
theorem d_Tide_isUpTo_11 : decode c_Tide_isUpTo 11 = .ok (.goto 4, 3) := by decide +kernel
theorem d_Tide_isUpTo_14 : decode c_Tide_isUpTo 14 = .ok (.iconst 0, 1) := by decide +kernel
theorem d_Tide_isUpTo_15 : decode c_Tide_isUpTo 15 = .ok (.ireturn, 1) := by decide +kernel
theorem d_Tide_interest_0 : decode c_Tide_interest 0 = .ok (.iload_n 1, 1) := by decide +kernel
theorem d_Tide_interest_1 : decode c_Tide_interest 1 = .ok (.iconst 0, 1) := by decide +kernel
theorem d_Tide_interest_2 : decode c_Tide_interest 2 = .ok (.bipush 50, 2) := by decide +kernel
theorem d_Tide_interest_4 : decode c_Tide_interest 4 = .ok (.invokestatic 79, 3) := by decide +kernel
theorem d_Tide_interest_7 : decode c_Tide_interest 7 = .ok (.ifCond .ne 10, 3) := by decide +kernel
theorem d_Tide_interest_10 : decode c_Tide_interest 10 = .ok (.aload_n 0, 1) := by decide +kernel
theorem d_Tide_interest_11 : decode c_Tide_interest 11 = .ok (.ldc 68, 2) := by decide +kernel
theorem d_Tide_interest_13 : decode c_Tide_interest 13 = .ok (.invokevirtual 69, 3) := by decide +kernel
theorem d_Tide_interest_16 : decode c_Tide_interest 16 = .ok (.ireturn, 1) := by decide +kernel
theorem d_Tide_interest_17 : decode c_Tide_interest 17 = .ok (.aload_n 0, 1) := by decide +kernel
theorem d_Tide_interest_18 : decode c_Tide_interest 18 = .ok (.getfield 16, 3) := by decide +kernel
theorem d_Tide_interest_21 : decode c_Tide_interest 21 = .ok (.getfield 83, 3) := by decide +kernel
theorem d_Tide_interest_24 : decode c_Tide_interest 24 = .ok (.istore_n 2, 1) := by decide +kernel
theorem d_Tide_interest_25 : decode c_Tide_interest 25 = .ok (.aload_n 0, 1) := by decide +kernel
theorem d_Tide_interest_26 : decode c_Tide_interest 26 = .ok (.getfield 16, 3) := by decide +kernel
theorem d_Tide_interest_29 : decode c_Tide_interest 29 = .ok (.iload_n 1, 1) := by decide +kernel
theorem d_Tide_interest_30 : decode c_Tide_interest 30 = .ok (.putfield 83, 3) := by decide +kernel
theorem d_Tide_interest_33 : decode c_Tide_interest 33 = .ok (.iload_n 2, 1) := by decide +kernel
theorem d_Tide_interest_34 : decode c_Tide_interest 34 = .ok (.ireturn, 1) := by decide +kernel
theorem d_Tide_tide_0 : decode c_Tide_tide 0 = .ok (.iload_n 1, 1) := by decide +kernel
theorem d_Tide_tide_1 : decode c_Tide_tide 1 = .ok (.iconst 0, 1) := by decide +kernel
theorem d_Tide_tide_2 : decode c_Tide_tide 2 = .ok (.ldc 87, 2) := by decide +kernel
theorem d_Tide_tide_4 : decode c_Tide_tide 4 = .ok (.invokestatic 79, 3) := by decide +kernel
theorem d_Tide_tide_7 : decode c_Tide_tide 7 = .ok (.ifCond .ne 10, 3) := by decide +kernel
theorem d_Tide_tide_10 : decode c_Tide_tide 10 = .ok (.aload_n 0, 1) := by decide +kernel
theorem d_Tide_tide_11 : decode c_Tide_tide 11 = .ok (.ldc 68, 2) := by decide +kernel
theorem d_Tide_tide_13 : decode c_Tide_tide 13 = .ok (.invokevirtual 69, 3) := by decide +kernel
theorem d_Tide_tide_16 : decode c_Tide_tide 16 = .ok (.ireturn, 1) := by decide +kernel
theorem d_Tide_tide_17 : decode c_Tide_tide 17 = .ok (.iload_n 2, 1) := by decide +kernel
theorem d_Tide_tide_18 : decode c_Tide_tide 18 = .ok (.tableswitch 65 0 3 #[30, 35, 40, 53], 30) := by decide +kernel
theorem d_Tide_tide_48 : decode c_Tide_tide 48 = .ok (.iload_n 1, 1) := by decide +kernel
theorem d_Tide_tide_49 : decode c_Tide_tide 49 = .ok (.invokestatic 88, 3) := by decide +kernel
theorem d_Tide_tide_52 : decode c_Tide_tide 52 = .ok (.ireturn, 1) := by decide +kernel
theorem d_Tide_tide_53 : decode c_Tide_tide 53 = .ok (.iload_n 1, 1) := by decide +kernel
theorem d_Tide_tide_54 : decode c_Tide_tide 54 = .ok (.invokestatic 91, 3) := by decide +kernel
theorem d_Tide_tide_57 : decode c_Tide_tide 57 = .ok (.ireturn, 1) := by decide +kernel
theorem d_Tide_tide_58 : decode c_Tide_tide 58 = .ok (.iload_n 1, 1) := by decide +kernel
theorem d_Tide_tide_59 : decode c_Tide_tide 59 = .ok (.invokestatic 94, 3) := by decide +kernel
theorem d_Tide_tide_62 : decode c_Tide_tide 62 = .ok (.ifCond .eq 7, 3) := by decide +kernel
theorem d_Tide_tide_65 : decode c_Tide_tide 65 = .ok (.iconst 1, 1) := by decide +kernel
theorem d_Tide_tide_66 : decode c_Tide_tide 66 = .ok (.goto 4, 3) := by decide +kernel
theorem d_Tide_tide_69 : decode c_Tide_tide 69 = .ok (.iconst 0, 1) := by decide +kernel
theorem d_Tide_tide_70 : decode c_Tide_tide 70 = .ok (.ireturn, 1) := by decide +kernel
theorem d_Tide_tide_71 : decode c_Tide_tide 71 = .ok (.aload_n 0, 1) := by decide +kernel
theorem d_Tide_tide_72 : decode c_Tide_tide 72 = .ok (.getfield 16, 3) := by decide +kernel
theorem d_Tide_tide_75 : decode c_Tide_tide 75 = .ok (.iload_n 1, 1) := by decide +kernel
theorem d_Tide_tide_76 : decode c_Tide_tide 76 = .ok (.invokestatic 88, 3) := by decide +kernel
theorem d_Tide_tide_79 : decode c_Tide_tide 79 = .ok (.invokevirtual 98, 3) := by decide +kernel
theorem d_Tide_tide_82 : decode c_Tide_tide 82 = .ok (.ireturn, 1) := by decide +kernel
theorem d_Tide_tide_83 : decode c_Tide_tide 83 = .ok (.aload_n 0, 1) := by decide +kernel
theorem d_Tide_tide_84 : decode c_Tide_tide 84 = .ok (.ldc 68, 2) := by decide +kernel
theorem d_Tide_tide_86 : decode c_Tide_tide 86 = .ok (.invokevirtual 69, 3) := by decide +kernel
theorem d_Tide_tide_89 : decode c_Tide_tide 89 = .ok (.ireturn, 1) := by decide +kernel
theorem d_Tide_purse_0 : decode c_Tide_purse 0 = .ok (.iload_n 1, 1) := by decide +kernel
theorem d_Tide_purse_1 : decode c_Tide_purse 1 = .ok (.iconst 4, 1) := by decide +kernel
theorem d_Tide_purse_2 : decode c_Tide_purse 2 = .ok (.invokestatic 64, 3) := by decide +kernel
theorem d_Tide_purse_5 : decode c_Tide_purse 5 = .ok (.ifCond .eq 13, 3) := by decide +kernel
theorem d_Tide_purse_8 : decode c_Tide_purse 8 = .ok (.iload_n 2, 1) := by decide +kernel
theorem d_Tide_purse_9 : decode c_Tide_purse 9 = .ok (.iconst 0, 1) := by decide +kernel
theorem d_Tide_purse_10 : decode c_Tide_purse 10 = .ok (.ldc 101, 2) := by decide +kernel
theorem d_Tide_purse_12 : decode c_Tide_purse 12 = .ok (.invokestatic 79, 3) := by decide +kernel
theorem d_Tide_purse_15 : decode c_Tide_purse 15 = .ok (.ifCond .ne 10, 3) := by decide +kernel
theorem d_Tide_purse_18 : decode c_Tide_purse 18 = .ok (.aload_n 0, 1) := by decide +kernel
theorem d_Tide_purse_19 : decode c_Tide_purse 19 = .ok (.ldc 68, 2) := by decide +kernel
theorem d_Tide_purse_21 : decode c_Tide_purse 21 = .ok (.invokevirtual 69, 3) := by decide +kernel
theorem d_Tide_purse_24 : decode c_Tide_purse 24 = .ok (.ireturn, 1) := by decide +kernel
theorem d_Tide_purse_25 : decode c_Tide_purse 25 = .ok (.aload_n 0, 1) := by decide +kernel
theorem d_Tide_purse_26 : decode c_Tide_purse 26 = .ok (.getfield 16, 3) := by decide +kernel
theorem d_Tide_purse_29 : decode c_Tide_purse 29 = .ok (.getfield 102, 3) := by decide +kernel
theorem d_Tide_purse_32 : decode c_Tide_purse 32 = .ok (.iload_n 1, 1) := by decide +kernel
theorem d_Tide_purse_33 : decode c_Tide_purse 33 = .ok (.iaload, 1) := by decide +kernel
theorem d_Tide_purse_34 : decode c_Tide_purse 34 = .ok (.istore_n 3, 1) := by decide +kernel
theorem d_Tide_purse_35 : decode c_Tide_purse 35 = .ok (.aload_n 0, 1) := by decide +kernel
theorem d_Tide_purse_36 : decode c_Tide_purse 36 = .ok (.getfield 16, 3) := by decide +kernel
theorem d_Tide_purse_39 : decode c_Tide_purse 39 = .ok (.getfield 102, 3) := by decide +kernel
theorem d_Tide_purse_42 : decode c_Tide_purse 42 = .ok (.iload_n 1, 1) := by decide +kernel
theorem d_Tide_purse_43 : decode c_Tide_purse 43 = .ok (.iload_n 2, 1) := by decide +kernel
theorem d_Tide_purse_44 : decode c_Tide_purse 44 = .ok (.iastore, 1) := by decide +kernel
theorem d_Tide_purse_45 : decode c_Tide_purse 45 = .ok (.iload_n 3, 1) := by decide +kernel
theorem d_Tide_purse_46 : decode c_Tide_purse 46 = .ok (.ireturn, 1) := by decide +kernel
theorem d_Tide_thing_0 : decode c_Tide_thing 0 = .ok (.iload_n 1, 1) := by decide +kernel
theorem d_Tide_thing_1 : decode c_Tide_thing 1 = .ok (.bipush 6, 2) := by decide +kernel
theorem d_Tide_thing_3 : decode c_Tide_thing 3 = .ok (.invokestatic 64, 3) := by decide +kernel
theorem d_Tide_thing_6 : decode c_Tide_thing 6 = .ok (.ifCond .eq 11, 3) := by decide +kernel
theorem d_Tide_thing_9 : decode c_Tide_thing 9 = .ok (.iload_n 2, 1) := by decide +kernel
theorem d_Tide_thing_10 : decode c_Tide_thing 10 = .ok (.iconst 4, 1) := by decide +kernel
theorem d_Tide_thing_11 : decode c_Tide_thing 11 = .ok (.invokestatic 64, 3) := by decide +kernel
theorem d_Tide_thing_14 : decode c_Tide_thing 14 = .ok (.ifCond .ne 10, 3) := by decide +kernel
theorem d_Tide_thing_17 : decode c_Tide_thing 17 = .ok (.aload_n 0, 1) := by decide +kernel
theorem d_Tide_thing_18 : decode c_Tide_thing 18 = .ok (.ldc 68, 2) := by decide +kernel
theorem d_Tide_thing_20 : decode c_Tide_thing 20 = .ok (.invokevirtual 69, 3) := by decide +kernel
theorem d_Tide_thing_23 : decode c_Tide_thing 23 = .ok (.ireturn, 1) := by decide +kernel
theorem d_Tide_thing_24 : decode c_Tide_thing 24 = .ok (.aload_n 0, 1) := by decide +kernel
theorem d_Tide_thing_25 : decode c_Tide_thing 25 = .ok (.getfield 16, 3) := by decide +kernel
theorem d_Tide_thing_28 : decode c_Tide_thing 28 = .ok (.invokevirtual 105, 3) := by decide +kernel
theorem d_Tide_thing_31 : decode c_Tide_thing 31 = .ok (.ifCond .eq 10, 3) := by decide +kernel
theorem d_Tide_thing_34 : decode c_Tide_thing 34 = .ok (.aload_n 0, 1) := by decide +kernel
theorem d_Tide_thing_35 : decode c_Tide_thing 35 = .ok (.ldc 109, 2) := by decide +kernel
theorem d_Tide_thing_37 : decode c_Tide_thing 37 = .ok (.invokevirtual 69, 3) := by decide +kernel
theorem d_Tide_thing_40 : decode c_Tide_thing 40 = .ok (.ireturn, 1) := by decide +kernel
theorem d_Tide_thing_41 : decode c_Tide_thing 41 = .ok (.aload_n 0, 1) := by decide +kernel
theorem d_Tide_thing_42 : decode c_Tide_thing 42 = .ok (.getfield 16, 3) := by decide +kernel
theorem d_Tide_thing_45 : decode c_Tide_thing 45 = .ok (.iload_n 1, 1) := by decide +kernel
theorem d_Tide_thing_46 : decode c_Tide_thing 46 = .ok (.iload_n 2, 1) := by decide +kernel
theorem d_Tide_thing_47 : decode c_Tide_thing 47 = .ok (.invokevirtual 110, 3) := by decide +kernel
theorem d_Tide_thing_50 : decode c_Tide_thing 50 = .ok (.ireturn, 1) := by decide +kernel
theorem d_Tide_owedNow_0 : decode c_Tide_owedNow 0 = .ok (.aload_n 1, 1) := by decide +kernel
theorem d_Tide_owedNow_1 : decode c_Tide_owedNow 1 = .ok (.getfield 133, 3) := by decide +kernel
theorem d_Tide_owedNow_4 : decode c_Tide_owedNow 4 = .ok (.iconst 2, 1) := by decide +kernel
theorem d_Tide_owedNow_5 : decode c_Tide_owedNow 5 = .ok (.if_icmp .ne 33, 3) := by decide +kernel
theorem d_Tide_owedNow_8 : decode c_Tide_owedNow 8 = .ok (.aload_n 1, 1) := by decide +kernel
theorem d_Tide_owedNow_9 : decode c_Tide_owedNow 9 = .ok (.aload_n 0, 1) := by decide +kernel
theorem d_Tide_owedNow_10 : decode c_Tide_owedNow 10 = .ok (.getfield 16, 3) := by decide +kernel
theorem d_Tide_owedNow_13 : decode c_Tide_owedNow 13 = .ok (.getfield 83, 3) := by decide +kernel
theorem d_Tide_owedNow_16 : decode c_Tide_owedNow 16 = .ok (.aload_n 1, 1) := by decide +kernel
theorem d_Tide_owedNow_17 : decode c_Tide_owedNow 17 = .ok (.getfield 136, 3) := by decide +kernel
theorem d_Tide_owedNow_20 : decode c_Tide_owedNow 20 = .ok (.aload_n 0, 1) := by decide +kernel
theorem d_Tide_owedNow_21 : decode c_Tide_owedNow 21 = .ok (.getfield 16, 3) := by decide +kernel
theorem d_Tide_owedNow_24 : decode c_Tide_owedNow 24 = .ok (.getfield 160, 3) := by decide +kernel
theorem d_Tide_owedNow_27 : decode c_Tide_owedNow 27 = .ok (.aload_n 1, 1) := by decide +kernel
theorem d_Tide_owedNow_28 : decode c_Tide_owedNow 28 = .ok (.getfield 136, 3) := by decide +kernel
theorem d_Tide_owedNow_31 : decode c_Tide_owedNow 31 = .ok (.isub, 1) := by decide +kernel
theorem d_Tide_owedNow_32 : decode c_Tide_owedNow 32 = .ok (.invokestatic 325, 3) := by decide +kernel
theorem d_Tide_owedNow_35 : decode c_Tide_owedNow 35 = .ok (.goto 4, 3) := by decide +kernel
theorem d_Tide_owedNow_38 : decode c_Tide_owedNow 38 = .ok (.iconst 0, 1) := by decide +kernel
theorem d_Tide_owedNow_39 : decode c_Tide_owedNow 39 = .ok (.ireturn, 1) := by decide +kernel
theorem d_Tide_of_0 : decode c_Tide_of 0 = .ok (.aload_n 0, 1) := by decide +kernel
theorem d_Tide_of_1 : decode c_Tide_of 1 = .ok (.getfield 16, 3) := by decide +kernel
theorem d_Tide_of_4 : decode c_Tide_of 4 = .ok (.iload_n 1, 1) := by decide +kernel
theorem d_Tide_of_5 : decode c_Tide_of 5 = .ok (.invokevirtual 114, 3) := by decide +kernel
theorem d_Tide_of_8 : decode c_Tide_of 8 = .ok (.ifCond .ne 10, 3) := by decide +kernel
theorem d_Tide_of_11 : decode c_Tide_of 11 = .ok (.aload_n 0, 1) := by decide +kernel
theorem d_Tide_of_12 : decode c_Tide_of 12 = .ok (.ldc 68, 2) := by decide +kernel
theorem d_Tide_of_14 : decode c_Tide_of 14 = .ok (.invokevirtual 69, 3) := by decide +kernel
theorem d_Tide_of_17 : decode c_Tide_of 17 = .ok (.ireturn, 1) := by decide +kernel
theorem d_Tide_of_18 : decode c_Tide_of 18 = .ok (.aload_n 0, 1) := by decide +kernel
theorem d_Tide_of_19 : decode c_Tide_of 19 = .ok (.getfield 16, 3) := by decide +kernel
theorem d_Tide_of_22 : decode c_Tide_of 22 = .ok (.getfield 117, 3) := by decide +kernel
theorem d_Tide_of_25 : decode c_Tide_of 25 = .ok (.iload_n 1, 1) := by decide +kernel
theorem d_Tide_of_26 : decode c_Tide_of 26 = .ok (.aaload, 1) := by decide +kernel
theorem d_Tide_of_27 : decode c_Tide_of 27 = .ok (.astore_n 3, 1) := by decide +kernel
theorem d_Tide_of_28 : decode c_Tide_of 28 = .ok (.iload_n 2, 1) := by decide +kernel
theorem d_Tide_of_29 : decode c_Tide_of 29 = .ok (.tableswitch 91 0 7 #[47, 52, 57, 62, 67, 72, 77, 85], 47) := by decide +kernel
theorem d_Tide_of_76 : decode c_Tide_of 76 = .ok (.aload_n 3, 1) := by decide +kernel
theorem d_Tide_of_77 : decode c_Tide_of 77 = .ok (.getfield 121, 3) := by decide +kernel
theorem d_Tide_of_80 : decode c_Tide_of 80 = .ok (.ireturn, 1) := by decide +kernel
theorem d_Tide_of_81 : decode c_Tide_of 81 = .ok (.aload_n 3, 1) := by decide +kernel
theorem d_Tide_of_82 : decode c_Tide_of 82 = .ok (.getfield 124, 3) := by decide +kernel
theorem d_Tide_of_85 : decode c_Tide_of 85 = .ok (.ireturn, 1) := by decide +kernel
theorem d_Tide_of_86 : decode c_Tide_of 86 = .ok (.aload_n 3, 1) := by decide +kernel
theorem d_Tide_of_87 : decode c_Tide_of 87 = .ok (.getfield 127, 3) := by decide +kernel
theorem d_Tide_of_90 : decode c_Tide_of 90 = .ok (.ireturn, 1) := by decide +kernel
theorem d_Tide_of_91 : decode c_Tide_of 91 = .ok (.aload_n 3, 1) := by decide +kernel
theorem d_Tide_of_92 : decode c_Tide_of 92 = .ok (.getfield 130, 3) := by decide +kernel
theorem d_Tide_of_95 : decode c_Tide_of 95 = .ok (.ireturn, 1) := by decide +kernel
theorem d_Tide_of_96 : decode c_Tide_of 96 = .ok (.aload_n 3, 1) := by decide +kernel
theorem d_Tide_of_97 : decode c_Tide_of 97 = .ok (.getfield 133, 3) := by decide +kernel
theorem d_Tide_of_100 : decode c_Tide_of 100 = .ok (.ireturn, 1) := by decide +kernel
theorem d_Tide_of_101 : decode c_Tide_of 101 = .ok (.aload_n 3, 1) := by decide +kernel
theorem d_Tide_of_102 : decode c_Tide_of 102 = .ok (.getfield 136, 3) := by decide +kernel
theorem d_Tide_of_105 : decode c_Tide_of 105 = .ok (.ireturn, 1) := by decide +kernel
theorem d_Tide_of_106 : decode c_Tide_of 106 = .ok (.aload_n 3, 1) := by decide +kernel
theorem d_Tide_of_107 : decode c_Tide_of 107 = .ok (.getfield 121, 3) := by decide +kernel
theorem d_Tide_of_110 : decode c_Tide_of 110 = .ok (.invokestatic 139, 3) := by decide +kernel
theorem d_Tide_of_113 : decode c_Tide_of 113 = .ok (.ireturn, 1) := by decide +kernel
theorem d_Tide_of_114 : decode c_Tide_of 114 = .ok (.aload_n 0, 1) := by decide +kernel
theorem d_Tide_of_115 : decode c_Tide_of 115 = .ok (.aload_n 3, 1) := by decide +kernel
theorem d_Tide_of_116 : decode c_Tide_of 116 = .ok (.invokevirtual 142, 3) := by decide +kernel
theorem d_Tide_of_119 : decode c_Tide_of 119 = .ok (.ireturn, 1) := by decide +kernel
theorem d_Tide_of_120 : decode c_Tide_of 120 = .ok (.aload_n 0, 1) := by decide +kernel
theorem d_Tide_of_121 : decode c_Tide_of 121 = .ok (.ldc 68, 2) := by decide +kernel
theorem d_Tide_of_123 : decode c_Tide_of 123 = .ok (.invokevirtual 69, 3) := by decide +kernel
theorem d_Tide_of_126 : decode c_Tide_of 126 = .ok (.ireturn, 1) := by decide +kernel
theorem d_Tide_set_0 : decode c_Tide_set 0 = .ok (.aload_n 0, 1) := by decide +kernel
theorem d_Tide_set_1 : decode c_Tide_set 1 = .ok (.getfield 16, 3) := by decide +kernel
theorem d_Tide_set_4 : decode c_Tide_set 4 = .ok (.iload_n 1, 1) := by decide +kernel
theorem d_Tide_set_5 : decode c_Tide_set 5 = .ok (.invokevirtual 114, 3) := by decide +kernel
theorem d_Tide_set_8 : decode c_Tide_set 8 = .ok (.ifCond .ne 10, 3) := by decide +kernel
theorem d_Tide_set_11 : decode c_Tide_set 11 = .ok (.aload_n 0, 1) := by decide +kernel
theorem d_Tide_set_12 : decode c_Tide_set 12 = .ok (.ldc 68, 2) := by decide +kernel
theorem d_Tide_set_14 : decode c_Tide_set 14 = .ok (.invokevirtual 69, 3) := by decide +kernel
theorem d_Tide_set_17 : decode c_Tide_set 17 = .ok (.ireturn, 1) := by decide +kernel
theorem d_Tide_set_18 : decode c_Tide_set 18 = .ok (.aload_n 0, 1) := by decide +kernel
theorem d_Tide_set_19 : decode c_Tide_set 19 = .ok (.getfield 16, 3) := by decide +kernel
theorem d_Tide_set_22 : decode c_Tide_set 22 = .ok (.getfield 117, 3) := by decide +kernel
theorem d_Tide_set_25 : decode c_Tide_set 25 = .ok (.iload_n 1, 1) := by decide +kernel
theorem d_Tide_set_26 : decode c_Tide_set 26 = .ok (.aaload, 1) := by decide +kernel
theorem d_Tide_set_27 : decode c_Tide_set 27 = .ok (.astore 4, 2) := by decide +kernel
theorem d_Tide_set_29 : decode c_Tide_set 29 = .ok (.iload_n 2, 1) := by decide +kernel
theorem d_Tide_set_30 : decode c_Tide_set 30 = .ok (.iconst 1, 1) := by decide +kernel
theorem d_Tide_set_31 : decode c_Tide_set 31 = .ok (.if_icmp .ne 27, 3) := by decide +kernel
theorem d_Tide_set_34 : decode c_Tide_set 34 = .ok (.iload_n 3, 1) := by decide +kernel
theorem d_Tide_set_35 : decode c_Tide_set 35 = .ok (.iconst 4, 1) := by decide +kernel
theorem d_Tide_set_36 : decode c_Tide_set 36 = .ok (.invokestatic 64, 3) := by decide +kernel
theorem d_Tide_set_39 : decode c_Tide_set 39 = .ok (.ifCond .eq 19, 3) := by decide +kernel
theorem d_Tide_set_42 : decode c_Tide_set 42 = .ok (.aload 4, 2) := by decide +kernel
theorem d_Tide_set_44 : decode c_Tide_set 44 = .ok (.getfield 124, 3) := by decide +kernel
theorem d_Tide_set_47 : decode c_Tide_set 47 = .ok (.istore 5, 2) := by decide +kernel
theorem d_Tide_set_49 : decode c_Tide_set 49 = .ok (.aload 4, 2) := by decide +kernel
theorem d_Tide_set_51 : decode c_Tide_set 51 = .ok (.iload_n 3, 1) := by decide +kernel
theorem d_Tide_set_52 : decode c_Tide_set 52 = .ok (.putfield 124, 3) := by decide +kernel
theorem d_Tide_set_55 : decode c_Tide_set 55 = .ok (.goto 43, 3) := by decide +kernel
theorem d_Tide_set_58 : decode c_Tide_set 58 = .ok (.iload_n 2, 1) := by decide +kernel
theorem d_Tide_set_59 : decode c_Tide_set 59 = .ok (.iconst 3, 1) := by decide +kernel
theorem d_Tide_set_60 : decode c_Tide_set 60 = .ok (.if_icmp .ne 30, 3) := by decide +kernel
theorem d_Tide_set_63 : decode c_Tide_set 63 = .ok (.iload_n 3, 1) := by decide +kernel
theorem d_Tide_set_64 : decode c_Tide_set 64 = .ok (.iconst 0, 1) := by decide +kernel
theorem d_Tide_set_65 : decode c_Tide_set 65 = .ok (.sipush 9999, 3) := by decide +kernel
theorem d_Tide_set_68 : decode c_Tide_set 68 = .ok (.invokestatic 79, 3) := by decide +kernel
theorem d_Tide_set_71 : decode c_Tide_set 71 = .ok (.ifCond .eq 19, 3) := by decide +kernel
theorem d_Tide_set_74 : decode c_Tide_set 74 = .ok (.aload 4, 2) := by decide +kernel
theorem d_Tide_set_76 : decode c_Tide_set 76 = .ok (.getfield 130, 3) := by decide +kernel
theorem d_Tide_set_79 : decode c_Tide_set 79 = .ok (.istore 5, 2) := by decide +kernel
theorem d_Tide_set_81 : decode c_Tide_set 81 = .ok (.aload 4, 2) := by decide +kernel
theorem d_Tide_set_83 : decode c_Tide_set 83 = .ok (.iload_n 3, 1) := by decide +kernel
theorem d_Tide_set_84 : decode c_Tide_set 84 = .ok (.putfield 130, 3) := by decide +kernel
theorem d_Tide_set_87 : decode c_Tide_set 87 = .ok (.goto 11, 3) := by decide +kernel
theorem d_Tide_set_90 : decode c_Tide_set 90 = .ok (.aload_n 0, 1) := by decide +kernel
theorem d_Tide_set_91 : decode c_Tide_set 91 = .ok (.ldc 68, 2) := by decide +kernel
theorem d_Tide_set_93 : decode c_Tide_set 93 = .ok (.invokevirtual 69, 3) := by decide +kernel
theorem d_Tide_set_96 : decode c_Tide_set 96 = .ok (.istore 5, 2) := by decide +kernel
theorem d_Tide_set_98 : decode c_Tide_set 98 = .ok (.iload 5, 2) := by decide +kernel
theorem d_Tide_set_100 : decode c_Tide_set 100 = .ok (.ireturn, 1) := by decide +kernel
theorem d_Tide_turn_0 : decode c_Tide_turn 0 = .ok (.aload_n 0, 1) := by decide +kernel
theorem d_Tide_turn_1 : decode c_Tide_turn 1 = .ok (.getfield 16, 3) := by decide +kernel
theorem d_Tide_turn_4 : decode c_Tide_turn 4 = .ok (.iload_n 1, 1) := by decide +kernel
theorem d_Tide_turn_5 : decode c_Tide_turn 5 = .ok (.invokevirtual 114, 3) := by decide +kernel
theorem d_Tide_turn_8 : decode c_Tide_turn 8 = .ok (.ifCond .eq 12, 3) := by decide +kernel
theorem d_Tide_turn_11 : decode c_Tide_turn 11 = .ok (.iload_n 2, 1) := by decide +kernel
theorem d_Tide_turn_12 : decode c_Tide_turn 12 = .ok (.bipush 6, 2) := by decide +kernel
theorem d_Tide_turn_14 : decode c_Tide_turn 14 = .ok (.invokestatic 64, 3) := by decide +kernel
theorem d_Tide_turn_17 : decode c_Tide_turn 17 = .ok (.ifCond .ne 10, 3) := by decide +kernel
theorem d_Tide_turn_20 : decode c_Tide_turn 20 = .ok (.aload_n 0, 1) := by decide +kernel
theorem d_Tide_turn_21 : decode c_Tide_turn 21 = .ok (.ldc 68, 2) := by decide +kernel
theorem d_Tide_turn_23 : decode c_Tide_turn 23 = .ok (.invokevirtual 69, 3) := by decide +kernel
theorem d_Tide_turn_26 : decode c_Tide_turn 26 = .ok (.ireturn, 1) := by decide +kernel
theorem d_Tide_turn_27 : decode c_Tide_turn 27 = .ok (.aload_n 0, 1) := by decide +kernel
theorem d_Tide_turn_28 : decode c_Tide_turn 28 = .ok (.getfield 16, 3) := by decide +kernel
theorem d_Tide_turn_31 : decode c_Tide_turn 31 = .ok (.getfield 117, 3) := by decide +kernel
theorem d_Tide_turn_34 : decode c_Tide_turn 34 = .ok (.iload_n 1, 1) := by decide +kernel
theorem d_Tide_turn_35 : decode c_Tide_turn 35 = .ok (.aaload, 1) := by decide +kernel
theorem d_Tide_turn_36 : decode c_Tide_turn 36 = .ok (.astore_n 3, 1) := by decide +kernel
theorem d_Tide_turn_37 : decode c_Tide_turn 37 = .ok (.aload_n 3, 1) := by decide +kernel
theorem d_Tide_turn_38 : decode c_Tide_turn 38 = .ok (.getfield 121, 3) := by decide +kernel
theorem d_Tide_turn_41 : decode c_Tide_turn 41 = .ok (.istore 4, 2) := by decide +kernel
theorem d_Tide_turn_43 : decode c_Tide_turn 43 = .ok (.aload_n 3, 1) := by decide +kernel
theorem d_Tide_turn_44 : decode c_Tide_turn 44 = .ok (.iload_n 2, 1) := by decide +kernel
theorem d_Tide_turn_45 : decode c_Tide_turn 45 = .ok (.putfield 121, 3) := by decide +kernel
theorem d_Tide_turn_48 : decode c_Tide_turn 48 = .ok (.iload 4, 2) := by decide +kernel
theorem d_Tide_turn_50 : decode c_Tide_turn 50 = .ok (.ireturn, 1) := by decide +kernel
theorem d_Tide_kindAbove_0 : decode c_Tide_kindAbove 0 = .ok (.iload_n 0, 1) := by decide +kernel
theorem d_Tide_kindAbove_1 : decode c_Tide_kindAbove 1 = .ok (.lookupswitch 41 #[(0, 35), (4, 37), (5, 39)], 35) := by decide +kernel
theorem d_Tide_kindAbove_36 : decode c_Tide_kindAbove 36 = .ok (.iconst (-1), 1) := by decide +kernel
theorem d_Tide_kindAbove_37 : decode c_Tide_kindAbove 37 = .ok (.ireturn, 1) := by decide +kernel
theorem d_Tide_kindAbove_38 : decode c_Tide_kindAbove 38 = .ok (.iconst 1, 1) := by decide +kernel
theorem d_Tide_kindAbove_39 : decode c_Tide_kindAbove 39 = .ok (.ireturn, 1) := by decide +kernel
theorem d_Tide_kindAbove_40 : decode c_Tide_kindAbove 40 = .ok (.iconst 2, 1) := by decide +kernel
theorem d_Tide_kindAbove_41 : decode c_Tide_kindAbove 41 = .ok (.ireturn, 1) := by decide +kernel
theorem d_Tide_kindAbove_42 : decode c_Tide_kindAbove 42 = .ok (.iconst 0, 1) := by decide +kernel
theorem d_Tide_kindAbove_43 : decode c_Tide_kindAbove 43 = .ok (.ireturn, 1) := by decide +kernel
theorem d_Tide_isUnder_0 : decode c_Tide_isUnder 0 = .ok (.iload_n 0, 1) := by decide +kernel
theorem d_Tide_isUnder_1 : decode c_Tide_isUnder 1 = .ok (.istore_n 2, 1) := by decide +kernel
theorem d_Tide_isUnder_2 : decode c_Tide_isUnder 2 = .ok (.iconst 0, 1) := by decide +kernel
theorem d_Tide_isUnder_3 : decode c_Tide_isUnder 3 = .ok (.istore_n 3, 1) := by decide +kernel
theorem d_Tide_isUnder_4 : decode c_Tide_isUnder 4 = .ok (.iload_n 3, 1) := by decide +kernel
theorem d_Tide_isUnder_5 : decode c_Tide_isUnder 5 = .ok (.bipush 6, 2) := by decide +kernel
theorem d_Tide_isUnder_7 : decode c_Tide_isUnder 7 = .ok (.if_icmp .ge 24, 3) := by decide +kernel
theorem d_Tide_isUnder_10 : decode c_Tide_isUnder 10 = .ok (.iload_n 2, 1) := by decide +kernel
theorem d_Tide_isUnder_11 : decode c_Tide_isUnder 11 = .ok (.iload_n 1, 1) := by decide +kernel
theorem d_Tide_isUnder_12 : decode c_Tide_isUnder 12 = .ok (.if_icmp .eq 19, 3) := by decide +kernel
theorem d_Tide_isUnder_15 : decode c_Tide_isUnder 15 = .ok (.iload_n 2, 1) := by decide +kernel
theorem d_Tide_isUnder_16 : decode c_Tide_isUnder 16 = .ok (.iconst (-1), 1) := by decide +kernel
theorem d_Tide_isUnder_17 : decode c_Tide_isUnder 17 = .ok (.if_icmp .eq 14, 3) := by decide +kernel
theorem d_Tide_isUnder_20 : decode c_Tide_isUnder 20 = .ok (.iload_n 2, 1) := by decide +kernel
theorem d_Tide_isUnder_21 : decode c_Tide_isUnder 21 = .ok (.invokestatic 299, 3) := by decide +kernel
theorem d_Tide_isUnder_24 : decode c_Tide_isUnder 24 = .ok (.istore_n 2, 1) := by decide +kernel
theorem d_Tide_isUnder_25 : decode c_Tide_isUnder 25 = .ok (.iinc 3 1, 3) := by decide +kernel
theorem d_Tide_isUnder_28 : decode c_Tide_isUnder 28 = .ok (.goto (-24), 3) := by decide +kernel
theorem d_Tide_isUnder_31 : decode c_Tide_isUnder 31 = .ok (.iload_n 2, 1) := by decide +kernel
theorem d_Tide_isUnder_32 : decode c_Tide_isUnder 32 = .ok (.iload_n 1, 1) := by decide +kernel
theorem d_Tide_isUnder_33 : decode c_Tide_isUnder 33 = .ok (.if_icmp .ne 7, 3) := by decide +kernel
theorem d_Tide_isUnder_36 : decode c_Tide_isUnder 36 = .ok (.iconst 1, 1) := by decide +kernel
theorem d_Tide_isUnder_37 : decode c_Tide_isUnder 37 = .ok (.goto 4, 3) := by decide +kernel
theorem d_Tide_isUnder_40 : decode c_Tide_isUnder 40 = .ok (.iconst 0, 1) := by decide +kernel
theorem d_Tide_isUnder_41 : decode c_Tide_isUnder 41 = .ok (.ireturn, 1) := by decide +kernel
theorem d_Tide_as_0 : decode c_Tide_as 0 = .ok (.aload_n 0, 1) := by decide +kernel
theorem d_Tide_as_1 : decode c_Tide_as 1 = .ok (.getfield 16, 3) := by decide +kernel
theorem d_Tide_as_4 : decode c_Tide_as 4 = .ok (.iload_n 1, 1) := by decide +kernel
theorem d_Tide_as_5 : decode c_Tide_as 5 = .ok (.invokevirtual 114, 3) := by decide +kernel
theorem d_Tide_as_8 : decode c_Tide_as 8 = .ok (.ifCond .eq 12, 3) := by decide +kernel
theorem d_Tide_as_11 : decode c_Tide_as 11 = .ok (.iload_n 2, 1) := by decide +kernel
theorem d_Tide_as_12 : decode c_Tide_as 12 = .ok (.bipush 6, 2) := by decide +kernel
theorem d_Tide_as_14 : decode c_Tide_as 14 = .ok (.invokestatic 64, 3) := by decide +kernel
theorem d_Tide_as_17 : decode c_Tide_as 17 = .ok (.ifCond .ne 10, 3) := by decide +kernel
theorem d_Tide_as_20 : decode c_Tide_as 20 = .ok (.aload_n 0, 1) := by decide +kernel
theorem d_Tide_as_21 : decode c_Tide_as 21 = .ok (.ldc 68, 2) := by decide +kernel
theorem d_Tide_as_23 : decode c_Tide_as 23 = .ok (.invokevirtual 69, 3) := by decide +kernel
theorem d_Tide_as_26 : decode c_Tide_as 26 = .ok (.ireturn, 1) := by decide +kernel
theorem d_Tide_as_27 : decode c_Tide_as 27 = .ok (.aload_n 0, 1) := by decide +kernel
theorem d_Tide_as_28 : decode c_Tide_as 28 = .ok (.getfield 16, 3) := by decide +kernel
theorem d_Tide_as_31 : decode c_Tide_as 31 = .ok (.getfield 117, 3) := by decide +kernel
theorem d_Tide_as_34 : decode c_Tide_as 34 = .ok (.iload_n 1, 1) := by decide +kernel
theorem d_Tide_as_35 : decode c_Tide_as 35 = .ok (.aaload, 1) := by decide +kernel
theorem d_Tide_as_36 : decode c_Tide_as 36 = .ok (.astore_n 3, 1) := by decide +kernel
theorem d_Tide_as_37 : decode c_Tide_as 37 = .ok (.aload_n 3, 1) := by decide +kernel
theorem d_Tide_as_38 : decode c_Tide_as 38 = .ok (.getfield 121, 3) := by decide +kernel
theorem d_Tide_as_41 : decode c_Tide_as 41 = .ok (.iload_n 2, 1) := by decide +kernel
theorem d_Tide_as_42 : decode c_Tide_as 42 = .ok (.invokestatic 146, 3) := by decide +kernel
theorem d_Tide_as_45 : decode c_Tide_as 45 = .ok (.ifCond .ne 10, 3) := by decide +kernel
theorem d_Tide_as_48 : decode c_Tide_as 48 = .ok (.aload_n 0, 1) := by decide +kernel
theorem d_Tide_as_49 : decode c_Tide_as 49 = .ok (.ldc 149, 2) := by decide +kernel
theorem d_Tide_as_51 : decode c_Tide_as 51 = .ok (.invokevirtual 69, 3) := by decide +kernel
theorem d_Tide_as_54 : decode c_Tide_as 54 = .ok (.ireturn, 1) := by decide +kernel
theorem d_Tide_as_55 : decode c_Tide_as 55 = .ok (.aload_n 3, 1) := by decide +kernel
theorem d_Tide_as_56 : decode c_Tide_as 56 = .ok (.getfield 130, 3) := by decide +kernel
theorem d_Tide_as_59 : decode c_Tide_as 59 = .ok (.ireturn, 1) := by decide +kernel
theorem d_Integer_bitCount_0 : decode c_Integer_bitCount 0 = .ok (.iload_n 0, 1) := by decide +kernel
theorem d_Integer_bitCount_1 : decode c_Integer_bitCount 1 = .ok (.iload_n 0, 1) := by decide +kernel
theorem d_Integer_bitCount_2 : decode c_Integer_bitCount 2 = .ok (.iconst 1, 1) := by decide +kernel
theorem d_Integer_bitCount_3 : decode c_Integer_bitCount 3 = .ok (.iushr, 1) := by decide +kernel
theorem d_Integer_bitCount_4 : decode c_Integer_bitCount 4 = .ok (.ldc_w 265, 3) := by decide +kernel
theorem d_Integer_bitCount_7 : decode c_Integer_bitCount 7 = .ok (.iand, 1) := by decide +kernel
theorem d_Integer_bitCount_8 : decode c_Integer_bitCount 8 = .ok (.isub, 1) := by decide +kernel
theorem d_Integer_bitCount_9 : decode c_Integer_bitCount 9 = .ok (.istore_n 0, 1) := by decide +kernel
theorem d_Integer_bitCount_10 : decode c_Integer_bitCount 10 = .ok (.iload_n 0, 1) := by decide +kernel
theorem d_Integer_bitCount_11 : decode c_Integer_bitCount 11 = .ok (.ldc_w 266, 3) := by decide +kernel
theorem d_Integer_bitCount_14 : decode c_Integer_bitCount 14 = .ok (.iand, 1) := by decide +kernel
theorem d_Integer_bitCount_15 : decode c_Integer_bitCount 15 = .ok (.iload_n 0, 1) := by decide +kernel
theorem d_Integer_bitCount_16 : decode c_Integer_bitCount 16 = .ok (.iconst 2, 1) := by decide +kernel
theorem d_Integer_bitCount_17 : decode c_Integer_bitCount 17 = .ok (.iushr, 1) := by decide +kernel
theorem d_Integer_bitCount_18 : decode c_Integer_bitCount 18 = .ok (.ldc_w 266, 3) := by decide +kernel
theorem d_Integer_bitCount_21 : decode c_Integer_bitCount 21 = .ok (.iand, 1) := by decide +kernel
theorem d_Integer_bitCount_22 : decode c_Integer_bitCount 22 = .ok (.iadd, 1) := by decide +kernel
theorem d_Integer_bitCount_23 : decode c_Integer_bitCount 23 = .ok (.istore_n 0, 1) := by decide +kernel
theorem d_Integer_bitCount_24 : decode c_Integer_bitCount 24 = .ok (.iload_n 0, 1) := by decide +kernel
theorem d_Integer_bitCount_25 : decode c_Integer_bitCount 25 = .ok (.iload_n 0, 1) := by decide +kernel
theorem d_Integer_bitCount_26 : decode c_Integer_bitCount 26 = .ok (.iconst 4, 1) := by decide +kernel
theorem d_Integer_bitCount_27 : decode c_Integer_bitCount 27 = .ok (.iushr, 1) := by decide +kernel
theorem d_Integer_bitCount_28 : decode c_Integer_bitCount 28 = .ok (.iadd, 1) := by decide +kernel
theorem d_Integer_bitCount_29 : decode c_Integer_bitCount 29 = .ok (.ldc_w 267, 3) := by decide +kernel
theorem d_Integer_bitCount_32 : decode c_Integer_bitCount 32 = .ok (.iand, 1) := by decide +kernel
theorem d_Integer_bitCount_33 : decode c_Integer_bitCount 33 = .ok (.istore_n 0, 1) := by decide +kernel
theorem d_Integer_bitCount_34 : decode c_Integer_bitCount 34 = .ok (.iload_n 0, 1) := by decide +kernel
theorem d_Integer_bitCount_35 : decode c_Integer_bitCount 35 = .ok (.iload_n 0, 1) := by decide +kernel
theorem d_Integer_bitCount_36 : decode c_Integer_bitCount 36 = .ok (.bipush 8, 2) := by decide +kernel
theorem d_Integer_bitCount_38 : decode c_Integer_bitCount 38 = .ok (.iushr, 1) := by decide +kernel
theorem d_Integer_bitCount_39 : decode c_Integer_bitCount 39 = .ok (.iadd, 1) := by decide +kernel
theorem d_Integer_bitCount_40 : decode c_Integer_bitCount 40 = .ok (.istore_n 0, 1) := by decide +kernel
theorem d_Integer_bitCount_41 : decode c_Integer_bitCount 41 = .ok (.iload_n 0, 1) := by decide +kernel
theorem d_Integer_bitCount_42 : decode c_Integer_bitCount 42 = .ok (.iload_n 0, 1) := by decide +kernel
theorem d_Integer_bitCount_43 : decode c_Integer_bitCount 43 = .ok (.bipush 16, 2) := by decide +kernel
theorem d_Integer_bitCount_45 : decode c_Integer_bitCount 45 = .ok (.iushr, 1) := by decide +kernel
theorem d_Integer_bitCount_46 : decode c_Integer_bitCount 46 = .ok (.iadd, 1) := by decide +kernel
theorem d_Integer_bitCount_47 : decode c_Integer_bitCount 47 = .ok (.istore_n 0, 1) := by decide +kernel
theorem d_Integer_bitCount_48 : decode c_Integer_bitCount 48 = .ok (.iload_n 0, 1) := by decide +kernel
theorem d_Integer_bitCount_49 : decode c_Integer_bitCount 49 = .ok (.bipush 63, 2) := by decide +kernel
theorem d_Integer_bitCount_51 : decode c_Integer_bitCount 51 = .ok (.iand, 1) := by decide +kernel
theorem d_Integer_bitCount_52 : decode c_Integer_bitCount 52 = .ok (.ireturn, 1) := by decide +kernel
theorem d_Tide_lay_0 : decode c_Tide_lay 0 = .ok (.aload_n 0, 1) := by decide +kernel
theorem d_Tide_lay_1 : decode c_Tide_lay 1 = .ok (.getfield 16, 3) := by decide +kernel
theorem d_Tide_lay_4 : decode c_Tide_lay 4 = .ok (.iload_n 1, 1) := by decide +kernel
theorem d_Tide_lay_5 : decode c_Tide_lay 5 = .ok (.invokevirtual 114, 3) := by decide +kernel
theorem d_Tide_lay_8 : decode c_Tide_lay 8 = .ok (.ifCond .eq 12, 3) := by decide +kernel
theorem d_Tide_lay_11 : decode c_Tide_lay 11 = .ok (.iload_n 2, 1) := by decide +kernel
theorem d_Tide_lay_12 : decode c_Tide_lay 12 = .ok (.bipush 16, 2) := by decide +kernel
theorem d_Tide_lay_14 : decode c_Tide_lay 14 = .ok (.invokestatic 64, 3) := by decide +kernel
theorem d_Tide_lay_17 : decode c_Tide_lay 17 = .ok (.ifCond .ne 10, 3) := by decide +kernel
theorem d_Tide_lay_20 : decode c_Tide_lay 20 = .ok (.aload_n 0, 1) := by decide +kernel
theorem d_Tide_lay_21 : decode c_Tide_lay 21 = .ok (.ldc 68, 2) := by decide +kernel
theorem d_Tide_lay_23 : decode c_Tide_lay 23 = .ok (.invokevirtual 69, 3) := by decide +kernel
theorem d_Tide_lay_26 : decode c_Tide_lay 26 = .ok (.ireturn, 1) := by decide +kernel
theorem d_Tide_lay_27 : decode c_Tide_lay 27 = .ok (.aload_n 0, 1) := by decide +kernel
theorem d_Tide_lay_28 : decode c_Tide_lay 28 = .ok (.getfield 16, 3) := by decide +kernel
theorem d_Tide_lay_31 : decode c_Tide_lay 31 = .ok (.getfield 117, 3) := by decide +kernel
theorem d_Tide_lay_34 : decode c_Tide_lay 34 = .ok (.iload_n 1, 1) := by decide +kernel
theorem d_Tide_lay_35 : decode c_Tide_lay 35 = .ok (.aaload, 1) := by decide +kernel
theorem d_Tide_lay_36 : decode c_Tide_lay 36 = .ok (.astore_n 3, 1) := by decide +kernel
theorem d_Tide_lay_37 : decode c_Tide_lay 37 = .ok (.aload_n 3, 1) := by decide +kernel
theorem d_Tide_lay_38 : decode c_Tide_lay 38 = .ok (.getfield 133, 3) := by decide +kernel
theorem d_Tide_lay_41 : decode c_Tide_lay 41 = .ok (.iconst 2, 1) := by decide +kernel
theorem d_Tide_lay_42 : decode c_Tide_lay 42 = .ok (.if_icmp .ne 10, 3) := by decide +kernel
theorem d_Tide_lay_45 : decode c_Tide_lay 45 = .ok (.aload_n 0, 1) := by decide +kernel
theorem d_Tide_lay_46 : decode c_Tide_lay 46 = .ok (.ldc 150, 2) := by decide +kernel
theorem d_Tide_lay_48 : decode c_Tide_lay 48 = .ok (.invokevirtual 69, 3) := by decide +kernel
theorem d_Tide_lay_51 : decode c_Tide_lay 51 = .ok (.ireturn, 1) := by decide +kernel
theorem d_Tide_lay_52 : decode c_Tide_lay 52 = .ok (.aload_n 3, 1) := by decide +kernel
theorem d_Tide_lay_53 : decode c_Tide_lay 53 = .ok (.iload_n 2, 1) := by decide +kernel
theorem d_Tide_lay_54 : decode c_Tide_lay 54 = .ok (.invokevirtual 151, 3) := by decide +kernel
theorem d_Tide_lay_57 : decode c_Tide_lay 57 = .ok (.aload_n 0, 1) := by decide +kernel
theorem d_Tide_lay_58 : decode c_Tide_lay 58 = .ok (.getfield 16, 3) := by decide +kernel
theorem d_Tide_lay_61 : decode c_Tide_lay 61 = .ok (.iload_n 2, 1) := by decide +kernel
theorem d_Tide_lay_62 : decode c_Tide_lay 62 = .ok (.invokevirtual 76, 3) := by decide +kernel
theorem d_Tide_lay_65 : decode c_Tide_lay 65 = .ok (.invokestatic 155, 3) := by decide +kernel
theorem d_Tide_lay_68 : decode c_Tide_lay 68 = .ok (.ireturn, 1) := by decide +kernel
theorem d_Tide_fetch_0 : decode c_Tide_fetch 0 = .ok (.aload_n 0, 1) := by decide +kernel
theorem d_Tide_fetch_1 : decode c_Tide_fetch 1 = .ok (.getfield 16, 3) := by decide +kernel
theorem d_Tide_fetch_4 : decode c_Tide_fetch 4 = .ok (.iload_n 1, 1) := by decide +kernel
theorem d_Tide_fetch_5 : decode c_Tide_fetch 5 = .ok (.invokevirtual 114, 3) := by decide +kernel
theorem d_Tide_fetch_8 : decode c_Tide_fetch 8 = .ok (.ifCond .ne 10, 3) := by decide +kernel
theorem d_Tide_fetch_11 : decode c_Tide_fetch 11 = .ok (.aload_n 0, 1) := by decide +kernel
theorem d_Tide_fetch_12 : decode c_Tide_fetch 12 = .ok (.ldc 68, 2) := by decide +kernel
theorem d_Tide_fetch_14 : decode c_Tide_fetch 14 = .ok (.invokevirtual 69, 3) := by decide +kernel
theorem d_Tide_fetch_17 : decode c_Tide_fetch 17 = .ok (.ireturn, 1) := by decide +kernel
theorem d_Tide_fetch_18 : decode c_Tide_fetch 18 = .ok (.aload_n 0, 1) := by decide +kernel
theorem d_Tide_fetch_19 : decode c_Tide_fetch 19 = .ok (.getfield 16, 3) := by decide +kernel
theorem d_Tide_fetch_22 : decode c_Tide_fetch 22 = .ok (.getfield 117, 3) := by decide +kernel
theorem d_Tide_fetch_25 : decode c_Tide_fetch 25 = .ok (.iload_n 1, 1) := by decide +kernel
theorem d_Tide_fetch_26 : decode c_Tide_fetch 26 = .ok (.aaload, 1) := by decide +kernel
theorem d_Tide_fetch_27 : decode c_Tide_fetch 27 = .ok (.astore_n 2, 1) := by decide +kernel
theorem d_Tide_fetch_28 : decode c_Tide_fetch 28 = .ok (.aload_n 2, 1) := by decide +kernel
theorem d_Tide_fetch_29 : decode c_Tide_fetch 29 = .ok (.getfield 133, 3) := by decide +kernel
theorem d_Tide_fetch_32 : decode c_Tide_fetch 32 = .ok (.iconst 1, 1) := by decide +kernel
theorem d_Tide_fetch_33 : decode c_Tide_fetch 33 = .ok (.if_icmp .eq 10, 3) := by decide +kernel
theorem d_Tide_fetch_36 : decode c_Tide_fetch 36 = .ok (.aload_n 0, 1) := by decide +kernel
theorem d_Tide_fetch_37 : decode c_Tide_fetch 37 = .ok (.ldc 150, 2) := by decide +kernel
theorem d_Tide_fetch_39 : decode c_Tide_fetch 39 = .ok (.invokevirtual 69, 3) := by decide +kernel
theorem d_Tide_fetch_42 : decode c_Tide_fetch 42 = .ok (.ireturn, 1) := by decide +kernel
theorem d_Tide_fetch_43 : decode c_Tide_fetch 43 = .ok (.aload_n 2, 1) := by decide +kernel
theorem d_Tide_fetch_44 : decode c_Tide_fetch 44 = .ok (.iconst 0, 1) := by decide +kernel
theorem d_Tide_fetch_45 : decode c_Tide_fetch 45 = .ok (.putfield 133, 3) := by decide +kernel
theorem d_Tide_fetch_48 : decode c_Tide_fetch 48 = .ok (.aload_n 2, 1) := by decide +kernel
theorem d_Tide_fetch_49 : decode c_Tide_fetch 49 = .ok (.getfield 127, 3) := by decide +kernel
theorem d_Tide_fetch_52 : decode c_Tide_fetch 52 = .ok (.ireturn, 1) := by decide +kernel
theorem d_Tide_follow_0 : decode c_Tide_follow 0 = .ok (.aload_n 0, 1) := by decide +kernel
theorem d_Tide_follow_1 : decode c_Tide_follow 1 = .ok (.getfield 16, 3) := by decide +kernel
theorem d_Tide_follow_4 : decode c_Tide_follow 4 = .ok (.getfield 117, 3) := by decide +kernel
theorem d_Tide_follow_7 : decode c_Tide_follow 7 = .ok (.iload_n 1, 1) := by decide +kernel
theorem d_Tide_follow_8 : decode c_Tide_follow 8 = .ok (.aaload, 1) := by decide +kernel
theorem d_Tide_follow_9 : decode c_Tide_follow 9 = .ok (.astore_n 3, 1) := by decide +kernel
theorem d_Tide_follow_10 : decode c_Tide_follow 10 = .ok (.aload_n 0, 1) := by decide +kernel
theorem d_Tide_follow_11 : decode c_Tide_follow 11 = .ok (.getfield 41, 3) := by decide +kernel
theorem d_Tide_follow_14 : decode c_Tide_follow 14 = .ok (.iload_n 1, 1) := by decide +kernel
theorem d_Tide_follow_15 : decode c_Tide_follow 15 = .ok (.aaload, 1) := by decide +kernel
theorem d_Tide_follow_16 : decode c_Tide_follow 16 = .ok (.aload_n 3, 1) := by decide +kernel
theorem d_Tide_follow_17 : decode c_Tide_follow 17 = .ok (.aload_n 0, 1) := by decide +kernel
theorem d_Tide_follow_18 : decode c_Tide_follow 18 = .ok (.getfield 16, 3) := by decide +kernel
theorem d_Tide_follow_21 : decode c_Tide_follow 21 = .ok (.getfield 73, 3) := by decide +kernel
theorem d_Tide_follow_24 : decode c_Tide_follow 24 = .ok (.aload_n 3, 1) := by decide +kernel
theorem d_Tide_follow_25 : decode c_Tide_follow 25 = .ok (.getfield 127, 3) := by decide +kernel
theorem d_Tide_follow_28 : decode c_Tide_follow 28 = .ok (.iaload, 1) := by decide +kernel
theorem d_Tide_follow_29 : decode c_Tide_follow 29 = .ok (.aload_n 0, 1) := by decide +kernel
theorem d_Tide_follow_30 : decode c_Tide_follow 30 = .ok (.getfield 16, 3) := by decide +kernel
theorem d_Tide_follow_33 : decode c_Tide_follow 33 = .ok (.getfield 160, 3) := by decide +kernel
theorem d_Tide_follow_36 : decode c_Tide_follow 36 = .ok (.iload_n 2, 1) := by decide +kernel
theorem d_Tide_follow_37 : decode c_Tide_follow 37 = .ok (.invokevirtual 331, 3) := by decide +kernel
theorem d_Tide_follow_40 : decode c_Tide_follow 40 = .ok (.return_, 1) := by decide +kernel
theorem d_Tide_followAll_0 : decode c_Tide_followAll 0 = .ok (.iconst 0, 1) := by decide +kernel
theorem d_Tide_followAll_1 : decode c_Tide_followAll 1 = .ok (.istore_n 2, 1) := by decide +kernel
theorem d_Tide_followAll_2 : decode c_Tide_followAll 2 = .ok (.iload_n 2, 1) := by decide +kernel
theorem d_Tide_followAll_3 : decode c_Tide_followAll 3 = .ok (.aload_n 0, 1) := by decide +kernel
theorem d_Tide_followAll_4 : decode c_Tide_followAll 4 = .ok (.getfield 16, 3) := by decide +kernel
theorem d_Tide_followAll_7 : decode c_Tide_followAll 7 = .ok (.getfield 166, 3) := by decide +kernel
theorem d_Tide_followAll_10 : decode c_Tide_followAll 10 = .ok (.if_icmp .ge 15, 3) := by decide +kernel
theorem d_Tide_followAll_13 : decode c_Tide_followAll 13 = .ok (.aload_n 0, 1) := by decide +kernel
theorem d_Tide_followAll_14 : decode c_Tide_followAll 14 = .ok (.iload_n 2, 1) := by decide +kernel
theorem d_Tide_followAll_15 : decode c_Tide_followAll 15 = .ok (.iload_n 1, 1) := by decide +kernel
theorem d_Tide_followAll_16 : decode c_Tide_followAll 16 = .ok (.invokevirtual 191, 3) := by decide +kernel
theorem d_Tide_followAll_19 : decode c_Tide_followAll 19 = .ok (.iinc 2 1, 3) := by decide +kernel
theorem d_Tide_followAll_22 : decode c_Tide_followAll 22 = .ok (.goto (-20), 3) := by decide +kernel
theorem d_Tide_followAll_25 : decode c_Tide_followAll 25 = .ok (.return_, 1) := by decide +kernel
theorem d_Tide_filled_0 : decode c_Tide_filled 0 = .ok (.ldc 101, 2) := by decide +kernel
theorem d_Tide_filled_2 : decode c_Tide_filled 2 = .ok (.iload_n 0, 1) := by decide +kernel
theorem d_Tide_filled_3 : decode c_Tide_filled 3 = .ok (.iload_n 1, 1) := by decide +kernel
theorem d_Tide_filled_4 : decode c_Tide_filled 4 = .ok (.iadd, 1) := by decide +kernel
theorem d_Tide_filled_5 : decode c_Tide_filled 5 = .ok (.invokestatic 329, 3) := by decide +kernel
theorem d_Tide_filled_8 : decode c_Tide_filled 8 = .ok (.ireturn, 1) := by decide +kernel
theorem d_Tide_bring_0 : decode c_Tide_bring 0 = .ok (.aload_n 0, 1) := by decide +kernel
theorem d_Tide_bring_1 : decode c_Tide_bring 1 = .ok (.getfield 16, 3) := by decide +kernel
theorem d_Tide_bring_4 : decode c_Tide_bring 4 = .ok (.getfield 102, 3) := by decide +kernel
theorem d_Tide_bring_7 : decode c_Tide_bring 7 = .ok (.aload_n 1, 1) := by decide +kernel
theorem d_Tide_bring_8 : decode c_Tide_bring 8 = .ok (.getfield 124, 3) := by decide +kernel
theorem d_Tide_bring_11 : decode c_Tide_bring 11 = .ok (.aload_n 0, 1) := by decide +kernel
theorem d_Tide_bring_12 : decode c_Tide_bring 12 = .ok (.getfield 16, 3) := by decide +kernel
theorem d_Tide_bring_15 : decode c_Tide_bring 15 = .ok (.getfield 102, 3) := by decide +kernel
theorem d_Tide_bring_18 : decode c_Tide_bring 18 = .ok (.aload_n 1, 1) := by decide +kernel
theorem d_Tide_bring_19 : decode c_Tide_bring 19 = .ok (.getfield 124, 3) := by decide +kernel
theorem d_Tide_bring_22 : decode c_Tide_bring 22 = .ok (.iaload, 1) := by decide +kernel
theorem d_Tide_bring_23 : decode c_Tide_bring 23 = .ok (.aload_n 2, 1) := by decide +kernel
theorem d_Tide_bring_24 : decode c_Tide_bring 24 = .ok (.aload_n 1, 1) := by decide +kernel
theorem d_Tide_bring_25 : decode c_Tide_bring 25 = .ok (.aload_n 0, 1) := by decide +kernel
theorem d_Tide_bring_26 : decode c_Tide_bring 26 = .ok (.getfield 16, 3) := by decide +kernel
theorem d_Tide_bring_29 : decode c_Tide_bring 29 = .ok (.getfield 83, 3) := by decide +kernel
theorem d_Tide_bring_32 : decode c_Tide_bring 32 = .ok (.invokevirtual 214, 3) := by decide +kernel
theorem d_Tide_bring_35 : decode c_Tide_bring 35 = .ok (.invokestatic 218, 3) := by decide +kernel
theorem d_Tide_bring_38 : decode c_Tide_bring 38 = .ok (.iastore, 1) := by decide +kernel
theorem d_Tide_bring_39 : decode c_Tide_bring 39 = .ok (.aload_n 1, 1) := by decide +kernel
theorem d_Tide_bring_40 : decode c_Tide_bring 40 = .ok (.aload_n 2, 1) := by decide +kernel
theorem d_Tide_bring_41 : decode c_Tide_bring 41 = .ok (.getfield 334, 3) := by decide +kernel
theorem d_Tide_bring_44 : decode c_Tide_bring 44 = .ok (.putfield 133, 3) := by decide +kernel
theorem d_Tide_bring_47 : decode c_Tide_bring 47 = .ok (.aload_n 1, 1) := by decide +kernel
theorem d_Tide_bring_48 : decode c_Tide_bring 48 = .ok (.aload_n 2, 1) := by decide +kernel
theorem d_Tide_bring_49 : decode c_Tide_bring 49 = .ok (.getfield 335, 3) := by decide +kernel
theorem d_Tide_bring_52 : decode c_Tide_bring 52 = .ok (.putfield 136, 3) := by decide +kernel
theorem d_Tide_bring_55 : decode c_Tide_bring 55 = .ok (.return_, 1) := by decide +kernel
theorem d_Tide_days_0 : decode c_Tide_days 0 = .ok (.iload_n 1, 1) := by decide +kernel
theorem d_Tide_days_1 : decode c_Tide_days 1 = .ok (.iconst 1, 1) := by decide +kernel
theorem d_Tide_days_2 : decode c_Tide_days 2 = .ok (.sipush 400, 3) := by decide +kernel
theorem d_Tide_days_5 : decode c_Tide_days 5 = .ok (.invokestatic 79, 3) := by decide +kernel
theorem d_Tide_days_8 : decode c_Tide_days 8 = .ok (.ifCond .ne 11, 3) := by decide +kernel
theorem d_Tide_days_11 : decode c_Tide_days 11 = .ok (.aload_n 0, 1) := by decide +kernel
theorem d_Tide_days_12 : decode c_Tide_days 12 = .ok (.ldc 68, 2) := by decide +kernel
theorem d_Tide_days_14 : decode c_Tide_days 14 = .ok (.invokevirtual 69, 3) := by decide +kernel
theorem d_Tide_days_17 : decode c_Tide_days 17 = .ok (.i2l, 1) := by decide +kernel
theorem d_Tide_days_18 : decode c_Tide_days 18 = .ok (.lreturn, 1) := by decide +kernel
theorem d_Tide_days_19 : decode c_Tide_days 19 = .ok (.aload_n 0, 1) := by decide +kernel
theorem d_Tide_days_20 : decode c_Tide_days 20 = .ok (.getfield 16, 3) := by decide +kernel
theorem d_Tide_days_23 : decode c_Tide_days 23 = .ok (.getfield 160, 3) := by decide +kernel
theorem d_Tide_days_26 : decode c_Tide_days 26 = .ok (.iload_n 1, 1) := by decide +kernel
theorem d_Tide_days_27 : decode c_Tide_days 27 = .ok (.iadd, 1) := by decide +kernel
theorem d_Tide_days_28 : decode c_Tide_days 28 = .ok (.ldc 87, 2) := by decide +kernel
theorem d_Tide_days_30 : decode c_Tide_days 30 = .ok (.if_icmp .le 11, 3) := by decide +kernel
theorem d_Tide_days_33 : decode c_Tide_days 33 = .ok (.aload_n 0, 1) := by decide +kernel
theorem d_Tide_days_34 : decode c_Tide_days 34 = .ok (.ldc 150, 2) := by decide +kernel
theorem d_Tide_days_36 : decode c_Tide_days 36 = .ok (.invokevirtual 69, 3) := by decide +kernel
theorem d_Tide_days_39 : decode c_Tide_days 39 = .ok (.i2l, 1) := by decide +kernel
theorem d_Tide_days_40 : decode c_Tide_days 40 = .ok (.lreturn, 1) := by decide +kernel
theorem d_Tide_days_41 : decode c_Tide_days 41 = .ok (.aload_n 0, 1) := by decide +kernel
theorem d_Tide_days_42 : decode c_Tide_days 42 = .ok (.iload_n 1, 1) := by decide +kernel
theorem d_Tide_days_43 : decode c_Tide_days 43 = .ok (.invokevirtual 163, 3) := by decide +kernel
theorem d_Tide_days_46 : decode c_Tide_days 46 = .ok (.iconst 0, 1) := by decide +kernel
theorem d_Tide_days_47 : decode c_Tide_days 47 = .ok (.istore_n 2, 1) := by decide +kernel
theorem d_Tide_days_48 : decode c_Tide_days 48 = .ok (.iload_n 2, 1) := by decide +kernel
theorem d_Tide_days_49 : decode c_Tide_days 49 = .ok (.aload_n 0, 1) := by decide +kernel
theorem d_Tide_days_50 : decode c_Tide_days 50 = .ok (.getfield 16, 3) := by decide +kernel
theorem d_Tide_days_53 : decode c_Tide_days 53 = .ok (.getfield 166, 3) := by decide +kernel
theorem d_Tide_days_56 : decode c_Tide_days 56 = .ok (.if_icmp .ge 28, 3) := by decide +kernel
theorem d_Tide_days_59 : decode c_Tide_days 59 = .ok (.aload_n 0, 1) := by decide +kernel
theorem d_Tide_days_60 : decode c_Tide_days 60 = .ok (.aload_n 0, 1) := by decide +kernel
theorem d_Tide_days_61 : decode c_Tide_days 61 = .ok (.getfield 16, 3) := by decide +kernel
theorem d_Tide_days_64 : decode c_Tide_days 64 = .ok (.getfield 117, 3) := by decide +kernel
theorem d_Tide_days_67 : decode c_Tide_days 67 = .ok (.iload_n 2, 1) := by decide +kernel
theorem d_Tide_days_68 : decode c_Tide_days 68 = .ok (.aaload, 1) := by decide +kernel
theorem d_Tide_days_69 : decode c_Tide_days 69 = .ok (.aload_n 0, 1) := by decide +kernel
theorem d_Tide_days_70 : decode c_Tide_days 70 = .ok (.getfield 41, 3) := by decide +kernel
theorem d_Tide_days_73 : decode c_Tide_days 73 = .ok (.iload_n 2, 1) := by decide +kernel
theorem d_Tide_days_74 : decode c_Tide_days 74 = .ok (.aaload, 1) := by decide +kernel
theorem d_Tide_days_75 : decode c_Tide_days 75 = .ok (.invokevirtual 169, 3) := by decide +kernel
theorem d_Tide_days_78 : decode c_Tide_days 78 = .ok (.iinc 2 1, 3) := by decide +kernel
theorem d_Tide_days_81 : decode c_Tide_days 81 = .ok (.goto (-33), 3) := by decide +kernel
theorem d_Tide_days_84 : decode c_Tide_days 84 = .ok (.aload_n 0, 1) := by decide +kernel
theorem d_Tide_days_85 : decode c_Tide_days 85 = .ok (.getfield 16, 3) := by decide +kernel
theorem d_Tide_days_88 : decode c_Tide_days 88 = .ok (.dup, 1) := by decide +kernel
theorem d_Tide_days_89 : decode c_Tide_days 89 = .ok (.getfield 160, 3) := by decide +kernel
theorem d_Tide_days_92 : decode c_Tide_days 92 = .ok (.iload_n 1, 1) := by decide +kernel
theorem d_Tide_days_93 : decode c_Tide_days 93 = .ok (.iadd, 1) := by decide +kernel
theorem d_Tide_days_94 : decode c_Tide_days 94 = .ok (.putfield 160, 3) := by decide +kernel
theorem d_Tide_days_97 : decode c_Tide_days 97 = .ok (.aload_n 0, 1) := by decide +kernel
theorem d_Tide_days_98 : decode c_Tide_days 98 = .ok (.getfield 16, 3) := by decide +kernel
theorem d_Tide_days_101 : decode c_Tide_days 101 = .ok (.invokevirtual 173, 3) := by decide +kernel
theorem d_Tide_days_104 : decode c_Tide_days 104 = .ok (.lreturn, 1) := by decide +kernel
theorem d_Tide_allOwedNow_0 : decode c_Tide_allOwedNow 0 = .ok (.iconst 0, 1) := by decide +kernel
theorem d_Tide_allOwedNow_1 : decode c_Tide_allOwedNow 1 = .ok (.istore_n 1, 1) := by decide +kernel
theorem d_Tide_allOwedNow_2 : decode c_Tide_allOwedNow 2 = .ok (.iconst 0, 1) := by decide +kernel
theorem d_Tide_allOwedNow_3 : decode c_Tide_allOwedNow 3 = .ok (.istore_n 2, 1) := by decide +kernel
theorem d_Tide_allOwedNow_4 : decode c_Tide_allOwedNow 4 = .ok (.iload_n 2, 1) := by decide +kernel
theorem d_Tide_allOwedNow_5 : decode c_Tide_allOwedNow 5 = .ok (.aload_n 0, 1) := by decide +kernel
theorem d_Tide_allOwedNow_6 : decode c_Tide_allOwedNow 6 = .ok (.getfield 16, 3) := by decide +kernel
theorem d_Tide_allOwedNow_9 : decode c_Tide_allOwedNow 9 = .ok (.getfield 166, 3) := by decide +kernel
theorem d_Tide_allOwedNow_12 : decode c_Tide_allOwedNow 12 = .ok (.if_icmp .ge 25, 3) := by decide +kernel
theorem d_Tide_allOwedNow_15 : decode c_Tide_allOwedNow 15 = .ok (.iload_n 1, 1) := by decide +kernel
theorem d_Tide_allOwedNow_16 : decode c_Tide_allOwedNow 16 = .ok (.aload_n 0, 1) := by decide +kernel
theorem d_Tide_allOwedNow_17 : decode c_Tide_allOwedNow 17 = .ok (.aload_n 0, 1) := by decide +kernel
theorem d_Tide_allOwedNow_18 : decode c_Tide_allOwedNow 18 = .ok (.getfield 16, 3) := by decide +kernel
theorem d_Tide_allOwedNow_21 : decode c_Tide_allOwedNow 21 = .ok (.getfield 117, 3) := by decide +kernel
theorem d_Tide_allOwedNow_24 : decode c_Tide_allOwedNow 24 = .ok (.iload_n 2, 1) := by decide +kernel
theorem d_Tide_allOwedNow_25 : decode c_Tide_allOwedNow 25 = .ok (.aaload, 1) := by decide +kernel
theorem d_Tide_allOwedNow_26 : decode c_Tide_allOwedNow 26 = .ok (.invokevirtual 142, 3) := by decide +kernel
theorem d_Tide_allOwedNow_29 : decode c_Tide_allOwedNow 29 = .ok (.iadd, 1) := by decide +kernel
theorem d_Tide_allOwedNow_30 : decode c_Tide_allOwedNow 30 = .ok (.istore_n 1, 1) := by decide +kernel
theorem d_Tide_allOwedNow_31 : decode c_Tide_allOwedNow 31 = .ok (.iinc 2 1, 3) := by decide +kernel
theorem d_Tide_allOwedNow_34 : decode c_Tide_allOwedNow 34 = .ok (.goto (-30), 3) := by decide +kernel
theorem d_Tide_allOwedNow_37 : decode c_Tide_allOwedNow 37 = .ok (.iload_n 1, 1) := by decide +kernel
theorem d_Tide_allOwedNow_38 : decode c_Tide_allOwedNow 38 = .ok (.ireturn, 1) := by decide +kernel
theorem d_Tide_now_0 : decode c_Tide_now 0 = .ok (.iload_n 1, 1) := by decide +kernel
theorem d_Tide_now_1 : decode c_Tide_now 1 = .ok (.tableswitch 86 0 5 #[39, 47, 55, 64, 73, 78], 39) := by decide +kernel
theorem d_Tide_now_40 : decode c_Tide_now 40 = .ok (.aload_n 0, 1) := by decide +kernel
theorem d_Tide_now_41 : decode c_Tide_now 41 = .ok (.getfield 16, 3) := by decide +kernel
theorem d_Tide_now_44 : decode c_Tide_now 44 = .ok (.getfield 160, 3) := by decide +kernel
theorem d_Tide_now_47 : decode c_Tide_now 47 = .ok (.ireturn, 1) := by decide +kernel
theorem d_Tide_now_48 : decode c_Tide_now 48 = .ok (.aload_n 0, 1) := by decide +kernel
theorem d_Tide_now_49 : decode c_Tide_now 49 = .ok (.getfield 16, 3) := by decide +kernel
theorem d_Tide_now_52 : decode c_Tide_now 52 = .ok (.getfield 83, 3) := by decide +kernel
theorem d_Tide_now_55 : decode c_Tide_now 55 = .ok (.ireturn, 1) := by decide +kernel
theorem d_Tide_now_56 : decode c_Tide_now 56 = .ok (.aload_n 0, 1) := by decide +kernel
theorem d_Tide_now_57 : decode c_Tide_now 57 = .ok (.getfield 16, 3) := by decide +kernel
theorem d_Tide_now_60 : decode c_Tide_now 60 = .ok (.iconst 1, 1) := by decide +kernel
theorem d_Tide_now_61 : decode c_Tide_now 61 = .ok (.invokevirtual 177, 3) := by decide +kernel
theorem d_Tide_now_64 : decode c_Tide_now 64 = .ok (.ireturn, 1) := by decide +kernel
theorem d_Tide_now_65 : decode c_Tide_now 65 = .ok (.aload_n 0, 1) := by decide +kernel
theorem d_Tide_now_66 : decode c_Tide_now 66 = .ok (.getfield 16, 3) := by decide +kernel
theorem d_Tide_now_69 : decode c_Tide_now 69 = .ok (.iconst 2, 1) := by decide +kernel
theorem d_Tide_now_70 : decode c_Tide_now 70 = .ok (.invokevirtual 177, 3) := by decide +kernel
theorem d_Tide_now_73 : decode c_Tide_now 73 = .ok (.ireturn, 1) := by decide +kernel
theorem d_Tide_now_74 : decode c_Tide_now 74 = .ok (.aload_n 0, 1) := by decide +kernel
theorem d_Tide_now_75 : decode c_Tide_now 75 = .ok (.invokevirtual 180, 3) := by decide +kernel
theorem d_Tide_now_78 : decode c_Tide_now 78 = .ok (.ireturn, 1) := by decide +kernel
theorem d_Tide_now_79 : decode c_Tide_now 79 = .ok (.aload_n 0, 1) := by decide +kernel
theorem d_Tide_now_80 : decode c_Tide_now 80 = .ok (.getfield 16, 3) := by decide +kernel
theorem d_Tide_now_83 : decode c_Tide_now 83 = .ok (.invokevirtual 184, 3) := by decide +kernel
theorem d_Tide_now_86 : decode c_Tide_now 86 = .ok (.ireturn, 1) := by decide +kernel
theorem d_Tide_now_87 : decode c_Tide_now 87 = .ok (.aload_n 0, 1) := by decide +kernel
theorem d_Tide_now_88 : decode c_Tide_now 88 = .ok (.ldc 68, 2) := by decide +kernel
theorem d_Tide_now_90 : decode c_Tide_now 90 = .ok (.invokevirtual 69, 3) := by decide +kernel
theorem d_Tide_now_93 : decode c_Tide_now 93 = .ok (.ireturn, 1) := by decide +kernel
theorem d_Tide_purseThen_0 : decode c_Tide_purseThen 0 = .ok (.aload_n 0, 1) := by decide +kernel
theorem d_Tide_purseThen_1 : decode c_Tide_purseThen 1 = .ok (.getfield 16, 3) := by decide +kernel
theorem d_Tide_purseThen_4 : decode c_Tide_purseThen 4 = .ok (.getfield 102, 3) := by decide +kernel
theorem d_Tide_purseThen_7 : decode c_Tide_purseThen 7 = .ok (.iload_n 1, 1) := by decide +kernel
theorem d_Tide_purseThen_8 : decode c_Tide_purseThen 8 = .ok (.iaload, 1) := by decide +kernel
theorem d_Tide_purseThen_9 : decode c_Tide_purseThen 9 = .ok (.istore 4, 2) := by decide +kernel
theorem d_Tide_purseThen_11 : decode c_Tide_purseThen 11 = .ok (.iconst 0, 1) := by decide +kernel
theorem d_Tide_purseThen_12 : decode c_Tide_purseThen 12 = .ok (.istore 5, 2) := by decide +kernel
theorem d_Tide_purseThen_14 : decode c_Tide_purseThen 14 = .ok (.iload 5, 2) := by decide +kernel
theorem d_Tide_purseThen_16 : decode c_Tide_purseThen 16 = .ok (.aload_n 0, 1) := by decide +kernel
theorem d_Tide_purseThen_17 : decode c_Tide_purseThen 17 = .ok (.getfield 16, 3) := by decide +kernel
theorem d_Tide_purseThen_20 : decode c_Tide_purseThen 20 = .ok (.getfield 166, 3) := by decide +kernel
theorem d_Tide_purseThen_23 : decode c_Tide_purseThen 23 = .ok (.if_icmp .ge 56, 3) := by decide +kernel
theorem d_Tide_purseThen_26 : decode c_Tide_purseThen 26 = .ok (.aload_n 0, 1) := by decide +kernel
theorem d_Tide_purseThen_27 : decode c_Tide_purseThen 27 = .ok (.getfield 16, 3) := by decide +kernel
theorem d_Tide_purseThen_30 : decode c_Tide_purseThen 30 = .ok (.getfield 117, 3) := by decide +kernel
theorem d_Tide_purseThen_33 : decode c_Tide_purseThen 33 = .ok (.iload 5, 2) := by decide +kernel
theorem d_Tide_purseThen_35 : decode c_Tide_purseThen 35 = .ok (.aaload, 1) := by decide +kernel
theorem d_Tide_purseThen_36 : decode c_Tide_purseThen 36 = .ok (.astore 6, 2) := by decide +kernel
theorem d_Tide_purseThen_38 : decode c_Tide_purseThen 38 = .ok (.aload 6, 2) := by decide +kernel
theorem d_Tide_purseThen_40 : decode c_Tide_purseThen 40 = .ok (.getfield 124, 3) := by decide +kernel
theorem d_Tide_purseThen_43 : decode c_Tide_purseThen 43 = .ok (.iload_n 1, 1) := by decide +kernel
theorem d_Tide_purseThen_44 : decode c_Tide_purseThen 44 = .ok (.if_icmp .ne 29, 3) := by decide +kernel
theorem d_Tide_purseThen_47 : decode c_Tide_purseThen 47 = .ok (.iload 5, 2) := by decide +kernel
theorem d_Tide_purseThen_49 : decode c_Tide_purseThen 49 = .ok (.iload_n 3, 1) := by decide +kernel
theorem d_Tide_purseThen_50 : decode c_Tide_purseThen 50 = .ok (.if_icmp .eq 23, 3) := by decide +kernel
theorem d_Tide_purseThen_53 : decode c_Tide_purseThen 53 = .ok (.iload 4, 2) := by decide +kernel
theorem d_Tide_purseThen_55 : decode c_Tide_purseThen 55 = .ok (.aload_n 0, 1) := by decide +kernel
theorem d_Tide_purseThen_56 : decode c_Tide_purseThen 56 = .ok (.getfield 41, 3) := by decide +kernel
theorem d_Tide_purseThen_59 : decode c_Tide_purseThen 59 = .ok (.iload 5, 2) := by decide +kernel
theorem d_Tide_purseThen_61 : decode c_Tide_purseThen 61 = .ok (.aaload, 1) := by decide +kernel
theorem d_Tide_purseThen_62 : decode c_Tide_purseThen 62 = .ok (.aload 6, 2) := by decide +kernel
theorem d_Tide_purseThen_64 : decode c_Tide_purseThen 64 = .ok (.iload_n 2, 1) := by decide +kernel
theorem d_Tide_purseThen_65 : decode c_Tide_purseThen 65 = .ok (.invokevirtual 214, 3) := by decide +kernel
theorem d_Tide_purseThen_68 : decode c_Tide_purseThen 68 = .ok (.invokestatic 218, 3) := by decide +kernel
theorem d_Tide_purseThen_71 : decode c_Tide_purseThen 71 = .ok (.istore 4, 2) := by decide +kernel
theorem d_Tide_purseThen_73 : decode c_Tide_purseThen 73 = .ok (.iinc 5 1, 3) := by decide +kernel
theorem d_Tide_purseThen_76 : decode c_Tide_purseThen 76 = .ok (.goto (-62), 3) := by decide +kernel
theorem d_Tide_purseThen_79 : decode c_Tide_purseThen 79 = .ok (.iload 4, 2) := by decide +kernel
theorem d_Tide_purseThen_81 : decode c_Tide_purseThen 81 = .ok (.ireturn, 1) := by decide +kernel
theorem d_Tide_on_0 : decode c_Tide_on 0 = .ok (.iload_n 1, 1) := by decide +kernel
theorem d_Tide_on_1 : decode c_Tide_on 1 = .ok (.iconst 4, 1) := by decide +kernel
theorem d_Tide_on_2 : decode c_Tide_on 2 = .ok (.invokestatic 64, 3) := by decide +kernel
theorem d_Tide_on_5 : decode c_Tide_on 5 = .ok (.ifCond .eq 14, 3) := by decide +kernel
theorem d_Tide_on_8 : decode c_Tide_on 8 = .ok (.iload_n 2, 1) := by decide +kernel
theorem d_Tide_on_9 : decode c_Tide_on 9 = .ok (.iconst 0, 1) := by decide +kernel
theorem d_Tide_on_10 : decode c_Tide_on 10 = .ok (.sipush 400, 3) := by decide +kernel
theorem d_Tide_on_13 : decode c_Tide_on 13 = .ok (.invokestatic 79, 3) := by decide +kernel
theorem d_Tide_on_16 : decode c_Tide_on 16 = .ok (.ifCond .ne 10, 3) := by decide +kernel
theorem d_Tide_on_19 : decode c_Tide_on 19 = .ok (.aload_n 0, 1) := by decide +kernel
theorem d_Tide_on_20 : decode c_Tide_on 20 = .ok (.ldc 68, 2) := by decide +kernel
theorem d_Tide_on_22 : decode c_Tide_on 22 = .ok (.invokevirtual 69, 3) := by decide +kernel
theorem d_Tide_on_25 : decode c_Tide_on 25 = .ok (.ireturn, 1) := by decide +kernel
theorem d_Tide_on_26 : decode c_Tide_on 26 = .ok (.aload_n 0, 1) := by decide +kernel
theorem d_Tide_on_27 : decode c_Tide_on 27 = .ok (.iload_n 2, 1) := by decide +kernel
theorem d_Tide_on_28 : decode c_Tide_on 28 = .ok (.invokevirtual 163, 3) := by decide +kernel
theorem d_Tide_on_31 : decode c_Tide_on 31 = .ok (.aload_n 0, 1) := by decide +kernel
theorem d_Tide_on_32 : decode c_Tide_on 32 = .ok (.iload_n 1, 1) := by decide +kernel
theorem d_Tide_on_33 : decode c_Tide_on 33 = .ok (.aload_n 0, 1) := by decide +kernel
theorem d_Tide_on_34 : decode c_Tide_on 34 = .ok (.getfield 16, 3) := by decide +kernel
theorem d_Tide_on_37 : decode c_Tide_on 37 = .ok (.getfield 83, 3) := by decide +kernel
theorem d_Tide_on_40 : decode c_Tide_on 40 = .ok (.iconst (-1), 1) := by decide +kernel
theorem d_Tide_on_41 : decode c_Tide_on 41 = .ok (.invokevirtual 187, 3) := by decide +kernel
theorem d_Tide_on_44 : decode c_Tide_on 44 = .ok (.ireturn, 1) := by decide +kernel
theorem d_Tide_taken_0 : decode c_Tide_taken 0 = .ok (.aload_n 0, 1) := by decide +kernel
theorem d_Tide_taken_1 : decode c_Tide_taken 1 = .ok (.getfield 16, 3) := by decide +kernel
theorem d_Tide_taken_4 : decode c_Tide_taken 4 = .ok (.iload_n 1, 1) := by decide +kernel
theorem d_Tide_taken_5 : decode c_Tide_taken 5 = .ok (.invokevirtual 114, 3) := by decide +kernel
theorem d_Tide_taken_8 : decode c_Tide_taken 8 = .ok (.ifCond .ne 10, 3) := by decide +kernel
theorem d_Tide_taken_11 : decode c_Tide_taken 11 = .ok (.aload_n 0, 1) := by decide +kernel
theorem d_Tide_taken_12 : decode c_Tide_taken 12 = .ok (.ldc 68, 2) := by decide +kernel
theorem d_Tide_taken_14 : decode c_Tide_taken 14 = .ok (.invokevirtual 69, 3) := by decide +kernel
theorem d_Tide_taken_17 : decode c_Tide_taken 17 = .ok (.ireturn, 1) := by decide +kernel
theorem d_Tide_taken_18 : decode c_Tide_taken 18 = .ok (.aload_n 0, 1) := by decide +kernel
theorem d_Tide_taken_19 : decode c_Tide_taken 19 = .ok (.getfield 16, 3) := by decide +kernel
theorem d_Tide_taken_22 : decode c_Tide_taken 22 = .ok (.getfield 117, 3) := by decide +kernel
theorem d_Tide_taken_25 : decode c_Tide_taken 25 = .ok (.iload_n 1, 1) := by decide +kernel
theorem d_Tide_taken_26 : decode c_Tide_taken 26 = .ok (.aaload, 1) := by decide +kernel
theorem d_Tide_taken_27 : decode c_Tide_taken 27 = .ok (.getfield 133, 3) := by decide +kernel
theorem d_Tide_taken_30 : decode c_Tide_taken 30 = .ok (.iconst 1, 1) := by decide +kernel
theorem d_Tide_taken_31 : decode c_Tide_taken 31 = .ok (.if_icmp .eq 10, 3) := by decide +kernel
theorem d_Tide_taken_34 : decode c_Tide_taken 34 = .ok (.aload_n 0, 1) := by decide +kernel
theorem d_Tide_taken_35 : decode c_Tide_taken 35 = .ok (.ldc 150, 2) := by decide +kernel
theorem d_Tide_taken_37 : decode c_Tide_taken 37 = .ok (.invokevirtual 69, 3) := by decide +kernel
theorem d_Tide_taken_40 : decode c_Tide_taken 40 = .ok (.ireturn, 1) := by decide +kernel
theorem d_Tide_taken_41 : decode c_Tide_taken 41 = .ok (.aload_n 0, 1) := by decide +kernel
theorem d_Tide_taken_42 : decode c_Tide_taken 42 = .ok (.iload_n 1, 1) := by decide +kernel
theorem d_Tide_taken_43 : decode c_Tide_taken 43 = .ok (.sipush 400, 3) := by decide +kernel
theorem d_Tide_taken_46 : decode c_Tide_taken 46 = .ok (.invokevirtual 191, 3) := by decide +kernel
theorem d_Tide_taken_49 : decode c_Tide_taken 49 = .ok (.aload_n 0, 1) := by decide +kernel
theorem d_Tide_taken_50 : decode c_Tide_taken 50 = .ok (.getfield 41, 3) := by decide +kernel
theorem d_Tide_taken_53 : decode c_Tide_taken 53 = .ok (.iload_n 1, 1) := by decide +kernel
theorem d_Tide_taken_54 : decode c_Tide_taken 54 = .ok (.aaload, 1) := by decide +kernel
theorem d_Tide_taken_55 : decode c_Tide_taken 55 = .ok (.getfield 195, 3) := by decide +kernel
theorem d_Tide_taken_58 : decode c_Tide_taken 58 = .ok (.istore_n 2, 1) := by decide +kernel
theorem d_Tide_taken_59 : decode c_Tide_taken 59 = .ok (.iload_n 2, 1) := by decide +kernel
theorem d_Tide_taken_60 : decode c_Tide_taken 60 = .ok (.ifCond .le 7, 3) := by decide +kernel
theorem d_Tide_taken_63 : decode c_Tide_taken 63 = .ok (.iload_n 2, 1) := by decide +kernel
theorem d_Tide_taken_64 : decode c_Tide_taken 64 = .ok (.goto 9, 3) := by decide +kernel
theorem d_Tide_taken_67 : decode c_Tide_taken 67 = .ok (.aload_n 0, 1) := by decide +kernel
theorem d_Tide_taken_68 : decode c_Tide_taken 68 = .ok (.ldc 198, 2) := by decide +kernel
theorem d_Tide_taken_70 : decode c_Tide_taken 70 = .ok (.invokevirtual 69, 3) := by decide +kernel
theorem d_Tide_taken_73 : decode c_Tide_taken 73 = .ok (.ireturn, 1) := by decide +kernel
theorem d_Tide_home_0 : decode c_Tide_home 0 = .ok (.aload_n 0, 1) := by decide +kernel
theorem d_Tide_home_1 : decode c_Tide_home 1 = .ok (.getfield 16, 3) := by decide +kernel
theorem d_Tide_home_4 : decode c_Tide_home 4 = .ok (.iload_n 1, 1) := by decide +kernel
theorem d_Tide_home_5 : decode c_Tide_home 5 = .ok (.invokevirtual 114, 3) := by decide +kernel
theorem d_Tide_home_8 : decode c_Tide_home 8 = .ok (.ifCond .ne 10, 3) := by decide +kernel
theorem d_Tide_home_11 : decode c_Tide_home 11 = .ok (.aload_n 0, 1) := by decide +kernel
theorem d_Tide_home_12 : decode c_Tide_home 12 = .ok (.ldc 68, 2) := by decide +kernel
theorem d_Tide_home_14 : decode c_Tide_home 14 = .ok (.invokevirtual 69, 3) := by decide +kernel
theorem d_Tide_home_17 : decode c_Tide_home 17 = .ok (.ireturn, 1) := by decide +kernel
theorem d_Tide_home_18 : decode c_Tide_home 18 = .ok (.aload_n 0, 1) := by decide +kernel
theorem d_Tide_home_19 : decode c_Tide_home 19 = .ok (.getfield 16, 3) := by decide +kernel
theorem d_Tide_home_22 : decode c_Tide_home 22 = .ok (.getfield 117, 3) := by decide +kernel
theorem d_Tide_home_25 : decode c_Tide_home 25 = .ok (.iload_n 1, 1) := by decide +kernel
theorem d_Tide_home_26 : decode c_Tide_home 26 = .ok (.aaload, 1) := by decide +kernel
theorem d_Tide_home_27 : decode c_Tide_home 27 = .ok (.getfield 133, 3) := by decide +kernel
theorem d_Tide_home_30 : decode c_Tide_home 30 = .ok (.ifCond .ne 10, 3) := by decide +kernel
theorem d_Tide_home_33 : decode c_Tide_home 33 = .ok (.aload_n 0, 1) := by decide +kernel
theorem d_Tide_home_34 : decode c_Tide_home 34 = .ok (.ldc 150, 2) := by decide +kernel
theorem d_Tide_home_36 : decode c_Tide_home 36 = .ok (.invokevirtual 69, 3) := by decide +kernel
theorem d_Tide_home_39 : decode c_Tide_home 39 = .ok (.ireturn, 1) := by decide +kernel
theorem d_Tide_home_40 : decode c_Tide_home 40 = .ok (.aload_n 0, 1) := by decide +kernel
theorem d_Tide_home_41 : decode c_Tide_home 41 = .ok (.iload_n 1, 1) := by decide +kernel
theorem d_Tide_home_42 : decode c_Tide_home 42 = .ok (.sipush 400, 3) := by decide +kernel
theorem d_Tide_home_45 : decode c_Tide_home 45 = .ok (.invokevirtual 191, 3) := by decide +kernel
theorem d_Tide_home_48 : decode c_Tide_home 48 = .ok (.aload_n 0, 1) := by decide +kernel
theorem d_Tide_home_49 : decode c_Tide_home 49 = .ok (.getfield 41, 3) := by decide +kernel
theorem d_Tide_home_52 : decode c_Tide_home 52 = .ok (.iload_n 1, 1) := by decide +kernel
theorem d_Tide_home_53 : decode c_Tide_home 53 = .ok (.aaload, 1) := by decide +kernel
theorem d_Tide_home_54 : decode c_Tide_home 54 = .ok (.getfield 199, 3) := by decide +kernel
theorem d_Tide_home_57 : decode c_Tide_home 57 = .ok (.istore_n 2, 1) := by decide +kernel
theorem d_Tide_home_58 : decode c_Tide_home 58 = .ok (.iload_n 2, 1) := by decide +kernel
theorem d_Tide_home_59 : decode c_Tide_home 59 = .ok (.ifCond .le 7, 3) := by decide +kernel
theorem d_Tide_home_62 : decode c_Tide_home 62 = .ok (.iload_n 2, 1) := by decide +kernel
theorem d_Tide_home_63 : decode c_Tide_home 63 = .ok (.goto 9, 3) := by decide +kernel
theorem d_Tide_home_66 : decode c_Tide_home 66 = .ok (.aload_n 0, 1) := by decide +kernel
theorem d_Tide_home_67 : decode c_Tide_home 67 = .ok (.ldc 198, 2) := by decide +kernel
theorem d_Tide_home_69 : decode c_Tide_home 69 = .ok (.invokevirtual 69, 3) := by decide +kernel
theorem d_Tide_home_72 : decode c_Tide_home 72 = .ok (.ireturn, 1) := by decide +kernel
theorem d_Tide_due_0 : decode c_Tide_due 0 = .ok (.aload_n 0, 1) := by decide +kernel
theorem d_Tide_due_1 : decode c_Tide_due 1 = .ok (.aload_n 0, 1) := by decide +kernel
theorem d_Tide_due_2 : decode c_Tide_due 2 = .ok (.getfield 16, 3) := by decide +kernel
theorem d_Tide_due_5 : decode c_Tide_due 5 = .ok (.getfield 160, 3) := by decide +kernel
theorem d_Tide_due_8 : decode c_Tide_due 8 = .ok (.invokestatic 202, 3) := by decide +kernel
theorem d_Tide_due_11 : decode c_Tide_due 11 = .ok (.aload_n 0, 1) := by decide +kernel
theorem d_Tide_due_12 : decode c_Tide_due 12 = .ok (.getfield 16, 3) := by decide +kernel
theorem d_Tide_due_15 : decode c_Tide_due 15 = .ok (.getfield 160, 3) := by decide +kernel
theorem d_Tide_due_18 : decode c_Tide_due 18 = .ok (.isub, 1) := by decide +kernel
theorem d_Tide_due_19 : decode c_Tide_due 19 = .ok (.iconst 1, 1) := by decide +kernel
theorem d_Tide_due_20 : decode c_Tide_due 20 = .ok (.iadd, 1) := by decide +kernel
theorem d_Tide_due_21 : decode c_Tide_due 21 = .ok (.invokevirtual 163, 3) := by decide +kernel
theorem d_Tide_due_24 : decode c_Tide_due 24 = .ok (.iconst 0, 1) := by decide +kernel
theorem d_Tide_due_25 : decode c_Tide_due 25 = .ok (.istore_n 1, 1) := by decide +kernel
theorem d_Tide_due_26 : decode c_Tide_due 26 = .ok (.iconst 0, 1) := by decide +kernel
theorem d_Tide_due_27 : decode c_Tide_due 27 = .ok (.istore_n 2, 1) := by decide +kernel
theorem d_Tide_due_28 : decode c_Tide_due 28 = .ok (.iload_n 2, 1) := by decide +kernel
theorem d_Tide_due_29 : decode c_Tide_due 29 = .ok (.aload_n 0, 1) := by decide +kernel
theorem d_Tide_due_30 : decode c_Tide_due 30 = .ok (.getfield 16, 3) := by decide +kernel
theorem d_Tide_due_33 : decode c_Tide_due 33 = .ok (.getfield 166, 3) := by decide +kernel
theorem d_Tide_due_36 : decode c_Tide_due 36 = .ok (.if_icmp .ge 27, 3) := by decide +kernel
theorem d_Tide_due_39 : decode c_Tide_due 39 = .ok (.aload_n 0, 1) := by decide +kernel
theorem d_Tide_due_40 : decode c_Tide_due 40 = .ok (.getfield 41, 3) := by decide +kernel
theorem d_Tide_due_43 : decode c_Tide_due 43 = .ok (.iload_n 2, 1) := by decide +kernel
theorem d_Tide_due_44 : decode c_Tide_due 44 = .ok (.aaload, 1) := by decide +kernel
theorem d_Tide_due_45 : decode c_Tide_due 45 = .ok (.getfield 199, 3) := by decide +kernel
theorem d_Tide_due_48 : decode c_Tide_due 48 = .ok (.ifCond .le 9, 3) := by decide +kernel
theorem d_Tide_due_51 : decode c_Tide_due 51 = .ok (.iload_n 1, 1) := by decide +kernel
theorem d_Tide_due_52 : decode c_Tide_due 52 = .ok (.iconst 1, 1) := by decide +kernel
theorem d_Tide_due_53 : decode c_Tide_due 53 = .ok (.iload_n 2, 1) := by decide +kernel
theorem d_Tide_due_54 : decode c_Tide_due 54 = .ok (.ishl, 1) := by decide +kernel
theorem d_Tide_due_55 : decode c_Tide_due 55 = .ok (.ior, 1) := by decide +kernel
theorem d_Tide_due_56 : decode c_Tide_due 56 = .ok (.istore_n 1, 1) := by decide +kernel
theorem d_Tide_due_57 : decode c_Tide_due 57 = .ok (.iinc 2 1, 3) := by decide +kernel
theorem d_Tide_due_60 : decode c_Tide_due 60 = .ok (.goto (-32), 3) := by decide +kernel
theorem d_Tide_due_63 : decode c_Tide_due 63 = .ok (.iload_n 1, 1) := by decide +kernel
theorem d_Tide_due_64 : decode c_Tide_due 64 = .ok (.ireturn, 1) := by decide +kernel
theorem d_Tide_tryOn_0 : decode c_Tide_tryOn 0 = .ok (.aload_n 0, 1) := by decide +kernel
theorem d_Tide_tryOn_1 : decode c_Tide_tryOn 1 = .ok (.getfield 54, 3) := by decide +kernel
theorem d_Tide_tryOn_4 : decode c_Tide_tryOn 4 = .ok (.aload_n 0, 1) := by decide +kernel
theorem d_Tide_tryOn_5 : decode c_Tide_tryOn 5 = .ok (.getfield 16, 3) := by decide +kernel
theorem d_Tide_tryOn_8 : decode c_Tide_tryOn 8 = .ok (.getfield 117, 3) := by decide +kernel
theorem d_Tide_tryOn_11 : decode c_Tide_tryOn 11 = .ok (.iload_n 1, 1) := by decide +kernel
theorem d_Tide_tryOn_12 : decode c_Tide_tryOn 12 = .ok (.aaload, 1) := by decide +kernel
theorem d_Tide_tryOn_13 : decode c_Tide_tryOn 13 = .ok (.invokevirtual 285, 3) := by decide +kernel
theorem d_Tide_tryOn_16 : decode c_Tide_tryOn 16 = .ok (.aload_n 0, 1) := by decide +kernel
theorem d_Tide_tryOn_17 : decode c_Tide_tryOn 17 = .ok (.iload_n 2, 1) := by decide +kernel
theorem d_Tide_tryOn_18 : decode c_Tide_tryOn 18 = .ok (.invokevirtual 163, 3) := by decide +kernel
theorem d_Tide_tryOn_21 : decode c_Tide_tryOn 21 = .ok (.aload_n 0, 1) := by decide +kernel
theorem d_Tide_tryOn_22 : decode c_Tide_tryOn 22 = .ok (.aload_n 0, 1) := by decide +kernel
theorem d_Tide_tryOn_23 : decode c_Tide_tryOn 23 = .ok (.getfield 54, 3) := by decide +kernel
theorem d_Tide_tryOn_26 : decode c_Tide_tryOn 26 = .ok (.getfield 124, 3) := by decide +kernel
theorem d_Tide_tryOn_29 : decode c_Tide_tryOn 29 = .ok (.aload_n 0, 1) := by decide +kernel
theorem d_Tide_tryOn_30 : decode c_Tide_tryOn 30 = .ok (.getfield 16, 3) := by decide +kernel
theorem d_Tide_tryOn_33 : decode c_Tide_tryOn 33 = .ok (.getfield 83, 3) := by decide +kernel
theorem d_Tide_tryOn_36 : decode c_Tide_tryOn 36 = .ok (.iload_n 1, 1) := by decide +kernel
theorem d_Tide_tryOn_37 : decode c_Tide_tryOn 37 = .ok (.invokevirtual 187, 3) := by decide +kernel
theorem d_Tide_tryOn_40 : decode c_Tide_tryOn 40 = .ok (.ireturn, 1) := by decide +kernel
theorem d_Tide_followTrial_0 : decode c_Tide_followTrial 0 = .ok (.aload_n 0, 1) := by decide +kernel
theorem d_Tide_followTrial_1 : decode c_Tide_followTrial 1 = .ok (.getfield 59, 3) := by decide +kernel
theorem d_Tide_followTrial_4 : decode c_Tide_followTrial 4 = .ok (.aload_n 0, 1) := by decide +kernel
theorem d_Tide_followTrial_5 : decode c_Tide_followTrial 5 = .ok (.getfield 54, 3) := by decide +kernel
theorem d_Tide_followTrial_8 : decode c_Tide_followTrial 8 = .ok (.aload_n 0, 1) := by decide +kernel
theorem d_Tide_followTrial_9 : decode c_Tide_followTrial 9 = .ok (.getfield 16, 3) := by decide +kernel
theorem d_Tide_followTrial_12 : decode c_Tide_followTrial 12 = .ok (.getfield 73, 3) := by decide +kernel
theorem d_Tide_followTrial_15 : decode c_Tide_followTrial 15 = .ok (.aload_n 0, 1) := by decide +kernel
theorem d_Tide_followTrial_16 : decode c_Tide_followTrial 16 = .ok (.getfield 54, 3) := by decide +kernel
theorem d_Tide_followTrial_19 : decode c_Tide_followTrial 19 = .ok (.getfield 127, 3) := by decide +kernel
theorem d_Tide_followTrial_22 : decode c_Tide_followTrial 22 = .ok (.iaload, 1) := by decide +kernel
theorem d_Tide_followTrial_23 : decode c_Tide_followTrial 23 = .ok (.aload_n 0, 1) := by decide +kernel
theorem d_Tide_followTrial_24 : decode c_Tide_followTrial 24 = .ok (.getfield 16, 3) := by decide +kernel
theorem d_Tide_followTrial_27 : decode c_Tide_followTrial 27 = .ok (.getfield 160, 3) := by decide +kernel
theorem d_Tide_followTrial_30 : decode c_Tide_followTrial 30 = .ok (.iload_n 1, 1) := by decide +kernel
theorem d_Tide_followTrial_31 : decode c_Tide_followTrial 31 = .ok (.iadd, 1) := by decide +kernel
theorem d_Tide_followTrial_32 : decode c_Tide_followTrial 32 = .ok (.iload_n 2, 1) := by decide +kernel
theorem d_Tide_followTrial_33 : decode c_Tide_followTrial 33 = .ok (.iload_n 1, 1) := by decide +kernel
theorem d_Tide_followTrial_34 : decode c_Tide_followTrial 34 = .ok (.isub, 1) := by decide +kernel
theorem d_Tide_followTrial_35 : decode c_Tide_followTrial 35 = .ok (.invokevirtual 331, 3) := by decide +kernel
theorem d_Tide_followTrial_38 : decode c_Tide_followTrial 38 = .ok (.return_, 1) := by decide +kernel
theorem d_Tide_purseWithTrial_0 : decode c_Tide_purseWithTrial 0 = .ok (.aload_n 0, 1) := by decide +kernel
theorem d_Tide_purseWithTrial_1 : decode c_Tide_purseWithTrial 1 = .ok (.iload_n 2, 1) := by decide +kernel
theorem d_Tide_purseWithTrial_2 : decode c_Tide_purseWithTrial 2 = .ok (.iload_n 3, 1) := by decide +kernel
theorem d_Tide_purseWithTrial_3 : decode c_Tide_purseWithTrial 3 = .ok (.invokevirtual 211, 3) := by decide +kernel
theorem d_Tide_purseWithTrial_6 : decode c_Tide_purseWithTrial 6 = .ok (.iload_n 1, 1) := by decide +kernel
theorem d_Tide_purseWithTrial_7 : decode c_Tide_purseWithTrial 7 = .ok (.aload_n 0, 1) := by decide +kernel
theorem d_Tide_purseWithTrial_8 : decode c_Tide_purseWithTrial 8 = .ok (.getfield 59, 3) := by decide +kernel
theorem d_Tide_purseWithTrial_11 : decode c_Tide_purseWithTrial 11 = .ok (.aload_n 0, 1) := by decide +kernel
theorem d_Tide_purseWithTrial_12 : decode c_Tide_purseWithTrial 12 = .ok (.getfield 54, 3) := by decide +kernel
theorem d_Tide_purseWithTrial_15 : decode c_Tide_purseWithTrial 15 = .ok (.aload_n 0, 1) := by decide +kernel
theorem d_Tide_purseWithTrial_16 : decode c_Tide_purseWithTrial 16 = .ok (.getfield 16, 3) := by decide +kernel
theorem d_Tide_purseWithTrial_19 : decode c_Tide_purseWithTrial 19 = .ok (.getfield 83, 3) := by decide +kernel
theorem d_Tide_purseWithTrial_22 : decode c_Tide_purseWithTrial 22 = .ok (.invokevirtual 214, 3) := by decide +kernel
theorem d_Tide_purseWithTrial_25 : decode c_Tide_purseWithTrial 25 = .ok (.invokestatic 218, 3) := by decide +kernel
theorem d_Tide_purseWithTrial_28 : decode c_Tide_purseWithTrial 28 = .ok (.ireturn, 1) := by decide +kernel
theorem d_Tide_spot_0 : decode c_Tide_spot 0 = .ok (.aload_n 0, 1) := by decide +kernel
theorem d_Tide_spot_1 : decode c_Tide_spot 1 = .ok (.getfield 16, 3) := by decide +kernel
theorem d_Tide_spot_4 : decode c_Tide_spot 4 = .ok (.iload_n 1, 1) := by decide +kernel
theorem d_Tide_spot_5 : decode c_Tide_spot 5 = .ok (.invokevirtual 114, 3) := by decide +kernel
theorem d_Tide_spot_8 : decode c_Tide_spot 8 = .ok (.ifCond .eq 13, 3) := by decide +kernel
theorem d_Tide_spot_11 : decode c_Tide_spot 11 = .ok (.iload_n 2, 1) := by decide +kernel
theorem d_Tide_spot_12 : decode c_Tide_spot 12 = .ok (.iconst 1, 1) := by decide +kernel
theorem d_Tide_spot_13 : decode c_Tide_spot 13 = .ok (.bipush 100, 2) := by decide +kernel
theorem d_Tide_spot_15 : decode c_Tide_spot 15 = .ok (.invokestatic 79, 3) := by decide +kernel
theorem d_Tide_spot_18 : decode c_Tide_spot 18 = .ok (.ifCond .ne 10, 3) := by decide +kernel
theorem d_Tide_spot_21 : decode c_Tide_spot 21 = .ok (.aload_n 0, 1) := by decide +kernel
theorem d_Tide_spot_22 : decode c_Tide_spot 22 = .ok (.ldc 68, 2) := by decide +kernel
theorem d_Tide_spot_24 : decode c_Tide_spot 24 = .ok (.invokevirtual 69, 3) := by decide +kernel
theorem d_Tide_spot_27 : decode c_Tide_spot 27 = .ok (.ireturn, 1) := by decide +kernel
theorem d_Tide_spot_28 : decode c_Tide_spot 28 = .ok (.aload_n 0, 1) := by decide +kernel
theorem d_Tide_spot_29 : decode c_Tide_spot 29 = .ok (.getfield 16, 3) := by decide +kernel
theorem d_Tide_spot_32 : decode c_Tide_spot 32 = .ok (.getfield 117, 3) := by decide +kernel
theorem d_Tide_spot_35 : decode c_Tide_spot 35 = .ok (.iload_n 1, 1) := by decide +kernel
theorem d_Tide_spot_36 : decode c_Tide_spot 36 = .ok (.aaload, 1) := by decide +kernel
theorem d_Tide_spot_37 : decode c_Tide_spot 37 = .ok (.getfield 133, 3) := by decide +kernel
theorem d_Tide_spot_40 : decode c_Tide_spot 40 = .ok (.iconst 2, 1) := by decide +kernel
theorem d_Tide_spot_41 : decode c_Tide_spot 41 = .ok (.if_icmp .ne 10, 3) := by decide +kernel
theorem d_Tide_spot_44 : decode c_Tide_spot 44 = .ok (.aload_n 0, 1) := by decide +kernel
theorem d_Tide_spot_45 : decode c_Tide_spot 45 = .ok (.ldc 150, 2) := by decide +kernel
theorem d_Tide_spot_47 : decode c_Tide_spot 47 = .ok (.invokevirtual 69, 3) := by decide +kernel
theorem d_Tide_spot_50 : decode c_Tide_spot 50 = .ok (.ireturn, 1) := by decide +kernel
theorem d_Tide_spot_51 : decode c_Tide_spot 51 = .ok (.aload_n 0, 1) := by decide +kernel
theorem d_Tide_spot_52 : decode c_Tide_spot 52 = .ok (.iload_n 1, 1) := by decide +kernel
theorem d_Tide_spot_53 : decode c_Tide_spot 53 = .ok (.iload_n 2, 1) := by decide +kernel
theorem d_Tide_spot_54 : decode c_Tide_spot 54 = .ok (.invokevirtual 205, 3) := by decide +kernel
theorem d_Tide_spot_57 : decode c_Tide_spot 57 = .ok (.istore_n 3, 1) := by decide +kernel
theorem d_Tide_spot_58 : decode c_Tide_spot 58 = .ok (.iconst 0, 1) := by decide +kernel
theorem d_Tide_spot_59 : decode c_Tide_spot 59 = .ok (.istore 4, 2) := by decide +kernel
theorem d_Tide_spot_61 : decode c_Tide_spot 61 = .ok (.iconst (-1), 1) := by decide +kernel
theorem d_Tide_spot_62 : decode c_Tide_spot 62 = .ok (.istore 5, 2) := by decide +kernel
theorem d_Tide_spot_64 : decode c_Tide_spot 64 = .ok (.iconst 0, 1) := by decide +kernel
theorem d_Tide_spot_65 : decode c_Tide_spot 65 = .ok (.istore 6, 2) := by decide +kernel
theorem d_Tide_spot_67 : decode c_Tide_spot 67 = .ok (.iload 6, 2) := by decide +kernel
theorem d_Tide_spot_69 : decode c_Tide_spot 69 = .ok (.bipush 16, 2) := by decide +kernel
theorem d_Tide_spot_71 : decode c_Tide_spot 71 = .ok (.if_icmp .ge 42, 3) := by decide +kernel
theorem d_Tide_spot_74 : decode c_Tide_spot 74 = .ok (.aload_n 0, 1) := by decide +kernel
theorem d_Tide_spot_75 : decode c_Tide_spot 75 = .ok (.getfield 54, 3) := by decide +kernel
theorem d_Tide_spot_78 : decode c_Tide_spot 78 = .ok (.iload 6, 2) := by decide +kernel
theorem d_Tide_spot_80 : decode c_Tide_spot 80 = .ok (.invokevirtual 151, 3) := by decide +kernel
theorem d_Tide_spot_83 : decode c_Tide_spot 83 = .ok (.aload_n 0, 1) := by decide +kernel
theorem d_Tide_spot_84 : decode c_Tide_spot 84 = .ok (.iload_n 3, 1) := by decide +kernel
theorem d_Tide_spot_85 : decode c_Tide_spot 85 = .ok (.iconst 0, 1) := by decide +kernel
theorem d_Tide_spot_86 : decode c_Tide_spot 86 = .ok (.iload_n 2, 1) := by decide +kernel
theorem d_Tide_spot_87 : decode c_Tide_spot 87 = .ok (.invokevirtual 208, 3) := by decide +kernel
theorem d_Tide_spot_90 : decode c_Tide_spot 90 = .ok (.istore 7, 2) := by decide +kernel
theorem d_Tide_spot_92 : decode c_Tide_spot 92 = .ok (.iload 7, 2) := by decide +kernel
theorem d_Tide_spot_94 : decode c_Tide_spot 94 = .ok (.iload 5, 2) := by decide +kernel
theorem d_Tide_spot_96 : decode c_Tide_spot 96 = .ok (.if_icmp .le 11, 3) := by decide +kernel
theorem d_Tide_spot_99 : decode c_Tide_spot 99 = .ok (.iload 7, 2) := by decide +kernel
theorem d_Tide_spot_101 : decode c_Tide_spot 101 = .ok (.istore 5, 2) := by decide +kernel
theorem d_Tide_spot_103 : decode c_Tide_spot 103 = .ok (.iload 6, 2) := by decide +kernel
theorem d_Tide_spot_105 : decode c_Tide_spot 105 = .ok (.istore 4, 2) := by decide +kernel
theorem d_Tide_spot_107 : decode c_Tide_spot 107 = .ok (.iinc 6 1, 3) := by decide +kernel
theorem d_Tide_spot_110 : decode c_Tide_spot 110 = .ok (.goto (-43), 3) := by decide +kernel
theorem d_Tide_spot_113 : decode c_Tide_spot 113 = .ok (.iload 4, 2) := by decide +kernel
theorem d_Tide_spot_115 : decode c_Tide_spot 115 = .ok (.ireturn, 1) := by decide +kernel
theorem d_Tide_delay_0 : decode c_Tide_delay 0 = .ok (.aload_n 0, 1) := by decide +kernel
theorem d_Tide_delay_1 : decode c_Tide_delay 1 = .ok (.getfield 16, 3) := by decide +kernel
theorem d_Tide_delay_4 : decode c_Tide_delay 4 = .ok (.iload_n 1, 1) := by decide +kernel
theorem d_Tide_delay_5 : decode c_Tide_delay 5 = .ok (.invokevirtual 114, 3) := by decide +kernel
theorem d_Tide_delay_8 : decode c_Tide_delay 8 = .ok (.ifCond .eq 22, 3) := by decide +kernel
theorem d_Tide_delay_11 : decode c_Tide_delay 11 = .ok (.iload_n 2, 1) := by decide +kernel
theorem d_Tide_delay_12 : decode c_Tide_delay 12 = .ok (.bipush 16, 2) := by decide +kernel
theorem d_Tide_delay_14 : decode c_Tide_delay 14 = .ok (.invokestatic 64, 3) := by decide +kernel
theorem d_Tide_delay_17 : decode c_Tide_delay 17 = .ok (.ifCond .eq 13, 3) := by decide +kernel
theorem d_Tide_delay_20 : decode c_Tide_delay 20 = .ok (.iload_n 3, 1) := by decide +kernel
theorem d_Tide_delay_21 : decode c_Tide_delay 21 = .ok (.iconst 1, 1) := by decide +kernel
theorem d_Tide_delay_22 : decode c_Tide_delay 22 = .ok (.bipush 60, 2) := by decide +kernel
theorem d_Tide_delay_24 : decode c_Tide_delay 24 = .ok (.invokestatic 79, 3) := by decide +kernel
theorem d_Tide_delay_27 : decode c_Tide_delay 27 = .ok (.ifCond .ne 10, 3) := by decide +kernel
theorem d_Tide_delay_30 : decode c_Tide_delay 30 = .ok (.aload_n 0, 1) := by decide +kernel
theorem d_Tide_delay_31 : decode c_Tide_delay 31 = .ok (.ldc 68, 2) := by decide +kernel
theorem d_Tide_delay_33 : decode c_Tide_delay 33 = .ok (.invokevirtual 69, 3) := by decide +kernel
theorem d_Tide_delay_36 : decode c_Tide_delay 36 = .ok (.ireturn, 1) := by decide +kernel
theorem d_Tide_delay_37 : decode c_Tide_delay 37 = .ok (.aload_n 0, 1) := by decide +kernel
theorem d_Tide_delay_38 : decode c_Tide_delay 38 = .ok (.getfield 16, 3) := by decide +kernel
theorem d_Tide_delay_41 : decode c_Tide_delay 41 = .ok (.getfield 117, 3) := by decide +kernel
theorem d_Tide_delay_44 : decode c_Tide_delay 44 = .ok (.iload_n 1, 1) := by decide +kernel
theorem d_Tide_delay_45 : decode c_Tide_delay 45 = .ok (.aaload, 1) := by decide +kernel
theorem d_Tide_delay_46 : decode c_Tide_delay 46 = .ok (.getfield 133, 3) := by decide +kernel
theorem d_Tide_delay_49 : decode c_Tide_delay 49 = .ok (.iconst 2, 1) := by decide +kernel
theorem d_Tide_delay_50 : decode c_Tide_delay 50 = .ok (.if_icmp .ne 10, 3) := by decide +kernel
theorem d_Tide_delay_53 : decode c_Tide_delay 53 = .ok (.aload_n 0, 1) := by decide +kernel
theorem d_Tide_delay_54 : decode c_Tide_delay 54 = .ok (.ldc 150, 2) := by decide +kernel
theorem d_Tide_delay_56 : decode c_Tide_delay 56 = .ok (.invokevirtual 69, 3) := by decide +kernel
theorem d_Tide_delay_59 : decode c_Tide_delay 59 = .ok (.ireturn, 1) := by decide +kernel
theorem d_Tide_delay_60 : decode c_Tide_delay 60 = .ok (.aload_n 0, 1) := by decide +kernel
theorem d_Tide_delay_61 : decode c_Tide_delay 61 = .ok (.iload_n 1, 1) := by decide +kernel
theorem d_Tide_delay_62 : decode c_Tide_delay 62 = .ok (.iload_n 3, 1) := by decide +kernel
theorem d_Tide_delay_63 : decode c_Tide_delay 63 = .ok (.invokevirtual 205, 3) := by decide +kernel
theorem d_Tide_delay_66 : decode c_Tide_delay 66 = .ok (.istore 4, 2) := by decide +kernel
theorem d_Tide_delay_68 : decode c_Tide_delay 68 = .ok (.aload_n 0, 1) := by decide +kernel
theorem d_Tide_delay_69 : decode c_Tide_delay 69 = .ok (.getfield 54, 3) := by decide +kernel
theorem d_Tide_delay_72 : decode c_Tide_delay 72 = .ok (.iload_n 2, 1) := by decide +kernel
theorem d_Tide_delay_73 : decode c_Tide_delay 73 = .ok (.invokevirtual 151, 3) := by decide +kernel
theorem d_Tide_delay_76 : decode c_Tide_delay 76 = .ok (.iconst 0, 1) := by decide +kernel
theorem d_Tide_delay_77 : decode c_Tide_delay 77 = .ok (.istore 5, 2) := by decide +kernel
theorem d_Tide_delay_79 : decode c_Tide_delay 79 = .ok (.iconst (-1), 1) := by decide +kernel
theorem d_Tide_delay_80 : decode c_Tide_delay 80 = .ok (.istore 6, 2) := by decide +kernel
theorem d_Tide_delay_82 : decode c_Tide_delay 82 = .ok (.iconst 0, 1) := by decide +kernel
theorem d_Tide_delay_83 : decode c_Tide_delay 83 = .ok (.istore 7, 2) := by decide +kernel
theorem d_Tide_delay_85 : decode c_Tide_delay 85 = .ok (.iload 7, 2) := by decide +kernel
theorem d_Tide_delay_87 : decode c_Tide_delay 87 = .ok (.iload_n 3, 1) := by decide +kernel
theorem d_Tide_delay_88 : decode c_Tide_delay 88 = .ok (.if_icmp .ge 35, 3) := by decide +kernel
theorem d_Tide_delay_91 : decode c_Tide_delay 91 = .ok (.aload_n 0, 1) := by decide +kernel
theorem d_Tide_delay_92 : decode c_Tide_delay 92 = .ok (.iload 4, 2) := by decide +kernel
theorem d_Tide_delay_94 : decode c_Tide_delay 94 = .ok (.iload 7, 2) := by decide +kernel
theorem d_Tide_delay_96 : decode c_Tide_delay 96 = .ok (.iload_n 3, 1) := by decide +kernel
theorem d_Tide_delay_97 : decode c_Tide_delay 97 = .ok (.invokevirtual 208, 3) := by decide +kernel
theorem d_Tide_delay_100 : decode c_Tide_delay 100 = .ok (.istore 8, 2) := by decide +kernel
theorem d_Tide_delay_102 : decode c_Tide_delay 102 = .ok (.iload 8, 2) := by decide +kernel
theorem d_Tide_delay_104 : decode c_Tide_delay 104 = .ok (.iload 6, 2) := by decide +kernel
theorem d_Tide_delay_106 : decode c_Tide_delay 106 = .ok (.if_icmp .le 11, 3) := by decide +kernel
theorem d_Tide_delay_109 : decode c_Tide_delay 109 = .ok (.iload 8, 2) := by decide +kernel
theorem d_Tide_delay_111 : decode c_Tide_delay 111 = .ok (.istore 6, 2) := by decide +kernel
theorem d_Tide_delay_113 : decode c_Tide_delay 113 = .ok (.iload 7, 2) := by decide +kernel
theorem d_Tide_delay_115 : decode c_Tide_delay 115 = .ok (.istore 5, 2) := by decide +kernel
theorem d_Tide_delay_117 : decode c_Tide_delay 117 = .ok (.iinc 7 1, 3) := by decide +kernel
theorem d_Tide_delay_120 : decode c_Tide_delay 120 = .ok (.goto (-35), 3) := by decide +kernel
theorem d_Tide_delay_123 : decode c_Tide_delay 123 = .ok (.iload 5, 2) := by decide +kernel
theorem d_Tide_delay_125 : decode c_Tide_delay 125 = .ok (.ireturn, 1) := by decide +kernel
theorem d_Tide_kind_0 : decode c_Tide_kind 0 = .ok (.aload_n 0, 1) := by decide +kernel
theorem d_Tide_kind_1 : decode c_Tide_kind 1 = .ok (.getfield 16, 3) := by decide +kernel
theorem d_Tide_kind_4 : decode c_Tide_kind 4 = .ok (.iload_n 1, 1) := by decide +kernel
theorem d_Tide_kind_5 : decode c_Tide_kind 5 = .ok (.invokevirtual 114, 3) := by decide +kernel
theorem d_Tide_kind_8 : decode c_Tide_kind 8 = .ok (.ifCond .eq 13, 3) := by decide +kernel
theorem d_Tide_kind_11 : decode c_Tide_kind 11 = .ok (.iload_n 2, 1) := by decide +kernel
theorem d_Tide_kind_12 : decode c_Tide_kind 12 = .ok (.iconst 1, 1) := by decide +kernel
theorem d_Tide_kind_13 : decode c_Tide_kind 13 = .ok (.bipush 100, 2) := by decide +kernel
theorem d_Tide_kind_15 : decode c_Tide_kind 15 = .ok (.invokestatic 79, 3) := by decide +kernel
theorem d_Tide_kind_18 : decode c_Tide_kind 18 = .ok (.ifCond .ne 10, 3) := by decide +kernel
theorem d_Tide_kind_21 : decode c_Tide_kind 21 = .ok (.aload_n 0, 1) := by decide +kernel
theorem d_Tide_kind_22 : decode c_Tide_kind 22 = .ok (.ldc 68, 2) := by decide +kernel
theorem d_Tide_kind_24 : decode c_Tide_kind 24 = .ok (.invokevirtual 69, 3) := by decide +kernel
theorem d_Tide_kind_27 : decode c_Tide_kind 27 = .ok (.ireturn, 1) := by decide +kernel
theorem d_Tide_kind_28 : decode c_Tide_kind 28 = .ok (.aload_n 0, 1) := by decide +kernel
theorem d_Tide_kind_29 : decode c_Tide_kind 29 = .ok (.iload_n 1, 1) := by decide +kernel
theorem d_Tide_kind_30 : decode c_Tide_kind 30 = .ok (.iload_n 2, 1) := by decide +kernel
theorem d_Tide_kind_31 : decode c_Tide_kind 31 = .ok (.invokevirtual 205, 3) := by decide +kernel
theorem d_Tide_kind_34 : decode c_Tide_kind 34 = .ok (.istore_n 3, 1) := by decide +kernel
theorem d_Tide_kind_35 : decode c_Tide_kind 35 = .ok (.iconst 0, 1) := by decide +kernel
theorem d_Tide_kind_36 : decode c_Tide_kind 36 = .ok (.istore 4, 2) := by decide +kernel
theorem d_Tide_kind_38 : decode c_Tide_kind 38 = .ok (.iconst (-1), 1) := by decide +kernel
theorem d_Tide_kind_39 : decode c_Tide_kind 39 = .ok (.istore 5, 2) := by decide +kernel
theorem d_Tide_kind_41 : decode c_Tide_kind 41 = .ok (.iconst 0, 1) := by decide +kernel
theorem d_Tide_kind_42 : decode c_Tide_kind 42 = .ok (.istore 6, 2) := by decide +kernel
theorem d_Tide_kind_44 : decode c_Tide_kind 44 = .ok (.iload 6, 2) := by decide +kernel
theorem d_Tide_kind_46 : decode c_Tide_kind 46 = .ok (.bipush 6, 2) := by decide +kernel
theorem d_Tide_kind_48 : decode c_Tide_kind 48 = .ok (.if_icmp .ge 42, 3) := by decide +kernel
theorem d_Tide_kind_51 : decode c_Tide_kind 51 = .ok (.aload_n 0, 1) := by decide +kernel
theorem d_Tide_kind_52 : decode c_Tide_kind 52 = .ok (.getfield 54, 3) := by decide +kernel
theorem d_Tide_kind_55 : decode c_Tide_kind 55 = .ok (.iload 6, 2) := by decide +kernel
theorem d_Tide_kind_57 : decode c_Tide_kind 57 = .ok (.putfield 121, 3) := by decide +kernel
theorem d_Tide_kind_60 : decode c_Tide_kind 60 = .ok (.aload_n 0, 1) := by decide +kernel
theorem d_Tide_kind_61 : decode c_Tide_kind 61 = .ok (.iload_n 3, 1) := by decide +kernel
theorem d_Tide_kind_62 : decode c_Tide_kind 62 = .ok (.iconst 0, 1) := by decide +kernel
theorem d_Tide_kind_63 : decode c_Tide_kind 63 = .ok (.iload_n 2, 1) := by decide +kernel
theorem d_Tide_kind_64 : decode c_Tide_kind 64 = .ok (.invokevirtual 208, 3) := by decide +kernel
theorem d_Tide_kind_67 : decode c_Tide_kind 67 = .ok (.istore 7, 2) := by decide +kernel
theorem d_Tide_kind_69 : decode c_Tide_kind 69 = .ok (.iload 7, 2) := by decide +kernel
theorem d_Tide_kind_71 : decode c_Tide_kind 71 = .ok (.iload 5, 2) := by decide +kernel
theorem d_Tide_kind_73 : decode c_Tide_kind 73 = .ok (.if_icmp .le 11, 3) := by decide +kernel
theorem d_Tide_kind_76 : decode c_Tide_kind 76 = .ok (.iload 7, 2) := by decide +kernel
theorem d_Tide_kind_78 : decode c_Tide_kind 78 = .ok (.istore 5, 2) := by decide +kernel
theorem d_Tide_kind_80 : decode c_Tide_kind 80 = .ok (.iload 6, 2) := by decide +kernel
theorem d_Tide_kind_82 : decode c_Tide_kind 82 = .ok (.istore 4, 2) := by decide +kernel
theorem d_Tide_kind_84 : decode c_Tide_kind 84 = .ok (.iinc 6 1, 3) := by decide +kernel
theorem d_Tide_kind_87 : decode c_Tide_kind 87 = .ok (.goto (-43), 3) := by decide +kernel
theorem d_Tide_kind_90 : decode c_Tide_kind 90 = .ok (.iload 4, 2) := by decide +kernel
theorem d_Tide_kind_92 : decode c_Tide_kind 92 = .ok (.ireturn, 1) := by decide +kernel
theorem d_Tide_worth_0 : decode c_Tide_worth 0 = .ok (.aload_n 0, 1) := by decide +kernel
theorem d_Tide_worth_1 : decode c_Tide_worth 1 = .ok (.getfield 16, 3) := by decide +kernel
theorem d_Tide_worth_4 : decode c_Tide_worth 4 = .ok (.iload_n 1, 1) := by decide +kernel
theorem d_Tide_worth_5 : decode c_Tide_worth 5 = .ok (.invokevirtual 114, 3) := by decide +kernel
theorem d_Tide_worth_8 : decode c_Tide_worth 8 = .ok (.ifCond .eq 23, 3) := by decide +kernel
theorem d_Tide_worth_11 : decode c_Tide_worth 11 = .ok (.iload_n 2, 1) := by decide +kernel
theorem d_Tide_worth_12 : decode c_Tide_worth 12 = .ok (.iconst 1, 1) := by decide +kernel
theorem d_Tide_worth_13 : decode c_Tide_worth 13 = .ok (.bipush 40, 2) := by decide +kernel
theorem d_Tide_worth_15 : decode c_Tide_worth 15 = .ok (.invokestatic 79, 3) := by decide +kernel
theorem d_Tide_worth_18 : decode c_Tide_worth 18 = .ok (.ifCond .eq 13, 3) := by decide +kernel
theorem d_Tide_worth_21 : decode c_Tide_worth 21 = .ok (.iload_n 3, 1) := by decide +kernel
theorem d_Tide_worth_22 : decode c_Tide_worth 22 = .ok (.iconst 0, 1) := by decide +kernel
theorem d_Tide_worth_23 : decode c_Tide_worth 23 = .ok (.ldc 101, 2) := by decide +kernel
theorem d_Tide_worth_25 : decode c_Tide_worth 25 = .ok (.invokestatic 79, 3) := by decide +kernel
theorem d_Tide_worth_28 : decode c_Tide_worth 28 = .ok (.ifCond .ne 10, 3) := by decide +kernel
theorem d_Tide_worth_31 : decode c_Tide_worth 31 = .ok (.aload_n 0, 1) := by decide +kernel
theorem d_Tide_worth_32 : decode c_Tide_worth 32 = .ok (.ldc 68, 2) := by decide +kernel
theorem d_Tide_worth_34 : decode c_Tide_worth 34 = .ok (.invokevirtual 69, 3) := by decide +kernel
theorem d_Tide_worth_37 : decode c_Tide_worth 37 = .ok (.ireturn, 1) := by decide +kernel
theorem d_Tide_worth_38 : decode c_Tide_worth 38 = .ok (.aload_n 0, 1) := by decide +kernel
theorem d_Tide_worth_39 : decode c_Tide_worth 39 = .ok (.iload_n 1, 1) := by decide +kernel
theorem d_Tide_worth_40 : decode c_Tide_worth 40 = .ok (.iload_n 2, 1) := by decide +kernel
theorem d_Tide_worth_41 : decode c_Tide_worth 41 = .ok (.invokevirtual 205, 3) := by decide +kernel
theorem d_Tide_worth_44 : decode c_Tide_worth 44 = .ok (.istore 4, 2) := by decide +kernel
theorem d_Tide_worth_46 : decode c_Tide_worth 46 = .ok (.aload_n 0, 1) := by decide +kernel
theorem d_Tide_worth_47 : decode c_Tide_worth 47 = .ok (.iconst 0, 1) := by decide +kernel
theorem d_Tide_worth_48 : decode c_Tide_worth 48 = .ok (.iload_n 2, 1) := by decide +kernel
theorem d_Tide_worth_49 : decode c_Tide_worth 49 = .ok (.invokevirtual 211, 3) := by decide +kernel
theorem d_Tide_worth_52 : decode c_Tide_worth 52 = .ok (.iconst 0, 1) := by decide +kernel
theorem d_Tide_worth_53 : decode c_Tide_worth 53 = .ok (.istore 5, 2) := by decide +kernel
theorem d_Tide_worth_55 : decode c_Tide_worth 55 = .ok (.iload 5, 2) := by decide +kernel
theorem d_Tide_worth_57 : decode c_Tide_worth 57 = .ok (.sipush 999, 3) := by decide +kernel
theorem d_Tide_worth_60 : decode c_Tide_worth 60 = .ok (.if_icmp .gt 48, 3) := by decide +kernel
theorem d_Tide_worth_63 : decode c_Tide_worth 63 = .ok (.aload_n 0, 1) := by decide +kernel
theorem d_Tide_worth_64 : decode c_Tide_worth 64 = .ok (.getfield 54, 3) := by decide +kernel
theorem d_Tide_worth_67 : decode c_Tide_worth 67 = .ok (.iload 5, 2) := by decide +kernel
theorem d_Tide_worth_69 : decode c_Tide_worth 69 = .ok (.putfield 130, 3) := by decide +kernel
theorem d_Tide_worth_72 : decode c_Tide_worth 72 = .ok (.iload 4, 2) := by decide +kernel
theorem d_Tide_worth_74 : decode c_Tide_worth 74 = .ok (.aload_n 0, 1) := by decide +kernel
theorem d_Tide_worth_75 : decode c_Tide_worth 75 = .ok (.getfield 59, 3) := by decide +kernel
theorem d_Tide_worth_78 : decode c_Tide_worth 78 = .ok (.aload_n 0, 1) := by decide +kernel
theorem d_Tide_worth_79 : decode c_Tide_worth 79 = .ok (.getfield 54, 3) := by decide +kernel
theorem d_Tide_worth_82 : decode c_Tide_worth 82 = .ok (.aload_n 0, 1) := by decide +kernel
theorem d_Tide_worth_83 : decode c_Tide_worth 83 = .ok (.getfield 16, 3) := by decide +kernel
theorem d_Tide_worth_86 : decode c_Tide_worth 86 = .ok (.getfield 83, 3) := by decide +kernel
theorem d_Tide_worth_89 : decode c_Tide_worth 89 = .ok (.invokevirtual 214, 3) := by decide +kernel
theorem d_Tide_worth_92 : decode c_Tide_worth 92 = .ok (.invokestatic 218, 3) := by decide +kernel
theorem d_Tide_worth_95 : decode c_Tide_worth 95 = .ok (.iload_n 3, 1) := by decide +kernel
theorem d_Tide_worth_96 : decode c_Tide_worth 96 = .ok (.if_icmp .lt 6, 3) := by decide +kernel
theorem d_Tide_worth_99 : decode c_Tide_worth 99 = .ok (.iload 5, 2) := by decide +kernel
theorem d_Tide_worth_101 : decode c_Tide_worth 101 = .ok (.ireturn, 1) := by decide +kernel
theorem d_Tide_worth_102 : decode c_Tide_worth 102 = .ok (.iinc 5 1, 3) := by decide +kernel
theorem d_Tide_worth_105 : decode c_Tide_worth 105 = .ok (.goto (-50), 3) := by decide +kernel
theorem d_Tide_worth_108 : decode c_Tide_worth 108 = .ok (.aload_n 0, 1) := by decide +kernel
theorem d_Tide_worth_109 : decode c_Tide_worth 109 = .ok (.ldc 198, 2) := by decide +kernel
theorem d_Tide_worth_111 : decode c_Tide_worth 111 = .ok (.invokevirtual 69, 3) := by decide +kernel
theorem d_Tide_worth_114 : decode c_Tide_worth 114 = .ok (.ireturn, 1) := by decide +kernel
theorem d_Tide_richest_0 : decode c_Tide_richest 0 = .ok (.iload_n 1, 1) := by decide +kernel
theorem d_Tide_richest_1 : decode c_Tide_richest 1 = .ok (.iconst 0, 1) := by decide +kernel
theorem d_Tide_richest_2 : decode c_Tide_richest 2 = .ok (.sipush 400, 3) := by decide +kernel
theorem d_Tide_richest_5 : decode c_Tide_richest 5 = .ok (.invokestatic 79, 3) := by decide +kernel
theorem d_Tide_richest_8 : decode c_Tide_richest 8 = .ok (.ifCond .ne 10, 3) := by decide +kernel
theorem d_Tide_richest_11 : decode c_Tide_richest 11 = .ok (.aload_n 0, 1) := by decide +kernel
theorem d_Tide_richest_12 : decode c_Tide_richest 12 = .ok (.ldc 68, 2) := by decide +kernel
theorem d_Tide_richest_14 : decode c_Tide_richest 14 = .ok (.invokevirtual 69, 3) := by decide +kernel
theorem d_Tide_richest_17 : decode c_Tide_richest 17 = .ok (.ireturn, 1) := by decide +kernel
theorem d_Tide_richest_18 : decode c_Tide_richest 18 = .ok (.aload_n 0, 1) := by decide +kernel
theorem d_Tide_richest_19 : decode c_Tide_richest 19 = .ok (.iload_n 1, 1) := by decide +kernel
theorem d_Tide_richest_20 : decode c_Tide_richest 20 = .ok (.invokevirtual 163, 3) := by decide +kernel
theorem d_Tide_richest_23 : decode c_Tide_richest 23 = .ok (.iconst 0, 1) := by decide +kernel
theorem d_Tide_richest_24 : decode c_Tide_richest 24 = .ok (.istore_n 2, 1) := by decide +kernel
theorem d_Tide_richest_25 : decode c_Tide_richest 25 = .ok (.iconst (-1), 1) := by decide +kernel
theorem d_Tide_richest_26 : decode c_Tide_richest 26 = .ok (.istore_n 3, 1) := by decide +kernel
theorem d_Tide_richest_27 : decode c_Tide_richest 27 = .ok (.iconst 0, 1) := by decide +kernel
theorem d_Tide_richest_28 : decode c_Tide_richest 28 = .ok (.istore 4, 2) := by decide +kernel
theorem d_Tide_richest_30 : decode c_Tide_richest 30 = .ok (.iload 4, 2) := by decide +kernel
theorem d_Tide_richest_32 : decode c_Tide_richest 32 = .ok (.iconst 4, 1) := by decide +kernel
theorem d_Tide_richest_33 : decode c_Tide_richest 33 = .ok (.if_icmp .ge 37, 3) := by decide +kernel
theorem d_Tide_richest_36 : decode c_Tide_richest 36 = .ok (.aload_n 0, 1) := by decide +kernel
theorem d_Tide_richest_37 : decode c_Tide_richest 37 = .ok (.iload 4, 2) := by decide +kernel
theorem d_Tide_richest_39 : decode c_Tide_richest 39 = .ok (.aload_n 0, 1) := by decide +kernel
theorem d_Tide_richest_40 : decode c_Tide_richest 40 = .ok (.getfield 16, 3) := by decide +kernel
theorem d_Tide_richest_43 : decode c_Tide_richest 43 = .ok (.getfield 83, 3) := by decide +kernel
theorem d_Tide_richest_46 : decode c_Tide_richest 46 = .ok (.iconst (-1), 1) := by decide +kernel
theorem d_Tide_richest_47 : decode c_Tide_richest 47 = .ok (.invokevirtual 187, 3) := by decide +kernel
theorem d_Tide_richest_50 : decode c_Tide_richest 50 = .ok (.istore 5, 2) := by decide +kernel
theorem d_Tide_richest_52 : decode c_Tide_richest 52 = .ok (.iload 5, 2) := by decide +kernel
theorem d_Tide_richest_54 : decode c_Tide_richest 54 = .ok (.iload_n 3, 1) := by decide +kernel
theorem d_Tide_richest_55 : decode c_Tide_richest 55 = .ok (.if_icmp .le 9, 3) := by decide +kernel
theorem d_Tide_richest_58 : decode c_Tide_richest 58 = .ok (.iload 5, 2) := by decide +kernel
theorem d_Tide_richest_60 : decode c_Tide_richest 60 = .ok (.istore_n 3, 1) := by decide +kernel
theorem d_Tide_richest_61 : decode c_Tide_richest 61 = .ok (.iload 4, 2) := by decide +kernel
theorem d_Tide_richest_63 : decode c_Tide_richest 63 = .ok (.istore_n 2, 1) := by decide +kernel
theorem d_Tide_richest_64 : decode c_Tide_richest 64 = .ok (.iinc 4 1, 3) := by decide +kernel
theorem d_Tide_richest_67 : decode c_Tide_richest 67 = .ok (.goto (-37), 3) := by decide +kernel
theorem d_Tide_richest_70 : decode c_Tide_richest 70 = .ok (.iload_n 2, 1) := by decide +kernel
theorem d_Tide_richest_71 : decode c_Tide_richest 71 = .ok (.ireturn, 1) := by decide +kernel
theorem d_Tide_shareOut_0 : decode c_Tide_shareOut 0 = .ok (.iconst 0, 1) := by decide +kernel
theorem d_Tide_shareOut_1 : decode c_Tide_shareOut 1 = .ok (.istore_n 2, 1) := by decide +kernel
theorem d_Tide_shareOut_2 : decode c_Tide_shareOut 2 = .ok (.iconst 0, 1) := by decide +kernel
theorem d_Tide_shareOut_3 : decode c_Tide_shareOut 3 = .ok (.istore_n 3, 1) := by decide +kernel
theorem d_Tide_shareOut_4 : decode c_Tide_shareOut 4 = .ok (.iload_n 3, 1) := by decide +kernel
theorem d_Tide_shareOut_5 : decode c_Tide_shareOut 5 = .ok (.aload_n 0, 1) := by decide +kernel
theorem d_Tide_shareOut_6 : decode c_Tide_shareOut 6 = .ok (.getfield 16, 3) := by decide +kernel
theorem d_Tide_shareOut_9 : decode c_Tide_shareOut 9 = .ok (.getfield 166, 3) := by decide +kernel
theorem d_Tide_shareOut_12 : decode c_Tide_shareOut 12 = .ok (.if_icmp .ge 93, 3) := by decide +kernel
theorem d_Tide_shareOut_15 : decode c_Tide_shareOut 15 = .ok (.aload_n 0, 1) := by decide +kernel
theorem d_Tide_shareOut_16 : decode c_Tide_shareOut 16 = .ok (.getfield 16, 3) := by decide +kernel
theorem d_Tide_shareOut_19 : decode c_Tide_shareOut 19 = .ok (.getfield 117, 3) := by decide +kernel
theorem d_Tide_shareOut_22 : decode c_Tide_shareOut 22 = .ok (.iload_n 3, 1) := by decide +kernel
theorem d_Tide_shareOut_23 : decode c_Tide_shareOut 23 = .ok (.aaload, 1) := by decide +kernel
theorem d_Tide_shareOut_24 : decode c_Tide_shareOut 24 = .ok (.astore 4, 2) := by decide +kernel
theorem d_Tide_shareOut_26 : decode c_Tide_shareOut 26 = .ok (.aload 4, 2) := by decide +kernel
theorem d_Tide_shareOut_28 : decode c_Tide_shareOut 28 = .ok (.getfield 124, 3) := by decide +kernel
theorem d_Tide_shareOut_31 : decode c_Tide_shareOut 31 = .ok (.iload_n 1, 1) := by decide +kernel
theorem d_Tide_shareOut_32 : decode c_Tide_shareOut 32 = .ok (.if_icmp .ne 16, 3) := by decide +kernel
theorem d_Tide_shareOut_35 : decode c_Tide_shareOut 35 = .ok (.aload 4, 2) := by decide +kernel
theorem d_Tide_shareOut_37 : decode c_Tide_shareOut 37 = .ok (.getfield 133, 3) := by decide +kernel
theorem d_Tide_shareOut_40 : decode c_Tide_shareOut 40 = .ok (.iconst 1, 1) := by decide +kernel
theorem d_Tide_shareOut_41 : decode c_Tide_shareOut 41 = .ok (.if_icmp .ne 7, 3) := by decide +kernel
theorem d_Tide_shareOut_44 : decode c_Tide_shareOut 44 = .ok (.iconst 1, 1) := by decide +kernel
theorem d_Tide_shareOut_45 : decode c_Tide_shareOut 45 = .ok (.goto 4, 3) := by decide +kernel
theorem d_Tide_shareOut_48 : decode c_Tide_shareOut 48 = .ok (.iconst 0, 1) := by decide +kernel
theorem d_Tide_shareOut_49 : decode c_Tide_shareOut 49 = .ok (.istore 5, 2) := by decide +kernel
theorem d_Tide_shareOut_51 : decode c_Tide_shareOut 51 = .ok (.aload_n 0, 1) := by decide +kernel
theorem d_Tide_shareOut_52 : decode c_Tide_shareOut 52 = .ok (.getfield 45, 3) := by decide +kernel
theorem d_Tide_shareOut_55 : decode c_Tide_shareOut 55 = .ok (.iload_n 3, 1) := by decide +kernel
theorem d_Tide_shareOut_56 : decode c_Tide_shareOut 56 = .ok (.iload 5, 2) := by decide +kernel
theorem d_Tide_shareOut_58 : decode c_Tide_shareOut 58 = .ok (.ifCond .eq 24, 3) := by decide +kernel
theorem d_Tide_shareOut_61 : decode c_Tide_shareOut 61 = .ok (.aload_n 0, 1) := by decide +kernel
theorem d_Tide_shareOut_62 : decode c_Tide_shareOut 62 = .ok (.getfield 41, 3) := by decide +kernel
theorem d_Tide_shareOut_65 : decode c_Tide_shareOut 65 = .ok (.iload_n 3, 1) := by decide +kernel
theorem d_Tide_shareOut_66 : decode c_Tide_shareOut 66 = .ok (.aaload, 1) := by decide +kernel
theorem d_Tide_shareOut_67 : decode c_Tide_shareOut 67 = .ok (.aload 4, 2) := by decide +kernel
theorem d_Tide_shareOut_69 : decode c_Tide_shareOut 69 = .ok (.aload_n 0, 1) := by decide +kernel
theorem d_Tide_shareOut_70 : decode c_Tide_shareOut 70 = .ok (.getfield 16, 3) := by decide +kernel
theorem d_Tide_shareOut_73 : decode c_Tide_shareOut 73 = .ok (.getfield 83, 3) := by decide +kernel
theorem d_Tide_shareOut_76 : decode c_Tide_shareOut 76 = .ok (.invokevirtual 214, 3) := by decide +kernel
theorem d_Tide_shareOut_79 : decode c_Tide_shareOut 79 = .ok (.goto 4, 3) := by decide +kernel
theorem d_Tide_shareOut_82 : decode c_Tide_shareOut 82 = .ok (.iconst 0, 1) := by decide +kernel
theorem d_Tide_shareOut_83 : decode c_Tide_shareOut 83 = .ok (.iastore, 1) := by decide +kernel
theorem d_Tide_shareOut_84 : decode c_Tide_shareOut 84 = .ok (.aload_n 0, 1) := by decide +kernel
theorem d_Tide_shareOut_85 : decode c_Tide_shareOut 85 = .ok (.getfield 45, 3) := by decide +kernel
theorem d_Tide_shareOut_88 : decode c_Tide_shareOut 88 = .ok (.iload_n 3, 1) := by decide +kernel
theorem d_Tide_shareOut_89 : decode c_Tide_shareOut 89 = .ok (.iaload, 1) := by decide +kernel
theorem d_Tide_shareOut_90 : decode c_Tide_shareOut 90 = .ok (.ifCond .le 9, 3) := by decide +kernel
theorem d_Tide_shareOut_93 : decode c_Tide_shareOut 93 = .ok (.iload_n 2, 1) := by decide +kernel
theorem d_Tide_shareOut_94 : decode c_Tide_shareOut 94 = .ok (.iconst 1, 1) := by decide +kernel
theorem d_Tide_shareOut_95 : decode c_Tide_shareOut 95 = .ok (.iload_n 3, 1) := by decide +kernel
theorem d_Tide_shareOut_96 : decode c_Tide_shareOut 96 = .ok (.ishl, 1) := by decide +kernel
theorem d_Tide_shareOut_97 : decode c_Tide_shareOut 97 = .ok (.ior, 1) := by decide +kernel
theorem d_Tide_shareOut_98 : decode c_Tide_shareOut 98 = .ok (.istore_n 2, 1) := by decide +kernel
theorem d_Tide_shareOut_99 : decode c_Tide_shareOut 99 = .ok (.iinc 3 1, 3) := by decide +kernel
theorem d_Tide_shareOut_102 : decode c_Tide_shareOut 102 = .ok (.goto (-98), 3) := by decide +kernel
theorem d_Tide_shareOut_105 : decode c_Tide_shareOut 105 = .ok (.iload_n 2, 1) := by decide +kernel
theorem d_Tide_shareOut_106 : decode c_Tide_shareOut 106 = .ok (.ireturn, 1) := by decide +kernel
theorem d_Tide_sureThen_0 : decode c_Tide_sureThen 0 = .ok (.aload_n 0, 1) := by decide +kernel
theorem d_Tide_sureThen_1 : decode c_Tide_sureThen 1 = .ok (.getfield 16, 3) := by decide +kernel
theorem d_Tide_sureThen_4 : decode c_Tide_sureThen 4 = .ok (.getfield 102, 3) := by decide +kernel
theorem d_Tide_sureThen_7 : decode c_Tide_sureThen 7 = .ok (.iload_n 1, 1) := by decide +kernel
theorem d_Tide_sureThen_8 : decode c_Tide_sureThen 8 = .ok (.iaload, 1) := by decide +kernel
theorem d_Tide_sureThen_9 : decode c_Tide_sureThen 9 = .ok (.istore_n 2, 1) := by decide +kernel
theorem d_Tide_sureThen_10 : decode c_Tide_sureThen 10 = .ok (.iconst 0, 1) := by decide +kernel
theorem d_Tide_sureThen_11 : decode c_Tide_sureThen 11 = .ok (.istore_n 3, 1) := by decide +kernel
theorem d_Tide_sureThen_12 : decode c_Tide_sureThen 12 = .ok (.iload_n 3, 1) := by decide +kernel
theorem d_Tide_sureThen_13 : decode c_Tide_sureThen 13 = .ok (.aload_n 0, 1) := by decide +kernel
theorem d_Tide_sureThen_14 : decode c_Tide_sureThen 14 = .ok (.getfield 16, 3) := by decide +kernel
theorem d_Tide_sureThen_17 : decode c_Tide_sureThen 17 = .ok (.getfield 166, 3) := by decide +kernel
theorem d_Tide_sureThen_20 : decode c_Tide_sureThen 20 = .ok (.if_icmp .ge 61, 3) := by decide +kernel
theorem d_Tide_sureThen_23 : decode c_Tide_sureThen 23 = .ok (.aload_n 0, 1) := by decide +kernel
theorem d_Tide_sureThen_24 : decode c_Tide_sureThen 24 = .ok (.getfield 16, 3) := by decide +kernel
theorem d_Tide_sureThen_27 : decode c_Tide_sureThen 27 = .ok (.getfield 117, 3) := by decide +kernel
theorem d_Tide_sureThen_30 : decode c_Tide_sureThen 30 = .ok (.iload_n 3, 1) := by decide +kernel
theorem d_Tide_sureThen_31 : decode c_Tide_sureThen 31 = .ok (.aaload, 1) := by decide +kernel
theorem d_Tide_sureThen_32 : decode c_Tide_sureThen 32 = .ok (.astore 4, 2) := by decide +kernel
theorem d_Tide_sureThen_34 : decode c_Tide_sureThen 34 = .ok (.aload 4, 2) := by decide +kernel
theorem d_Tide_sureThen_36 : decode c_Tide_sureThen 36 = .ok (.getfield 124, 3) := by decide +kernel
theorem d_Tide_sureThen_39 : decode c_Tide_sureThen 39 = .ok (.iload_n 1, 1) := by decide +kernel
theorem d_Tide_sureThen_40 : decode c_Tide_sureThen 40 = .ok (.if_icmp .ne 35, 3) := by decide +kernel
theorem d_Tide_sureThen_43 : decode c_Tide_sureThen 43 = .ok (.aload 4, 2) := by decide +kernel
theorem d_Tide_sureThen_45 : decode c_Tide_sureThen 45 = .ok (.getfield 133, 3) := by decide +kernel
theorem d_Tide_sureThen_48 : decode c_Tide_sureThen 48 = .ok (.iconst 2, 1) := by decide +kernel
theorem d_Tide_sureThen_49 : decode c_Tide_sureThen 49 = .ok (.if_icmp .ne 26, 3) := by decide +kernel
theorem d_Tide_sureThen_52 : decode c_Tide_sureThen 52 = .ok (.iload_n 2, 1) := by decide +kernel
theorem d_Tide_sureThen_53 : decode c_Tide_sureThen 53 = .ok (.aload_n 0, 1) := by decide +kernel
theorem d_Tide_sureThen_54 : decode c_Tide_sureThen 54 = .ok (.getfield 41, 3) := by decide +kernel
theorem d_Tide_sureThen_57 : decode c_Tide_sureThen 57 = .ok (.iload_n 3, 1) := by decide +kernel
theorem d_Tide_sureThen_58 : decode c_Tide_sureThen 58 = .ok (.aaload, 1) := by decide +kernel
theorem d_Tide_sureThen_59 : decode c_Tide_sureThen 59 = .ok (.aload 4, 2) := by decide +kernel
theorem d_Tide_sureThen_61 : decode c_Tide_sureThen 61 = .ok (.aload_n 0, 1) := by decide +kernel
theorem d_Tide_sureThen_62 : decode c_Tide_sureThen 62 = .ok (.getfield 16, 3) := by decide +kernel
theorem d_Tide_sureThen_65 : decode c_Tide_sureThen 65 = .ok (.getfield 83, 3) := by decide +kernel
theorem d_Tide_sureThen_68 : decode c_Tide_sureThen 68 = .ok (.invokevirtual 214, 3) := by decide +kernel
theorem d_Tide_sureThen_71 : decode c_Tide_sureThen 71 = .ok (.invokestatic 218, 3) := by decide +kernel
theorem d_Tide_sureThen_74 : decode c_Tide_sureThen 74 = .ok (.istore_n 2, 1) := by decide +kernel
theorem d_Tide_sureThen_75 : decode c_Tide_sureThen 75 = .ok (.iinc 3 1, 3) := by decide +kernel
theorem d_Tide_sureThen_78 : decode c_Tide_sureThen 78 = .ok (.goto (-66), 3) := by decide +kernel
theorem d_Tide_sureThen_81 : decode c_Tide_sureThen 81 = .ok (.iload_n 2, 1) := by decide +kernel
theorem d_Tide_sureThen_82 : decode c_Tide_sureThen 82 = .ok (.ireturn, 1) := by decide +kernel
theorem d_Tide_sharesOf_0 : decode c_Tide_sharesOf 0 = .ok (.iconst 0, 1) := by decide +kernel
theorem d_Tide_sharesOf_1 : decode c_Tide_sharesOf 1 = .ok (.istore_n 2, 1) := by decide +kernel
theorem d_Tide_sharesOf_2 : decode c_Tide_sharesOf 2 = .ok (.iconst 0, 1) := by decide +kernel
theorem d_Tide_sharesOf_3 : decode c_Tide_sharesOf 3 = .ok (.istore_n 3, 1) := by decide +kernel
theorem d_Tide_sharesOf_4 : decode c_Tide_sharesOf 4 = .ok (.iload_n 3, 1) := by decide +kernel
theorem d_Tide_sharesOf_5 : decode c_Tide_sharesOf 5 = .ok (.bipush 10, 2) := by decide +kernel
theorem d_Tide_sharesOf_7 : decode c_Tide_sharesOf 7 = .ok (.if_icmp .ge 27, 3) := by decide +kernel
theorem d_Tide_sharesOf_10 : decode c_Tide_sharesOf 10 = .ok (.iload_n 1, 1) := by decide +kernel
theorem d_Tide_sharesOf_11 : decode c_Tide_sharesOf 11 = .ok (.iload_n 3, 1) := by decide +kernel
theorem d_Tide_sharesOf_12 : decode c_Tide_sharesOf 12 = .ok (.ishr, 1) := by decide +kernel
theorem d_Tide_sharesOf_13 : decode c_Tide_sharesOf 13 = .ok (.iconst 1, 1) := by decide +kernel
theorem d_Tide_sharesOf_14 : decode c_Tide_sharesOf 14 = .ok (.iand, 1) := by decide +kernel
theorem d_Tide_sharesOf_15 : decode c_Tide_sharesOf 15 = .ok (.iconst 1, 1) := by decide +kernel
theorem d_Tide_sharesOf_16 : decode c_Tide_sharesOf 16 = .ok (.if_icmp .ne 12, 3) := by decide +kernel
theorem d_Tide_sharesOf_19 : decode c_Tide_sharesOf 19 = .ok (.iload_n 2, 1) := by decide +kernel
theorem d_Tide_sharesOf_20 : decode c_Tide_sharesOf 20 = .ok (.aload_n 0, 1) := by decide +kernel
theorem d_Tide_sharesOf_21 : decode c_Tide_sharesOf 21 = .ok (.getfield 45, 3) := by decide +kernel
theorem d_Tide_sharesOf_24 : decode c_Tide_sharesOf 24 = .ok (.iload_n 3, 1) := by decide +kernel
theorem d_Tide_sharesOf_25 : decode c_Tide_sharesOf 25 = .ok (.iaload, 1) := by decide +kernel
theorem d_Tide_sharesOf_26 : decode c_Tide_sharesOf 26 = .ok (.iadd, 1) := by decide +kernel
theorem d_Tide_sharesOf_27 : decode c_Tide_sharesOf 27 = .ok (.istore_n 2, 1) := by decide +kernel
theorem d_Tide_sharesOf_28 : decode c_Tide_sharesOf 28 = .ok (.iinc 3 1, 3) := by decide +kernel
theorem d_Tide_sharesOf_31 : decode c_Tide_sharesOf 31 = .ok (.goto (-27), 3) := by decide +kernel
theorem d_Tide_sharesOf_34 : decode c_Tide_sharesOf 34 = .ok (.iload_n 2, 1) := by decide +kernel
theorem d_Tide_sharesOf_35 : decode c_Tide_sharesOf 35 = .ok (.ireturn, 1) := by decide +kernel
theorem d_Tide_fewest_0 : decode c_Tide_fewest 0 = .ok (.iload_n 1, 1) := by decide +kernel
theorem d_Tide_fewest_1 : decode c_Tide_fewest 1 = .ok (.iconst 4, 1) := by decide +kernel
theorem d_Tide_fewest_2 : decode c_Tide_fewest 2 = .ok (.invokestatic 64, 3) := by decide +kernel
theorem d_Tide_fewest_5 : decode c_Tide_fewest 5 = .ok (.ifCond .eq 23, 3) := by decide +kernel
theorem d_Tide_fewest_8 : decode c_Tide_fewest 8 = .ok (.iload_n 2, 1) := by decide +kernel
theorem d_Tide_fewest_9 : decode c_Tide_fewest 9 = .ok (.iconst 1, 1) := by decide +kernel
theorem d_Tide_fewest_10 : decode c_Tide_fewest 10 = .ok (.bipush 40, 2) := by decide +kernel
theorem d_Tide_fewest_12 : decode c_Tide_fewest 12 = .ok (.invokestatic 79, 3) := by decide +kernel
theorem d_Tide_fewest_15 : decode c_Tide_fewest 15 = .ok (.ifCond .eq 13, 3) := by decide +kernel
theorem d_Tide_fewest_18 : decode c_Tide_fewest 18 = .ok (.iload_n 3, 1) := by decide +kernel
theorem d_Tide_fewest_19 : decode c_Tide_fewest 19 = .ok (.iconst 0, 1) := by decide +kernel
theorem d_Tide_fewest_20 : decode c_Tide_fewest 20 = .ok (.ldc 101, 2) := by decide +kernel
theorem d_Tide_fewest_22 : decode c_Tide_fewest 22 = .ok (.invokestatic 79, 3) := by decide +kernel
theorem d_Tide_fewest_25 : decode c_Tide_fewest 25 = .ok (.ifCond .ne 10, 3) := by decide +kernel
theorem d_Tide_fewest_28 : decode c_Tide_fewest 28 = .ok (.aload_n 0, 1) := by decide +kernel
theorem d_Tide_fewest_29 : decode c_Tide_fewest 29 = .ok (.ldc 68, 2) := by decide +kernel
theorem d_Tide_fewest_31 : decode c_Tide_fewest 31 = .ok (.invokevirtual 69, 3) := by decide +kernel
theorem d_Tide_fewest_34 : decode c_Tide_fewest 34 = .ok (.ireturn, 1) := by decide +kernel
theorem d_Tide_fewest_35 : decode c_Tide_fewest 35 = .ok (.aload_n 0, 1) := by decide +kernel
theorem d_Tide_fewest_36 : decode c_Tide_fewest 36 = .ok (.iload_n 2, 1) := by decide +kernel
theorem d_Tide_fewest_37 : decode c_Tide_fewest 37 = .ok (.invokevirtual 163, 3) := by decide +kernel
theorem d_Tide_fewest_40 : decode c_Tide_fewest 40 = .ok (.aload_n 0, 1) := by decide +kernel
theorem d_Tide_fewest_41 : decode c_Tide_fewest 41 = .ok (.iload_n 1, 1) := by decide +kernel
theorem d_Tide_fewest_42 : decode c_Tide_fewest 42 = .ok (.invokevirtual 221, 3) := by decide +kernel
theorem d_Tide_fewest_45 : decode c_Tide_fewest 45 = .ok (.istore 4, 2) := by decide +kernel
theorem d_Tide_fewest_47 : decode c_Tide_fewest 47 = .ok (.aload_n 0, 1) := by decide +kernel
theorem d_Tide_fewest_48 : decode c_Tide_fewest 48 = .ok (.iload_n 1, 1) := by decide +kernel
theorem d_Tide_fewest_49 : decode c_Tide_fewest 49 = .ok (.invokevirtual 224, 3) := by decide +kernel
theorem d_Tide_fewest_52 : decode c_Tide_fewest 52 = .ok (.istore 5, 2) := by decide +kernel
theorem d_Tide_fewest_54 : decode c_Tide_fewest 54 = .ok (.iconst (-1), 1) := by decide +kernel
theorem d_Tide_fewest_55 : decode c_Tide_fewest 55 = .ok (.istore 6, 2) := by decide +kernel
theorem d_Tide_fewest_57 : decode c_Tide_fewest 57 = .ok (.bipush 11, 2) := by decide +kernel
theorem d_Tide_fewest_59 : decode c_Tide_fewest 59 = .ok (.istore 7, 2) := by decide +kernel
theorem d_Tide_fewest_61 : decode c_Tide_fewest 61 = .ok (.iconst 0, 1) := by decide +kernel
theorem d_Tide_fewest_62 : decode c_Tide_fewest 62 = .ok (.istore 8, 2) := by decide +kernel
theorem d_Tide_fewest_64 : decode c_Tide_fewest 64 = .ok (.iload 8, 2) := by decide +kernel
theorem d_Tide_fewest_66 : decode c_Tide_fewest 66 = .ok (.iload 4, 2) := by decide +kernel
theorem d_Tide_fewest_68 : decode c_Tide_fewest 68 = .ok (.if_icmp .gt 67, 3) := by decide +kernel
theorem d_Tide_fewest_71 : decode c_Tide_fewest 71 = .ok (.iload 8, 2) := by decide +kernel
theorem d_Tide_fewest_73 : decode c_Tide_fewest 73 = .ok (.iload 4, 2) := by decide +kernel
theorem d_Tide_fewest_75 : decode c_Tide_fewest 75 = .ok (.iconst (-1), 1) := by decide +kernel
theorem d_Tide_fewest_76 : decode c_Tide_fewest 76 = .ok (.ixor, 1) := by decide +kernel
theorem d_Tide_fewest_77 : decode c_Tide_fewest 77 = .ok (.iand, 1) := by decide +kernel
theorem d_Tide_fewest_78 : decode c_Tide_fewest 78 = .ok (.ifCond .ne 17, 3) := by decide +kernel
theorem d_Tide_fewest_81 : decode c_Tide_fewest 81 = .ok (.iload 8, 2) := by decide +kernel
theorem d_Tide_fewest_83 : decode c_Tide_fewest 83 = .ok (.invokestatic 155, 3) := by decide +kernel
theorem d_Tide_fewest_86 : decode c_Tide_fewest 86 = .ok (.iload 7, 2) := by decide +kernel
theorem d_Tide_fewest_88 : decode c_Tide_fewest 88 = .ok (.if_icmp .ge 7, 3) := by decide +kernel
theorem d_Tide_fewest_91 : decode c_Tide_fewest 91 = .ok (.iconst 1, 1) := by decide +kernel
theorem d_Tide_fewest_92 : decode c_Tide_fewest 92 = .ok (.goto 4, 3) := by decide +kernel
theorem d_Tide_fewest_95 : decode c_Tide_fewest 95 = .ok (.iconst 0, 1) := by decide +kernel
theorem d_Tide_fewest_96 : decode c_Tide_fewest 96 = .ok (.istore 9, 2) := by decide +kernel
theorem d_Tide_fewest_98 : decode c_Tide_fewest 98 = .ok (.iload 9, 2) := by decide +kernel
theorem d_Tide_fewest_100 : decode c_Tide_fewest 100 = .ok (.ifCond .eq 29, 3) := by decide +kernel
theorem d_Tide_fewest_103 : decode c_Tide_fewest 103 = .ok (.iload 5, 2) := by decide +kernel
theorem d_Tide_fewest_105 : decode c_Tide_fewest 105 = .ok (.aload_n 0, 1) := by decide +kernel
theorem d_Tide_fewest_106 : decode c_Tide_fewest 106 = .ok (.iload 8, 2) := by decide +kernel
theorem d_Tide_fewest_108 : decode c_Tide_fewest 108 = .ok (.invokevirtual 227, 3) := by decide +kernel
theorem d_Tide_fewest_111 : decode c_Tide_fewest 111 = .ok (.invokestatic 218, 3) := by decide +kernel
theorem d_Tide_fewest_114 : decode c_Tide_fewest 114 = .ok (.iload_n 3, 1) := by decide +kernel
theorem d_Tide_fewest_115 : decode c_Tide_fewest 115 = .ok (.if_icmp .lt 14, 3) := by decide +kernel
theorem d_Tide_fewest_118 : decode c_Tide_fewest 118 = .ok (.iload 8, 2) := by decide +kernel
theorem d_Tide_fewest_120 : decode c_Tide_fewest 120 = .ok (.istore 6, 2) := by decide +kernel
theorem d_Tide_fewest_122 : decode c_Tide_fewest 122 = .ok (.iload 8, 2) := by decide +kernel
theorem d_Tide_fewest_124 : decode c_Tide_fewest 124 = .ok (.invokestatic 155, 3) := by decide +kernel
theorem d_Tide_fewest_127 : decode c_Tide_fewest 127 = .ok (.istore 7, 2) := by decide +kernel
theorem d_Tide_fewest_129 : decode c_Tide_fewest 129 = .ok (.iinc 8 1, 3) := by decide +kernel
theorem d_Tide_fewest_132 : decode c_Tide_fewest 132 = .ok (.goto (-68), 3) := by decide +kernel
theorem d_Tide_fewest_135 : decode c_Tide_fewest 135 = .ok (.iload 6, 2) := by decide +kernel
theorem d_Tide_fewest_137 : decode c_Tide_fewest 137 = .ok (.ifCond .lt 8, 3) := by decide +kernel
theorem d_Tide_fewest_140 : decode c_Tide_fewest 140 = .ok (.iload 6, 2) := by decide +kernel
theorem d_Tide_fewest_142 : decode c_Tide_fewest 142 = .ok (.goto 9, 3) := by decide +kernel
theorem d_Tide_fewest_145 : decode c_Tide_fewest 145 = .ok (.aload_n 0, 1) := by decide +kernel
theorem d_Tide_fewest_146 : decode c_Tide_fewest 146 = .ok (.ldc 198, 2) := by decide +kernel
theorem d_Tide_fewest_148 : decode c_Tide_fewest 148 = .ok (.invokevirtual 69, 3) := by decide +kernel
theorem d_Tide_fewest_151 : decode c_Tide_fewest 151 = .ok (.ireturn, 1) := by decide +kernel
theorem d_Tide_gainAt_0 : decode c_Tide_gainAt 0 = .ok (.lconst 0, 1) := by decide +kernel
theorem d_Tide_gainAt_1 : decode c_Tide_gainAt 1 = .ok (.lstore_n 2, 1) := by decide +kernel
theorem d_Tide_gainAt_2 : decode c_Tide_gainAt 2 = .ok (.iconst 0, 1) := by decide +kernel
theorem d_Tide_gainAt_3 : decode c_Tide_gainAt 3 = .ok (.istore 4, 2) := by decide +kernel
theorem d_Tide_gainAt_5 : decode c_Tide_gainAt 5 = .ok (.iload 4, 2) := by decide +kernel
theorem d_Tide_gainAt_7 : decode c_Tide_gainAt 7 = .ok (.iconst 4, 1) := by decide +kernel
theorem d_Tide_gainAt_8 : decode c_Tide_gainAt 8 = .ok (.if_icmp .ge 21, 3) := by decide +kernel
theorem d_Tide_gainAt_11 : decode c_Tide_gainAt 11 = .ok (.lload_n 2, 1) := by decide +kernel
theorem d_Tide_gainAt_12 : decode c_Tide_gainAt 12 = .ok (.aload_n 0, 1) := by decide +kernel
theorem d_Tide_gainAt_13 : decode c_Tide_gainAt 13 = .ok (.iload 4, 2) := by decide +kernel
theorem d_Tide_gainAt_15 : decode c_Tide_gainAt 15 = .ok (.iload_n 1, 1) := by decide +kernel
theorem d_Tide_gainAt_16 : decode c_Tide_gainAt 16 = .ok (.iconst (-1), 1) := by decide +kernel
theorem d_Tide_gainAt_17 : decode c_Tide_gainAt 17 = .ok (.invokevirtual 187, 3) := by decide +kernel
theorem d_Tide_gainAt_20 : decode c_Tide_gainAt 20 = .ok (.i2l, 1) := by decide +kernel
theorem d_Tide_gainAt_21 : decode c_Tide_gainAt 21 = .ok (.ladd, 1) := by decide +kernel
theorem d_Tide_gainAt_22 : decode c_Tide_gainAt 22 = .ok (.lstore_n 2, 1) := by decide +kernel
theorem d_Tide_gainAt_23 : decode c_Tide_gainAt 23 = .ok (.iinc 4 1, 3) := by decide +kernel
theorem d_Tide_gainAt_26 : decode c_Tide_gainAt 26 = .ok (.goto (-21), 3) := by decide +kernel
theorem d_Tide_gainAt_29 : decode c_Tide_gainAt 29 = .ok (.lload_n 2, 1) := by decide +kernel
theorem d_Tide_gainAt_30 : decode c_Tide_gainAt 30 = .ok (.aload_n 0, 1) := by decide +kernel
theorem d_Tide_gainAt_31 : decode c_Tide_gainAt 31 = .ok (.getfield 16, 3) := by decide +kernel
theorem d_Tide_gainAt_34 : decode c_Tide_gainAt 34 = .ok (.invokevirtual 173, 3) := by decide +kernel
theorem d_Tide_gainAt_37 : decode c_Tide_gainAt 37 = .ok (.lsub, 1) := by decide +kernel
theorem d_Tide_gainAt_38 : decode c_Tide_gainAt 38 = .ok (.lreturn, 1) := by decide +kernel
theorem d_Tide_rate_0 : decode c_Tide_rate 0 = .ok (.iload_n 1, 1) := by decide +kernel
theorem d_Tide_rate_1 : decode c_Tide_rate 1 = .ok (.iconst 1, 1) := by decide +kernel
theorem d_Tide_rate_2 : decode c_Tide_rate 2 = .ok (.bipush 100, 2) := by decide +kernel
theorem d_Tide_rate_4 : decode c_Tide_rate 4 = .ok (.invokestatic 79, 3) := by decide +kernel
theorem d_Tide_rate_7 : decode c_Tide_rate 7 = .ok (.ifCond .eq 13, 3) := by decide +kernel
theorem d_Tide_rate_10 : decode c_Tide_rate 10 = .ok (.iload_n 2, 1) := by decide +kernel
theorem d_Tide_rate_11 : decode c_Tide_rate 11 = .ok (.iconst 0, 1) := by decide +kernel
theorem d_Tide_rate_12 : decode c_Tide_rate 12 = .ok (.ldc 101, 2) := by decide +kernel
theorem d_Tide_rate_14 : decode c_Tide_rate 14 = .ok (.invokestatic 79, 3) := by decide +kernel
theorem d_Tide_rate_17 : decode c_Tide_rate 17 = .ok (.ifCond .ne 10, 3) := by decide +kernel
theorem d_Tide_rate_20 : decode c_Tide_rate 20 = .ok (.aload_n 0, 1) := by decide +kernel
theorem d_Tide_rate_21 : decode c_Tide_rate 21 = .ok (.ldc 68, 2) := by decide +kernel
theorem d_Tide_rate_23 : decode c_Tide_rate 23 = .ok (.invokevirtual 69, 3) := by decide +kernel
theorem d_Tide_rate_26 : decode c_Tide_rate 26 = .ok (.ireturn, 1) := by decide +kernel
theorem d_Tide_rate_27 : decode c_Tide_rate 27 = .ok (.aload_n 0, 1) := by decide +kernel
theorem d_Tide_rate_28 : decode c_Tide_rate 28 = .ok (.iload_n 1, 1) := by decide +kernel
theorem d_Tide_rate_29 : decode c_Tide_rate 29 = .ok (.invokevirtual 163, 3) := by decide +kernel
theorem d_Tide_rate_32 : decode c_Tide_rate 32 = .ok (.iconst 0, 1) := by decide +kernel
theorem d_Tide_rate_33 : decode c_Tide_rate 33 = .ok (.istore_n 3, 1) := by decide +kernel
theorem d_Tide_rate_34 : decode c_Tide_rate 34 = .ok (.iload_n 3, 1) := by decide +kernel
theorem d_Tide_rate_35 : decode c_Tide_rate 35 = .ok (.bipush 50, 2) := by decide +kernel
theorem d_Tide_rate_37 : decode c_Tide_rate 37 = .ok (.if_icmp .gt 22, 3) := by decide +kernel
theorem d_Tide_rate_40 : decode c_Tide_rate 40 = .ok (.aload_n 0, 1) := by decide +kernel
theorem d_Tide_rate_41 : decode c_Tide_rate 41 = .ok (.iload_n 3, 1) := by decide +kernel
theorem d_Tide_rate_42 : decode c_Tide_rate 42 = .ok (.invokevirtual 230, 3) := by decide +kernel
theorem d_Tide_rate_45 : decode c_Tide_rate 45 = .ok (.iload_n 2, 1) := by decide +kernel
theorem d_Tide_rate_46 : decode c_Tide_rate 46 = .ok (.i2l, 1) := by decide +kernel
theorem d_Tide_rate_47 : decode c_Tide_rate 47 = .ok (.lcmp, 1) := by decide +kernel
theorem d_Tide_rate_48 : decode c_Tide_rate 48 = .ok (.ifCond .lt 5, 3) := by decide +kernel
theorem d_Tide_rate_51 : decode c_Tide_rate 51 = .ok (.iload_n 3, 1) := by decide +kernel
theorem d_Tide_rate_52 : decode c_Tide_rate 52 = .ok (.ireturn, 1) := by decide +kernel
theorem d_Tide_rate_53 : decode c_Tide_rate 53 = .ok (.iinc 3 1, 3) := by decide +kernel
theorem d_Tide_rate_56 : decode c_Tide_rate 56 = .ok (.goto (-22), 3) := by decide +kernel
theorem d_Tide_rate_59 : decode c_Tide_rate 59 = .ok (.aload_n 0, 1) := by decide +kernel
theorem d_Tide_rate_60 : decode c_Tide_rate 60 = .ok (.ldc 198, 2) := by decide +kernel
theorem d_Tide_rate_62 : decode c_Tide_rate 62 = .ok (.invokevirtual 69, 3) := by decide +kernel
theorem d_Tide_rate_65 : decode c_Tide_rate 65 = .ok (.ireturn, 1) := by decide +kernel
theorem d_Tide_feed_0 : decode c_Tide_feed 0 = .ok (.iload_n 2, 1) := by decide +kernel
theorem d_Tide_feed_1 : decode c_Tide_feed 1 = .ok (.iconst 1, 1) := by decide +kernel
theorem d_Tide_feed_2 : decode c_Tide_feed 2 = .ok (.iconst 4, 1) := by decide +kernel
theorem d_Tide_feed_3 : decode c_Tide_feed 3 = .ok (.invokestatic 79, 3) := by decide +kernel
theorem d_Tide_feed_6 : decode c_Tide_feed 6 = .ok (.ifCond .ne 10, 3) := by decide +kernel
theorem d_Tide_feed_9 : decode c_Tide_feed 9 = .ok (.aload_n 0, 1) := by decide +kernel
theorem d_Tide_feed_10 : decode c_Tide_feed 10 = .ok (.ldc 68, 2) := by decide +kernel
theorem d_Tide_feed_12 : decode c_Tide_feed 12 = .ok (.invokevirtual 69, 3) := by decide +kernel
theorem d_Tide_feed_15 : decode c_Tide_feed 15 = .ok (.ireturn, 1) := by decide +kernel
theorem d_Tide_feed_16 : decode c_Tide_feed 16 = .ok (.aload_n 0, 1) := by decide +kernel
theorem d_Tide_feed_17 : decode c_Tide_feed 17 = .ok (.getfield 29, 3) := by decide +kernel
theorem d_Tide_feed_20 : decode c_Tide_feed 20 = .ok (.getfield 234, 3) := by decide +kernel
theorem d_Tide_feed_23 : decode c_Tide_feed 23 = .ok (.iload_n 2, 1) := by decide +kernel
theorem d_Tide_feed_24 : decode c_Tide_feed 24 = .ok (.iadd, 1) := by decide +kernel
theorem d_Tide_feed_25 : decode c_Tide_feed 25 = .ok (.bipush 120, 2) := by decide +kernel
theorem d_Tide_feed_27 : decode c_Tide_feed 27 = .ok (.if_icmp .le 10, 3) := by decide +kernel
theorem d_Tide_feed_30 : decode c_Tide_feed 30 = .ok (.aload_n 0, 1) := by decide +kernel
theorem d_Tide_feed_31 : decode c_Tide_feed 31 = .ok (.ldc 109, 2) := by decide +kernel
theorem d_Tide_feed_33 : decode c_Tide_feed 33 = .ok (.invokevirtual 69, 3) := by decide +kernel
theorem d_Tide_feed_36 : decode c_Tide_feed 36 = .ok (.ireturn, 1) := by decide +kernel
theorem d_Tide_feed_37 : decode c_Tide_feed 37 = .ok (.iload_n 2, 1) := by decide +kernel
theorem d_Tide_feed_38 : decode c_Tide_feed 38 = .ok (.iconst 1, 1) := by decide +kernel
theorem d_Tide_feed_39 : decode c_Tide_feed 39 = .ok (.isub, 1) := by decide +kernel
theorem d_Tide_feed_40 : decode c_Tide_feed 40 = .ok (.istore_n 3, 1) := by decide +kernel
theorem d_Tide_feed_41 : decode c_Tide_feed 41 = .ok (.iload_n 3, 1) := by decide +kernel
theorem d_Tide_feed_42 : decode c_Tide_feed 42 = .ok (.ifCond .lt 23, 3) := by decide +kernel
theorem d_Tide_feed_45 : decode c_Tide_feed 45 = .ok (.aload_n 0, 1) := by decide +kernel
theorem d_Tide_feed_46 : decode c_Tide_feed 46 = .ok (.getfield 29, 3) := by decide +kernel
theorem d_Tide_feed_49 : decode c_Tide_feed 49 = .ok (.iload_n 1, 1) := by decide +kernel
theorem d_Tide_feed_50 : decode c_Tide_feed 50 = .ok (.bipush 8, 2) := by decide +kernel
theorem d_Tide_feed_52 : decode c_Tide_feed 52 = .ok (.iload_n 3, 1) := by decide +kernel
theorem d_Tide_feed_53 : decode c_Tide_feed 53 = .ok (.imul, 1) := by decide +kernel
theorem d_Tide_feed_54 : decode c_Tide_feed 54 = .ok (.ishr, 1) := by decide +kernel
theorem d_Tide_feed_55 : decode c_Tide_feed 55 = .ok (.i2b, 1) := by decide +kernel
theorem d_Tide_feed_56 : decode c_Tide_feed 56 = .ok (.invokevirtual 237, 3) := by decide +kernel
theorem d_Tide_feed_59 : decode c_Tide_feed 59 = .ok (.iinc 3 (-1), 3) := by decide +kernel
theorem d_Tide_feed_62 : decode c_Tide_feed 62 = .ok (.goto (-21), 3) := by decide +kernel
theorem d_Tide_feed_65 : decode c_Tide_feed 65 = .ok (.aload_n 0, 1) := by decide +kernel
theorem d_Tide_feed_66 : decode c_Tide_feed 66 = .ok (.getfield 29, 3) := by decide +kernel
theorem d_Tide_feed_69 : decode c_Tide_feed 69 = .ok (.getfield 234, 3) := by decide +kernel
theorem d_Tide_feed_72 : decode c_Tide_feed 72 = .ok (.ireturn, 1) := by decide +kernel
theorem d_Tide_wipe_0 : decode c_Tide_wipe 0 = .ok (.aload_n 0, 1) := by decide +kernel
theorem d_Tide_wipe_1 : decode c_Tide_wipe 1 = .ok (.getfield 29, 3) := by decide +kernel
theorem d_Tide_wipe_4 : decode c_Tide_wipe 4 = .ok (.getfield 234, 3) := by decide +kernel
theorem d_Tide_wipe_7 : decode c_Tide_wipe 7 = .ok (.istore_n 1, 1) := by decide +kernel
theorem d_Tide_wipe_8 : decode c_Tide_wipe 8 = .ok (.aload_n 0, 1) := by decide +kernel
theorem d_Tide_wipe_9 : decode c_Tide_wipe 9 = .ok (.getfield 29, 3) := by decide +kernel
theorem d_Tide_wipe_12 : decode c_Tide_wipe 12 = .ok (.iconst 0, 1) := by decide +kernel
theorem d_Tide_wipe_13 : decode c_Tide_wipe 13 = .ok (.putfield 234, 3) := by decide +kernel
theorem d_Tide_wipe_16 : decode c_Tide_wipe 16 = .ok (.iload_n 1, 1) := by decide +kernel
theorem d_Tide_wipe_17 : decode c_Tide_wipe 17 = .ok (.ireturn, 1) := by decide +kernel
theorem d_Tide_readWorth_0 : decode c_Tide_readWorth 0 = .ok (.aload_n 0, 1) := by decide +kernel
theorem d_Tide_readWorth_1 : decode c_Tide_readWorth 1 = .ok (.getfield 29, 3) := by decide +kernel
theorem d_Tide_readWorth_4 : decode c_Tide_readWorth 4 = .ok (.ldc_w 392, 3) := by decide +kernel
theorem d_Tide_readWorth_7 : decode c_Tide_readWorth 7 = .ok (.invokevirtual 366, 3) := by decide +kernel
theorem d_Tide_readWorth_10 : decode c_Tide_readWorth 10 = .ok (.ifCond .ne 5, 3) := by decide +kernel
theorem d_Tide_readWorth_13 : decode c_Tide_readWorth 13 = .ok (.iconst 1, 1) := by decide +kernel
theorem d_Tide_readWorth_14 : decode c_Tide_readWorth 14 = .ok (.ireturn, 1) := by decide +kernel
theorem d_Tide_readWorth_15 : decode c_Tide_readWorth 15 = .ok (.aload_n 0, 1) := by decide +kernel
theorem d_Tide_readWorth_16 : decode c_Tide_readWorth 16 = .ok (.getfield 29, 3) := by decide +kernel
theorem d_Tide_readWorth_19 : decode c_Tide_readWorth 19 = .ok (.invokevirtual 355, 3) := by decide +kernel
theorem d_Tide_readWorth_22 : decode c_Tide_readWorth 22 = .ok (.aload_n 0, 1) := by decide +kernel
theorem d_Tide_readWorth_23 : decode c_Tide_readWorth 23 = .ok (.getfield 29, 3) := by decide +kernel
theorem d_Tide_readWorth_26 : decode c_Tide_readWorth 26 = .ok (.sipush 9999, 3) := by decide +kernel
theorem d_Tide_readWorth_29 : decode c_Tide_readWorth 29 = .ok (.invokevirtual 379, 3) := by decide +kernel
theorem d_Tide_readWorth_32 : decode c_Tide_readWorth 32 = .ok (.ifCond .ne 5, 3) := by decide +kernel
theorem d_Tide_readWorth_35 : decode c_Tide_readWorth 35 = .ok (.iconst 0, 1) := by decide +kernel
theorem d_Tide_readWorth_36 : decode c_Tide_readWorth 36 = .ok (.ireturn, 1) := by decide +kernel
theorem d_Tide_readWorth_37 : decode c_Tide_readWorth 37 = .ok (.aload_n 1, 1) := by decide +kernel
theorem d_Tide_readWorth_38 : decode c_Tide_readWorth 38 = .ok (.aload_n 0, 1) := by decide +kernel
theorem d_Tide_readWorth_39 : decode c_Tide_readWorth 39 = .ok (.getfield 29, 3) := by decide +kernel
theorem d_Tide_readWorth_42 : decode c_Tide_readWorth 42 = .ok (.getfield 382, 3) := by decide +kernel
theorem d_Tide_readWorth_45 : decode c_Tide_readWorth 45 = .ok (.putfield 130, 3) := by decide +kernel
theorem d_Tide_readWorth_48 : decode c_Tide_readWorth 48 = .ok (.aload_n 0, 1) := by decide +kernel
theorem d_Tide_readWorth_49 : decode c_Tide_readWorth 49 = .ok (.getfield 29, 3) := by decide +kernel
theorem d_Tide_readWorth_52 : decode c_Tide_readWorth 52 = .ok (.invokevirtual 355, 3) := by decide +kernel
theorem d_Tide_readWorth_55 : decode c_Tide_readWorth 55 = .ok (.iconst 1, 1) := by decide +kernel
theorem d_Tide_readWorth_56 : decode c_Tide_readWorth 56 = .ok (.ireturn, 1) := by decide +kernel
theorem d_Tide_readPlace_0 : decode c_Tide_readPlace 0 = .ok (.aload_n 0, 1) := by decide +kernel
theorem d_Tide_readPlace_1 : decode c_Tide_readPlace 1 = .ok (.getfield 29, 3) := by decide +kernel
theorem d_Tide_readPlace_4 : decode c_Tide_readPlace 4 = .ok (.ldc_w 393, 3) := by decide +kernel
theorem d_Tide_readPlace_7 : decode c_Tide_readPlace 7 = .ok (.invokevirtual 366, 3) := by decide +kernel
theorem d_Tide_readPlace_10 : decode c_Tide_readPlace 10 = .ok (.ifCond .ne 5, 3) := by decide +kernel
theorem d_Tide_readPlace_13 : decode c_Tide_readPlace 13 = .ok (.iconst 1, 1) := by decide +kernel
theorem d_Tide_readPlace_14 : decode c_Tide_readPlace 14 = .ok (.ireturn, 1) := by decide +kernel
theorem d_Tide_readPlace_15 : decode c_Tide_readPlace 15 = .ok (.aload_n 0, 1) := by decide +kernel
theorem d_Tide_readPlace_16 : decode c_Tide_readPlace 16 = .ok (.getfield 29, 3) := by decide +kernel
theorem d_Tide_readPlace_19 : decode c_Tide_readPlace 19 = .ok (.invokevirtual 355, 3) := by decide +kernel
theorem d_Tide_readPlace_22 : decode c_Tide_readPlace 22 = .ok (.aload_n 0, 1) := by decide +kernel
theorem d_Tide_readPlace_23 : decode c_Tide_readPlace 23 = .ok (.getfield 29, 3) := by decide +kernel
theorem d_Tide_readPlace_26 : decode c_Tide_readPlace 26 = .ok (.bipush 15, 2) := by decide +kernel
theorem d_Tide_readPlace_28 : decode c_Tide_readPlace 28 = .ok (.invokevirtual 379, 3) := by decide +kernel
theorem d_Tide_readPlace_31 : decode c_Tide_readPlace 31 = .ok (.ifCond .ne 5, 3) := by decide +kernel
theorem d_Tide_readPlace_34 : decode c_Tide_readPlace 34 = .ok (.iconst 0, 1) := by decide +kernel
theorem d_Tide_readPlace_35 : decode c_Tide_readPlace 35 = .ok (.ireturn, 1) := by decide +kernel
theorem d_Tide_readPlace_36 : decode c_Tide_readPlace 36 = .ok (.aload_n 1, 1) := by decide +kernel
theorem d_Tide_readPlace_37 : decode c_Tide_readPlace 37 = .ok (.aload_n 0, 1) := by decide +kernel
theorem d_Tide_readPlace_38 : decode c_Tide_readPlace 38 = .ok (.getfield 29, 3) := by decide +kernel
theorem d_Tide_readPlace_41 : decode c_Tide_readPlace 41 = .ok (.getfield 382, 3) := by decide +kernel
theorem d_Tide_readPlace_44 : decode c_Tide_readPlace 44 = .ok (.invokevirtual 151, 3) := by decide +kernel
theorem d_Tide_readPlace_47 : decode c_Tide_readPlace 47 = .ok (.aload_n 0, 1) := by decide +kernel
theorem d_Tide_readPlace_48 : decode c_Tide_readPlace 48 = .ok (.getfield 29, 3) := by decide +kernel
theorem d_Tide_readPlace_51 : decode c_Tide_readPlace 51 = .ok (.invokevirtual 355, 3) := by decide +kernel
theorem d_Tide_readPlace_54 : decode c_Tide_readPlace 54 = .ok (.iconst 1, 1) := by decide +kernel
theorem d_Tide_readPlace_55 : decode c_Tide_readPlace 55 = .ok (.ireturn, 1) := by decide +kernel
theorem d_Tide_readThing_0 : decode c_Tide_readThing 0 = .ok (.aload_n 0, 1) := by decide +kernel
theorem d_Tide_readThing_1 : decode c_Tide_readThing 1 = .ok (.getfield 29, 3) := by decide +kernel
theorem d_Tide_readThing_4 : decode c_Tide_readThing 4 = .ok (.invokevirtual 355, 3) := by decide +kernel
theorem d_Tide_readThing_7 : decode c_Tide_readThing 7 = .ok (.aload_n 0, 1) := by decide +kernel
theorem d_Tide_readThing_8 : decode c_Tide_readThing 8 = .ok (.getfield 29, 3) := by decide +kernel
theorem d_Tide_readThing_11 : decode c_Tide_readThing 11 = .ok (.ldc_w 377, 3) := by decide +kernel
theorem d_Tide_readThing_14 : decode c_Tide_readThing 14 = .ok (.invokevirtual 366, 3) := by decide +kernel
theorem d_Tide_readThing_17 : decode c_Tide_readThing 17 = .ok (.ifCond .ne 5, 3) := by decide +kernel
theorem d_Tide_readThing_20 : decode c_Tide_readThing 20 = .ok (.iconst 0, 1) := by decide +kernel
theorem d_Tide_readThing_21 : decode c_Tide_readThing 21 = .ok (.ireturn, 1) := by decide +kernel
theorem d_Tide_readThing_22 : decode c_Tide_readThing 22 = .ok (.aload_n 0, 1) := by decide +kernel
theorem d_Tide_readThing_23 : decode c_Tide_readThing 23 = .ok (.getfield 29, 3) := by decide +kernel
theorem d_Tide_readThing_26 : decode c_Tide_readThing 26 = .ok (.invokevirtual 355, 3) := by decide +kernel
theorem d_Tide_readThing_29 : decode c_Tide_readThing 29 = .ok (.aload_n 0, 1) := by decide +kernel
theorem d_Tide_readThing_30 : decode c_Tide_readThing 30 = .ok (.getfield 29, 3) := by decide +kernel
theorem d_Tide_readThing_33 : decode c_Tide_readThing 33 = .ok (.iconst 3, 1) := by decide +kernel
theorem d_Tide_readThing_34 : decode c_Tide_readThing 34 = .ok (.invokevirtual 379, 3) := by decide +kernel
theorem d_Tide_readThing_37 : decode c_Tide_readThing 37 = .ok (.ifCond .ne 5, 3) := by decide +kernel
theorem d_Tide_readThing_40 : decode c_Tide_readThing 40 = .ok (.iconst 0, 1) := by decide +kernel
theorem d_Tide_readThing_41 : decode c_Tide_readThing 41 = .ok (.ireturn, 1) := by decide +kernel
theorem d_Tide_readThing_42 : decode c_Tide_readThing 42 = .ok (.aload_n 0, 1) := by decide +kernel
theorem d_Tide_readThing_43 : decode c_Tide_readThing 43 = .ok (.getfield 23, 3) := by decide +kernel
theorem d_Tide_readThing_46 : decode c_Tide_readThing 46 = .ok (.iload_n 1, 1) := by decide +kernel
theorem d_Tide_readThing_47 : decode c_Tide_readThing 47 = .ok (.aload_n 0, 1) := by decide +kernel
theorem d_Tide_readThing_48 : decode c_Tide_readThing 48 = .ok (.getfield 29, 3) := by decide +kernel
theorem d_Tide_readThing_51 : decode c_Tide_readThing 51 = .ok (.getfield 382, 3) := by decide +kernel
theorem d_Tide_readThing_54 : decode c_Tide_readThing 54 = .ok (.invokevirtual 110, 3) := by decide +kernel
theorem d_Tide_readThing_57 : decode c_Tide_readThing 57 = .ok (.istore_n 2, 1) := by decide +kernel
theorem d_Tide_readThing_58 : decode c_Tide_readThing 58 = .ok (.aload_n 0, 1) := by decide +kernel
theorem d_Tide_readThing_59 : decode c_Tide_readThing 59 = .ok (.getfield 29, 3) := by decide +kernel
theorem d_Tide_readThing_62 : decode c_Tide_readThing 62 = .ok (.invokevirtual 355, 3) := by decide +kernel
theorem d_Tide_readThing_65 : decode c_Tide_readThing 65 = .ok (.aload_n 0, 1) := by decide +kernel
theorem d_Tide_readThing_66 : decode c_Tide_readThing 66 = .ok (.getfield 23, 3) := by decide +kernel
theorem d_Tide_readThing_69 : decode c_Tide_readThing 69 = .ok (.iload_n 2, 1) := by decide +kernel
theorem d_Tide_readThing_70 : decode c_Tide_readThing 70 = .ok (.invokevirtual 114, 3) := by decide +kernel
theorem d_Tide_readThing_73 : decode c_Tide_readThing 73 = .ok (.ifCond .eq 39, 3) := by decide +kernel
theorem d_Tide_readThing_76 : decode c_Tide_readThing 76 = .ok (.aload_n 0, 1) := by decide +kernel
theorem d_Tide_readThing_77 : decode c_Tide_readThing 77 = .ok (.aload_n 0, 1) := by decide +kernel
theorem d_Tide_readThing_78 : decode c_Tide_readThing 78 = .ok (.getfield 23, 3) := by decide +kernel
theorem d_Tide_readThing_81 : decode c_Tide_readThing 81 = .ok (.getfield 117, 3) := by decide +kernel
theorem d_Tide_readThing_84 : decode c_Tide_readThing 84 = .ok (.iload_n 2, 1) := by decide +kernel
theorem d_Tide_readThing_85 : decode c_Tide_readThing 85 = .ok (.aaload, 1) := by decide +kernel
theorem d_Tide_readThing_86 : decode c_Tide_readThing 86 = .ok (.invokevirtual 385, 3) := by decide +kernel
theorem d_Tide_readThing_89 : decode c_Tide_readThing 89 = .ok (.ifCond .eq 23, 3) := by decide +kernel
theorem d_Tide_readThing_92 : decode c_Tide_readThing 92 = .ok (.aload_n 0, 1) := by decide +kernel
theorem d_Tide_readThing_93 : decode c_Tide_readThing 93 = .ok (.aload_n 0, 1) := by decide +kernel
theorem d_Tide_readThing_94 : decode c_Tide_readThing 94 = .ok (.getfield 23, 3) := by decide +kernel
theorem d_Tide_readThing_97 : decode c_Tide_readThing 97 = .ok (.getfield 117, 3) := by decide +kernel
theorem d_Tide_readThing_100 : decode c_Tide_readThing 100 = .ok (.iload_n 2, 1) := by decide +kernel
theorem d_Tide_readThing_101 : decode c_Tide_readThing 101 = .ok (.aaload, 1) := by decide +kernel
theorem d_Tide_readThing_102 : decode c_Tide_readThing 102 = .ok (.invokevirtual 389, 3) := by decide +kernel
theorem d_Tide_readThing_105 : decode c_Tide_readThing 105 = .ok (.ifCond .eq 7, 3) := by decide +kernel
theorem d_Tide_readThing_108 : decode c_Tide_readThing 108 = .ok (.iconst 1, 1) := by decide +kernel
theorem d_Tide_readThing_109 : decode c_Tide_readThing 109 = .ok (.goto 4, 3) := by decide +kernel
theorem d_Tide_readThing_112 : decode c_Tide_readThing 112 = .ok (.iconst 0, 1) := by decide +kernel
theorem d_Tide_readThing_113 : decode c_Tide_readThing 113 = .ok (.ireturn, 1) := by decide +kernel
theorem d_Tide_readHeight_0 : decode c_Tide_readHeight 0 = .ok (.aload_n 0, 1) := by decide +kernel
theorem d_Tide_readHeight_1 : decode c_Tide_readHeight 1 = .ok (.getfield 29, 3) := by decide +kernel
theorem d_Tide_readHeight_4 : decode c_Tide_readHeight 4 = .ok (.invokevirtual 355, 3) := by decide +kernel
theorem d_Tide_readHeight_7 : decode c_Tide_readHeight 7 = .ok (.aload_n 0, 1) := by decide +kernel
theorem d_Tide_readHeight_8 : decode c_Tide_readHeight 8 = .ok (.getfield 29, 3) := by decide +kernel
theorem d_Tide_readHeight_11 : decode c_Tide_readHeight 11 = .ok (.bipush 15, 2) := by decide +kernel
theorem d_Tide_readHeight_13 : decode c_Tide_readHeight 13 = .ok (.invokevirtual 379, 3) := by decide +kernel
theorem d_Tide_readHeight_16 : decode c_Tide_readHeight 16 = .ok (.ifCond .ne 5, 3) := by decide +kernel
theorem d_Tide_readHeight_19 : decode c_Tide_readHeight 19 = .ok (.iconst 0, 1) := by decide +kernel
theorem d_Tide_readHeight_20 : decode c_Tide_readHeight 20 = .ok (.ireturn, 1) := by decide +kernel
theorem d_Tide_readHeight_21 : decode c_Tide_readHeight 21 = .ok (.aload_n 0, 1) := by decide +kernel
theorem d_Tide_readHeight_22 : decode c_Tide_readHeight 22 = .ok (.getfield 29, 3) := by decide +kernel
theorem d_Tide_readHeight_25 : decode c_Tide_readHeight 25 = .ok (.getfield 382, 3) := by decide +kernel
theorem d_Tide_readHeight_28 : decode c_Tide_readHeight 28 = .ok (.istore_n 1, 1) := by decide +kernel
theorem d_Tide_readHeight_29 : decode c_Tide_readHeight 29 = .ok (.aload_n 0, 1) := by decide +kernel
theorem d_Tide_readHeight_30 : decode c_Tide_readHeight 30 = .ok (.getfield 29, 3) := by decide +kernel
theorem d_Tide_readHeight_33 : decode c_Tide_readHeight 33 = .ok (.invokevirtual 355, 3) := by decide +kernel
theorem d_Tide_readHeight_36 : decode c_Tide_readHeight 36 = .ok (.aload_n 0, 1) := by decide +kernel
theorem d_Tide_readHeight_37 : decode c_Tide_readHeight 37 = .ok (.getfield 29, 3) := by decide +kernel
theorem d_Tide_readHeight_40 : decode c_Tide_readHeight 40 = .ok (.bipush 9, 2) := by decide +kernel
theorem d_Tide_readHeight_42 : decode c_Tide_readHeight 42 = .ok (.invokevirtual 379, 3) := by decide +kernel
theorem d_Tide_readHeight_45 : decode c_Tide_readHeight 45 = .ok (.ifCond .ne 5, 3) := by decide +kernel
theorem d_Tide_readHeight_48 : decode c_Tide_readHeight 48 = .ok (.iconst 0, 1) := by decide +kernel
theorem d_Tide_readHeight_49 : decode c_Tide_readHeight 49 = .ok (.ireturn, 1) := by decide +kernel
theorem d_Tide_readHeight_50 : decode c_Tide_readHeight 50 = .ok (.aload_n 0, 1) := by decide +kernel
theorem d_Tide_readHeight_51 : decode c_Tide_readHeight 51 = .ok (.getfield 23, 3) := by decide +kernel
theorem d_Tide_readHeight_54 : decode c_Tide_readHeight 54 = .ok (.getfield 73, 3) := by decide +kernel
theorem d_Tide_readHeight_57 : decode c_Tide_readHeight 57 = .ok (.iload_n 1, 1) := by decide +kernel
theorem d_Tide_readHeight_58 : decode c_Tide_readHeight 58 = .ok (.aload_n 0, 1) := by decide +kernel
theorem d_Tide_readHeight_59 : decode c_Tide_readHeight 59 = .ok (.getfield 29, 3) := by decide +kernel
theorem d_Tide_readHeight_62 : decode c_Tide_readHeight 62 = .ok (.getfield 382, 3) := by decide +kernel
theorem d_Tide_readHeight_65 : decode c_Tide_readHeight 65 = .ok (.iastore, 1) := by decide +kernel
theorem d_Tide_readHeight_66 : decode c_Tide_readHeight 66 = .ok (.aload_n 0, 1) := by decide +kernel
theorem d_Tide_readHeight_67 : decode c_Tide_readHeight 67 = .ok (.getfield 29, 3) := by decide +kernel
theorem d_Tide_readHeight_70 : decode c_Tide_readHeight 70 = .ok (.invokevirtual 355, 3) := by decide +kernel
theorem d_Tide_readHeight_73 : decode c_Tide_readHeight 73 = .ok (.iconst 1, 1) := by decide +kernel
theorem d_Tide_readHeight_74 : decode c_Tide_readHeight 74 = .ok (.ireturn, 1) := by decide +kernel
theorem d_Tide_readInterest_0 : decode c_Tide_readInterest 0 = .ok (.aload_n 0, 1) := by decide +kernel
theorem d_Tide_readInterest_1 : decode c_Tide_readInterest 1 = .ok (.getfield 29, 3) := by decide +kernel
theorem d_Tide_readInterest_4 : decode c_Tide_readInterest 4 = .ok (.invokevirtual 355, 3) := by decide +kernel
theorem d_Tide_readInterest_7 : decode c_Tide_readInterest 7 = .ok (.aload_n 0, 1) := by decide +kernel
theorem d_Tide_readInterest_8 : decode c_Tide_readInterest 8 = .ok (.getfield 29, 3) := by decide +kernel
theorem d_Tide_readInterest_11 : decode c_Tide_readInterest 11 = .ok (.bipush 50, 2) := by decide +kernel
theorem d_Tide_readInterest_13 : decode c_Tide_readInterest 13 = .ok (.invokevirtual 379, 3) := by decide +kernel
theorem d_Tide_readInterest_16 : decode c_Tide_readInterest 16 = .ok (.ifCond .ne 5, 3) := by decide +kernel
theorem d_Tide_readInterest_19 : decode c_Tide_readInterest 19 = .ok (.iconst 0, 1) := by decide +kernel
theorem d_Tide_readInterest_20 : decode c_Tide_readInterest 20 = .ok (.ireturn, 1) := by decide +kernel
theorem d_Tide_readInterest_21 : decode c_Tide_readInterest 21 = .ok (.aload_n 0, 1) := by decide +kernel
theorem d_Tide_readInterest_22 : decode c_Tide_readInterest 22 = .ok (.getfield 23, 3) := by decide +kernel
theorem d_Tide_readInterest_25 : decode c_Tide_readInterest 25 = .ok (.aload_n 0, 1) := by decide +kernel
theorem d_Tide_readInterest_26 : decode c_Tide_readInterest 26 = .ok (.getfield 29, 3) := by decide +kernel
theorem d_Tide_readInterest_29 : decode c_Tide_readInterest 29 = .ok (.getfield 382, 3) := by decide +kernel
theorem d_Tide_readInterest_32 : decode c_Tide_readInterest 32 = .ok (.putfield 83, 3) := by decide +kernel
theorem d_Tide_readInterest_35 : decode c_Tide_readInterest 35 = .ok (.aload_n 0, 1) := by decide +kernel
theorem d_Tide_readInterest_36 : decode c_Tide_readInterest 36 = .ok (.getfield 29, 3) := by decide +kernel
theorem d_Tide_readInterest_39 : decode c_Tide_readInterest 39 = .ok (.invokevirtual 355, 3) := by decide +kernel
theorem d_Tide_readInterest_42 : decode c_Tide_readInterest 42 = .ok (.iconst 1, 1) := by decide +kernel
theorem d_Tide_readInterest_43 : decode c_Tide_readInterest 43 = .ok (.ireturn, 1) := by decide +kernel
theorem d_Tide_readItem_0 : decode c_Tide_readItem 0 = .ok (.aload_n 0, 1) := by decide +kernel
theorem d_Tide_readItem_1 : decode c_Tide_readItem 1 = .ok (.getfield 29, 3) := by decide +kernel
theorem d_Tide_readItem_4 : decode c_Tide_readItem 4 = .ok (.invokevirtual 358, 3) := by decide +kernel
theorem d_Tide_readItem_7 : decode c_Tide_readItem 7 = .ok (.istore_n 1, 1) := by decide +kernel
theorem d_Tide_readItem_8 : decode c_Tide_readItem 8 = .ok (.iload_n 1, 1) := by decide +kernel
theorem d_Tide_readItem_9 : decode c_Tide_readItem 9 = .ok (.iconst (-1), 1) := by decide +kernel
theorem d_Tide_readItem_10 : decode c_Tide_readItem 10 = .ok (.if_icmp .eq 27, 3) := by decide +kernel
theorem d_Tide_readItem_13 : decode c_Tide_readItem 13 = .ok (.aload_n 0, 1) := by decide +kernel
theorem d_Tide_readItem_14 : decode c_Tide_readItem 14 = .ok (.getfield 23, 3) := by decide +kernel
theorem d_Tide_readItem_17 : decode c_Tide_readItem 17 = .ok (.invokevirtual 105, 3) := by decide +kernel
theorem d_Tide_readItem_20 : decode c_Tide_readItem 20 = .ok (.ifCond .ne 15, 3) := by decide +kernel
theorem d_Tide_readItem_23 : decode c_Tide_readItem 23 = .ok (.aload_n 0, 1) := by decide +kernel
theorem d_Tide_readItem_24 : decode c_Tide_readItem 24 = .ok (.iload_n 1, 1) := by decide +kernel
theorem d_Tide_readItem_25 : decode c_Tide_readItem 25 = .ok (.invokevirtual 361, 3) := by decide +kernel
theorem d_Tide_readItem_28 : decode c_Tide_readItem 28 = .ok (.ifCond .eq 7, 3) := by decide +kernel
theorem d_Tide_readItem_31 : decode c_Tide_readItem 31 = .ok (.iconst 1, 1) := by decide +kernel
theorem d_Tide_readItem_32 : decode c_Tide_readItem 32 = .ok (.goto 4, 3) := by decide +kernel
theorem d_Tide_readItem_35 : decode c_Tide_readItem 35 = .ok (.iconst 0, 1) := by decide +kernel
theorem d_Tide_readItem_36 : decode c_Tide_readItem 36 = .ok (.ireturn, 1) := by decide +kernel
theorem d_Tide_readItem_37 : decode c_Tide_readItem 37 = .ok (.aload_n 0, 1) := by decide +kernel
theorem d_Tide_readItem_38 : decode c_Tide_readItem 38 = .ok (.getfield 29, 3) := by decide +kernel
theorem d_Tide_readItem_41 : decode c_Tide_readItem 41 = .ok (.ldc_w 364, 3) := by decide +kernel
theorem d_Tide_readItem_44 : decode c_Tide_readItem 44 = .ok (.invokevirtual 366, 3) := by decide +kernel
theorem d_Tide_readItem_47 : decode c_Tide_readItem 47 = .ok (.ifCond .eq 8, 3) := by decide +kernel
theorem d_Tide_readItem_50 : decode c_Tide_readItem 50 = .ok (.aload_n 0, 1) := by decide +kernel
theorem d_Tide_readItem_51 : decode c_Tide_readItem 51 = .ok (.invokevirtual 370, 3) := by decide +kernel
theorem d_Tide_readItem_54 : decode c_Tide_readItem 54 = .ok (.ireturn, 1) := by decide +kernel
theorem d_Tide_readItem_55 : decode c_Tide_readItem 55 = .ok (.aload_n 0, 1) := by decide +kernel
theorem d_Tide_readItem_56 : decode c_Tide_readItem 56 = .ok (.getfield 29, 3) := by decide +kernel
theorem d_Tide_readItem_59 : decode c_Tide_readItem 59 = .ok (.ldc_w 373, 3) := by decide +kernel
theorem d_Tide_readItem_62 : decode c_Tide_readItem 62 = .ok (.invokevirtual 366, 3) := by decide +kernel
theorem d_Tide_readItem_65 : decode c_Tide_readItem 65 = .ok (.ifCond .eq 14, 3) := by decide +kernel
theorem d_Tide_readItem_68 : decode c_Tide_readItem 68 = .ok (.aload_n 0, 1) := by decide +kernel
theorem d_Tide_readItem_69 : decode c_Tide_readItem 69 = .ok (.invokevirtual 374, 3) := by decide +kernel
theorem d_Tide_readItem_72 : decode c_Tide_readItem 72 = .ok (.ifCond .eq 7, 3) := by decide +kernel
theorem d_Tide_readItem_75 : decode c_Tide_readItem 75 = .ok (.iconst 1, 1) := by decide +kernel
theorem d_Tide_readItem_76 : decode c_Tide_readItem 76 = .ok (.goto 4, 3) := by decide +kernel
theorem d_Tide_readItem_79 : decode c_Tide_readItem 79 = .ok (.iconst 0, 1) := by decide +kernel
theorem d_Tide_readItem_80 : decode c_Tide_readItem 80 = .ok (.ireturn, 1) := by decide +kernel
theorem d_Tide_readText_0 : decode c_Tide_readText 0 = .ok (.aload_n 0, 1) := by decide +kernel
theorem d_Tide_readText_1 : decode c_Tide_readText 1 = .ok (.getfield 29, 3) := by decide +kernel
theorem d_Tide_readText_4 : decode c_Tide_readText 4 = .ok (.invokevirtual 343, 3) := by decide +kernel
theorem d_Tide_readText_7 : decode c_Tide_readText 7 = .ok (.iconst 0, 1) := by decide +kernel
theorem d_Tide_readText_8 : decode c_Tide_readText 8 = .ok (.istore_n 1, 1) := by decide +kernel
theorem d_Tide_readText_9 : decode c_Tide_readText 9 = .ok (.iconst 1, 1) := by decide +kernel
theorem d_Tide_readText_10 : decode c_Tide_readText 10 = .ok (.istore_n 2, 1) := by decide +kernel
theorem d_Tide_readText_11 : decode c_Tide_readText 11 = .ok (.iload_n 2, 1) := by decide +kernel
theorem d_Tide_readText_12 : decode c_Tide_readText 12 = .ok (.ifCond .eq 60, 3) := by decide +kernel
theorem d_Tide_readText_15 : decode c_Tide_readText 15 = .ok (.iload_n 1, 1) := by decide +kernel
theorem d_Tide_readText_16 : decode c_Tide_readText 16 = .ok (.bipush 120, 2) := by decide +kernel
theorem d_Tide_readText_18 : decode c_Tide_readText 18 = .ok (.if_icmp .ge 54, 3) := by decide +kernel
theorem d_Tide_readText_21 : decode c_Tide_readText 21 = .ok (.aload_n 0, 1) := by decide +kernel
theorem d_Tide_readText_22 : decode c_Tide_readText 22 = .ok (.invokevirtual 346, 3) := by decide +kernel
theorem d_Tide_readText_25 : decode c_Tide_readText 25 = .ok (.ifCond .ne 13, 3) := by decide +kernel
theorem d_Tide_readText_28 : decode c_Tide_readText 28 = .ok (.iconst (-1), 1) := by decide +kernel
theorem d_Tide_readText_29 : decode c_Tide_readText 29 = .ok (.aload_n 0, 1) := by decide +kernel
theorem d_Tide_readText_30 : decode c_Tide_readText 30 = .ok (.getfield 29, 3) := by decide +kernel
theorem d_Tide_readText_33 : decode c_Tide_readText 33 = .ok (.getfield 349, 3) := by decide +kernel
theorem d_Tide_readText_36 : decode c_Tide_readText 36 = .ok (.isub, 1) := by decide +kernel
theorem d_Tide_readText_37 : decode c_Tide_readText 37 = .ok (.ireturn, 1) := by decide +kernel
theorem d_Tide_readText_38 : decode c_Tide_readText 38 = .ok (.iinc 1 1, 3) := by decide +kernel
theorem d_Tide_readText_41 : decode c_Tide_readText 41 = .ok (.aload_n 0, 1) := by decide +kernel
theorem d_Tide_readText_42 : decode c_Tide_readText 42 = .ok (.getfield 29, 3) := by decide +kernel
theorem d_Tide_readText_45 : decode c_Tide_readText 45 = .ok (.getfield 352, 3) := by decide +kernel
theorem d_Tide_readText_48 : decode c_Tide_readText 48 = .ok (.iconst 3, 1) := by decide +kernel
theorem d_Tide_readText_49 : decode c_Tide_readText 49 = .ok (.if_icmp .ne 7, 3) := by decide +kernel
theorem d_Tide_readText_52 : decode c_Tide_readText 52 = .ok (.iconst 1, 1) := by decide +kernel
theorem d_Tide_readText_53 : decode c_Tide_readText 53 = .ok (.goto 4, 3) := by decide +kernel
theorem d_Tide_readText_56 : decode c_Tide_readText 56 = .ok (.iconst 0, 1) := by decide +kernel
theorem d_Tide_readText_57 : decode c_Tide_readText 57 = .ok (.istore_n 2, 1) := by decide +kernel
theorem d_Tide_readText_58 : decode c_Tide_readText 58 = .ok (.iload_n 2, 1) := by decide +kernel
theorem d_Tide_readText_59 : decode c_Tide_readText 59 = .ok (.ifCond .eq (-48), 3) := by decide +kernel
theorem d_Tide_readText_62 : decode c_Tide_readText 62 = .ok (.aload_n 0, 1) := by decide +kernel
theorem d_Tide_readText_63 : decode c_Tide_readText 63 = .ok (.getfield 29, 3) := by decide +kernel
theorem d_Tide_readText_66 : decode c_Tide_readText 66 = .ok (.invokevirtual 355, 3) := by decide +kernel
theorem d_Tide_readText_69 : decode c_Tide_readText 69 = .ok (.goto (-58), 3) := by decide +kernel
theorem d_Tide_readText_72 : decode c_Tide_readText 72 = .ok (.aload_n 0, 1) := by decide +kernel
theorem d_Tide_readText_73 : decode c_Tide_readText 73 = .ok (.getfield 29, 3) := by decide +kernel
theorem d_Tide_readText_76 : decode c_Tide_readText 76 = .ok (.getfield 352, 3) := by decide +kernel
theorem d_Tide_readText_79 : decode c_Tide_readText 79 = .ok (.ifCond .ne 7, 3) := by decide +kernel
theorem d_Tide_readText_82 : decode c_Tide_readText 82 = .ok (.iload_n 1, 1) := by decide +kernel
theorem d_Tide_readText_83 : decode c_Tide_readText 83 = .ok (.goto 12, 3) := by decide +kernel
theorem d_Tide_readText_86 : decode c_Tide_readText 86 = .ok (.iconst (-1), 1) := by decide +kernel
theorem d_Tide_readText_87 : decode c_Tide_readText 87 = .ok (.aload_n 0, 1) := by decide +kernel
theorem d_Tide_readText_88 : decode c_Tide_readText 88 = .ok (.getfield 29, 3) := by decide +kernel
theorem d_Tide_readText_91 : decode c_Tide_readText 91 = .ok (.getfield 349, 3) := by decide +kernel
theorem d_Tide_readText_94 : decode c_Tide_readText 94 = .ok (.isub, 1) := by decide +kernel
theorem d_Tide_readText_95 : decode c_Tide_readText 95 = .ok (.ireturn, 1) := by decide +kernel
theorem d_Tide_shore_0 : decode c_Tide_shore 0 = .ok (.aload_n 0, 1) := by decide +kernel
theorem d_Tide_shore_1 : decode c_Tide_shore 1 = .ok (.getfield 23, 3) := by decide +kernel
theorem d_Tide_shore_4 : decode c_Tide_shore 4 = .ok (.aload_n 0, 1) := by decide +kernel
theorem d_Tide_shore_5 : decode c_Tide_shore 5 = .ok (.getfield 16, 3) := by decide +kernel
theorem d_Tide_shore_8 : decode c_Tide_shore 8 = .ok (.invokevirtual 241, 3) := by decide +kernel
theorem d_Tide_shore_11 : decode c_Tide_shore 11 = .ok (.aload_n 0, 1) := by decide +kernel
theorem d_Tide_shore_12 : decode c_Tide_shore 12 = .ok (.invokevirtual 245, 3) := by decide +kernel
theorem d_Tide_shore_15 : decode c_Tide_shore 15 = .ok (.istore_n 1, 1) := by decide +kernel
theorem d_Tide_shore_16 : decode c_Tide_shore 16 = .ok (.iload_n 1, 1) := by decide +kernel
theorem d_Tide_shore_17 : decode c_Tide_shore 17 = .ok (.ifCond .le 14, 3) := by decide +kernel
theorem d_Tide_shore_20 : decode c_Tide_shore 20 = .ok (.aload_n 0, 1) := by decide +kernel
theorem d_Tide_shore_21 : decode c_Tide_shore 21 = .ok (.getfield 16, 3) := by decide +kernel
theorem d_Tide_shore_24 : decode c_Tide_shore 24 = .ok (.aload_n 0, 1) := by decide +kernel
theorem d_Tide_shore_25 : decode c_Tide_shore 25 = .ok (.getfield 23, 3) := by decide +kernel
theorem d_Tide_shore_28 : decode c_Tide_shore 28 = .ok (.invokevirtual 241, 3) := by decide +kernel
theorem d_Tide_shore_31 : decode c_Tide_shore 31 = .ok (.aload_n 0, 1) := by decide +kernel
theorem d_Tide_shore_32 : decode c_Tide_shore 32 = .ok (.getfield 29, 3) := by decide +kernel
theorem d_Tide_shore_35 : decode c_Tide_shore 35 = .ok (.iconst 0, 1) := by decide +kernel
theorem d_Tide_shore_36 : decode c_Tide_shore 36 = .ok (.putfield 234, 3) := by decide +kernel
theorem d_Tide_shore_39 : decode c_Tide_shore 39 = .ok (.iload_n 1, 1) := by decide +kernel
theorem d_Tide_shore_40 : decode c_Tide_shore 40 = .ok (.ireturn, 1) := by decide +kernel
theorem d_Tide_isWidth_0 : decode c_Tide_isWidth 0 = .ok (.iload_n 0, 1) := by decide +kernel
theorem d_Tide_isWidth_1 : decode c_Tide_isWidth 1 = .ok (.ifCond .eq 21, 3) := by decide +kernel
theorem d_Tide_isWidth_4 : decode c_Tide_isWidth 4 = .ok (.iload_n 0, 1) := by decide +kernel
theorem d_Tide_isWidth_5 : decode c_Tide_isWidth 5 = .ok (.bipush 8, 2) := by decide +kernel
theorem d_Tide_isWidth_7 : decode c_Tide_isWidth 7 = .ok (.if_icmp .eq 15, 3) := by decide +kernel
theorem d_Tide_isWidth_10 : decode c_Tide_isWidth 10 = .ok (.iload_n 0, 1) := by decide +kernel
theorem d_Tide_isWidth_11 : decode c_Tide_isWidth 11 = .ok (.bipush 16, 2) := by decide +kernel
theorem d_Tide_isWidth_13 : decode c_Tide_isWidth 13 = .ok (.if_icmp .eq 9, 3) := by decide +kernel
theorem d_Tide_isWidth_16 : decode c_Tide_isWidth 16 = .ok (.iload_n 0, 1) := by decide +kernel
theorem d_Tide_isWidth_17 : decode c_Tide_isWidth 17 = .ok (.bipush 64, 2) := by decide +kernel
theorem d_Tide_isWidth_19 : decode c_Tide_isWidth 19 = .ok (.if_icmp .ne 7, 3) := by decide +kernel
theorem d_Tide_isWidth_22 : decode c_Tide_isWidth 22 = .ok (.iconst 1, 1) := by decide +kernel
theorem d_Tide_isWidth_23 : decode c_Tide_isWidth 23 = .ok (.goto 4, 3) := by decide +kernel
theorem d_Tide_isWidth_26 : decode c_Tide_isWidth 26 = .ok (.iconst 0, 1) := by decide +kernel
theorem d_Tide_isWidth_27 : decode c_Tide_isWidth 27 = .ok (.ireturn, 1) := by decide +kernel
theorem d_Tide_sheet_0 : decode c_Tide_sheet 0 = .ok (.iload_n 1, 1) := by decide +kernel
theorem d_Tide_sheet_1 : decode c_Tide_sheet 1 = .ok (.iconst 4, 1) := by decide +kernel
theorem d_Tide_sheet_2 : decode c_Tide_sheet 2 = .ok (.invokestatic 64, 3) := by decide +kernel
theorem d_Tide_sheet_5 : decode c_Tide_sheet 5 = .ok (.ifCond .eq 10, 3) := by decide +kernel
theorem d_Tide_sheet_8 : decode c_Tide_sheet 8 = .ok (.iload_n 2, 1) := by decide +kernel
theorem d_Tide_sheet_9 : decode c_Tide_sheet 9 = .ok (.invokestatic 248, 3) := by decide +kernel
theorem d_Tide_sheet_12 : decode c_Tide_sheet 12 = .ok (.ifCond .ne 10, 3) := by decide +kernel
theorem d_Tide_sheet_15 : decode c_Tide_sheet 15 = .ok (.aload_n 0, 1) := by decide +kernel
theorem d_Tide_sheet_16 : decode c_Tide_sheet 16 = .ok (.ldc 68, 2) := by decide +kernel
theorem d_Tide_sheet_18 : decode c_Tide_sheet 18 = .ok (.invokevirtual 69, 3) := by decide +kernel
theorem d_Tide_sheet_21 : decode c_Tide_sheet 21 = .ok (.ireturn, 1) := by decide +kernel
theorem d_Tide_sheet_22 : decode c_Tide_sheet 22 = .ok (.iload_n 3, 1) := by decide +kernel
theorem d_Tide_sheet_23 : decode c_Tide_sheet 23 = .ok (.ifCond .ge 10, 3) := by decide +kernel
theorem d_Tide_sheet_26 : decode c_Tide_sheet 26 = .ok (.aload_n 0, 1) := by decide +kernel
theorem d_Tide_sheet_27 : decode c_Tide_sheet 27 = .ok (.ldc 251, 2) := by decide +kernel
theorem d_Tide_sheet_29 : decode c_Tide_sheet 29 = .ok (.invokevirtual 69, 3) := by decide +kernel
theorem d_Tide_sheet_32 : decode c_Tide_sheet 32 = .ok (.ireturn, 1) := by decide +kernel
theorem d_Tide_sheet_33 : decode c_Tide_sheet 33 = .ok (.iload_n 3, 1) := by decide +kernel
theorem d_Tide_sheet_34 : decode c_Tide_sheet 34 = .ok (.bipush 40, 2) := by decide +kernel
theorem d_Tide_sheet_36 : decode c_Tide_sheet 36 = .ok (.if_icmp .le 10, 3) := by decide +kernel
theorem d_Tide_sheet_39 : decode c_Tide_sheet 39 = .ok (.aload_n 0, 1) := by decide +kernel
theorem d_Tide_sheet_40 : decode c_Tide_sheet 40 = .ok (.ldc 68, 2) := by decide +kernel
theorem d_Tide_sheet_42 : decode c_Tide_sheet 42 = .ok (.invokevirtual 69, 3) := by decide +kernel
theorem d_Tide_sheet_45 : decode c_Tide_sheet 45 = .ok (.ireturn, 1) := by decide +kernel
theorem d_Tide_sheet_46 : decode c_Tide_sheet 46 = .ok (.aload_n 0, 1) := by decide +kernel
theorem d_Tide_sheet_47 : decode c_Tide_sheet 47 = .ok (.getfield 35, 3) := by decide +kernel
theorem d_Tide_sheet_50 : decode c_Tide_sheet 50 = .ok (.iload_n 1, 1) := by decide +kernel
theorem d_Tide_sheet_51 : decode c_Tide_sheet 51 = .ok (.aaload, 1) := by decide +kernel
theorem d_Tide_sheet_52 : decode c_Tide_sheet 52 = .ok (.iload_n 2, 1) := by decide +kernel
theorem d_Tide_sheet_53 : decode c_Tide_sheet 53 = .ok (.iload_n 3, 1) := by decide +kernel
theorem d_Tide_sheet_54 : decode c_Tide_sheet 54 = .ok (.invokevirtual 252, 3) := by decide +kernel
theorem d_Tide_sheet_57 : decode c_Tide_sheet 57 = .ok (.aload_n 0, 1) := by decide +kernel
theorem d_Tide_sheet_58 : decode c_Tide_sheet 58 = .ok (.getfield 35, 3) := by decide +kernel
theorem d_Tide_sheet_61 : decode c_Tide_sheet 61 = .ok (.iload_n 1, 1) := by decide +kernel
theorem d_Tide_sheet_62 : decode c_Tide_sheet 62 = .ok (.aaload, 1) := by decide +kernel
theorem d_Tide_sheet_63 : decode c_Tide_sheet 63 = .ok (.getfield 255, 3) := by decide +kernel
theorem d_Tide_sheet_66 : decode c_Tide_sheet 66 = .ok (.ireturn, 1) := by decide +kernel
theorem d_Tide_write_0 : decode c_Tide_write 0 = .ok (.iload_n 1, 1) := by decide +kernel
theorem d_Tide_write_1 : decode c_Tide_write 1 = .ok (.iconst 4, 1) := by decide +kernel
theorem d_Tide_write_2 : decode c_Tide_write 2 = .ok (.invokestatic 64, 3) := by decide +kernel
theorem d_Tide_write_5 : decode c_Tide_write 5 = .ok (.ifCond .ne 11, 3) := by decide +kernel
theorem d_Tide_write_8 : decode c_Tide_write 8 = .ok (.aload_n 0, 1) := by decide +kernel
theorem d_Tide_write_9 : decode c_Tide_write 9 = .ok (.ldc 68, 2) := by decide +kernel
theorem d_Tide_write_11 : decode c_Tide_write 11 = .ok (.invokevirtual 69, 3) := by decide +kernel
theorem d_Tide_write_14 : decode c_Tide_write 14 = .ok (.i2l, 1) := by decide +kernel
theorem d_Tide_write_15 : decode c_Tide_write 15 = .ok (.lreturn, 1) := by decide +kernel
theorem d_Tide_write_16 : decode c_Tide_write 16 = .ok (.aload_n 0, 1) := by decide +kernel
theorem d_Tide_write_17 : decode c_Tide_write 17 = .ok (.getfield 35, 3) := by decide +kernel
theorem d_Tide_write_20 : decode c_Tide_write 20 = .ok (.iload_n 1, 1) := by decide +kernel
theorem d_Tide_write_21 : decode c_Tide_write 21 = .ok (.aaload, 1) := by decide +kernel
theorem d_Tide_write_22 : decode c_Tide_write 22 = .ok (.astore 5, 2) := by decide +kernel
theorem d_Tide_write_24 : decode c_Tide_write 24 = .ok (.aload 5, 2) := by decide +kernel
theorem d_Tide_write_26 : decode c_Tide_write 26 = .ok (.invokevirtual 256, 3) := by decide +kernel
theorem d_Tide_write_29 : decode c_Tide_write 29 = .ok (.ifCond .eq 12, 3) := by decide +kernel
theorem d_Tide_write_32 : decode c_Tide_write 32 = .ok (.aload_n 0, 1) := by decide +kernel
theorem d_Tide_write_33 : decode c_Tide_write 33 = .ok (.ldc_w 259, 3) := by decide +kernel
theorem d_Tide_write_36 : decode c_Tide_write 36 = .ok (.invokevirtual 69, 3) := by decide +kernel
theorem d_Tide_write_39 : decode c_Tide_write 39 = .ok (.i2l, 1) := by decide +kernel
theorem d_Tide_write_40 : decode c_Tide_write 40 = .ok (.lreturn, 1) := by decide +kernel
theorem d_Tide_write_41 : decode c_Tide_write 41 = .ok (.iload_n 2, 1) := by decide +kernel
theorem d_Tide_write_42 : decode c_Tide_write 42 = .ok (.aload 5, 2) := by decide +kernel
theorem d_Tide_write_44 : decode c_Tide_write 44 = .ok (.getfield 255, 3) := by decide +kernel
theorem d_Tide_write_47 : decode c_Tide_write 47 = .ok (.invokestatic 64, 3) := by decide +kernel
theorem d_Tide_write_50 : decode c_Tide_write 50 = .ok (.ifCond .ne 11, 3) := by decide +kernel
theorem d_Tide_write_53 : decode c_Tide_write 53 = .ok (.aload_n 0, 1) := by decide +kernel
theorem d_Tide_write_54 : decode c_Tide_write 54 = .ok (.ldc 68, 2) := by decide +kernel
theorem d_Tide_write_56 : decode c_Tide_write 56 = .ok (.invokevirtual 69, 3) := by decide +kernel
theorem d_Tide_write_59 : decode c_Tide_write 59 = .ok (.i2l, 1) := by decide +kernel
theorem d_Tide_write_60 : decode c_Tide_write 60 = .ok (.lreturn, 1) := by decide +kernel
theorem d_Tide_write_61 : decode c_Tide_write 61 = .ok (.aload 5, 2) := by decide +kernel
theorem d_Tide_write_63 : decode c_Tide_write 63 = .ok (.getfield 260, 3) := by decide +kernel
theorem d_Tide_write_66 : decode c_Tide_write 66 = .ok (.iload_n 2, 1) := by decide +kernel
theorem d_Tide_write_67 : decode c_Tide_write 67 = .ok (.laload, 1) := by decide +kernel
theorem d_Tide_write_68 : decode c_Tide_write 68 = .ok (.lstore 6, 2) := by decide +kernel
theorem d_Tide_write_70 : decode c_Tide_write 70 = .ok (.aload 5, 2) := by decide +kernel
theorem d_Tide_write_72 : decode c_Tide_write 72 = .ok (.iload_n 2, 1) := by decide +kernel
theorem d_Tide_write_73 : decode c_Tide_write 73 = .ok (.lload_n 3, 1) := by decide +kernel
theorem d_Tide_write_74 : decode c_Tide_write 74 = .ok (.invokevirtual 264, 3) := by decide +kernel
theorem d_Tide_write_77 : decode c_Tide_write 77 = .ok (.lload 6, 2) := by decide +kernel
theorem d_Tide_write_79 : decode c_Tide_write 79 = .ok (.lreturn, 1) := by decide +kernel
theorem d_Tide_copy_0 : decode c_Tide_copy 0 = .ok (.iload_n 1, 1) := by decide +kernel
theorem d_Tide_copy_1 : decode c_Tide_copy 1 = .ok (.iconst 4, 1) := by decide +kernel
theorem d_Tide_copy_2 : decode c_Tide_copy 2 = .ok (.invokestatic 64, 3) := by decide +kernel
theorem d_Tide_copy_5 : decode c_Tide_copy 5 = .ok (.ifCond .eq 11, 3) := by decide +kernel
theorem d_Tide_copy_8 : decode c_Tide_copy 8 = .ok (.iload_n 3, 1) := by decide +kernel
theorem d_Tide_copy_9 : decode c_Tide_copy 9 = .ok (.iconst 4, 1) := by decide +kernel
theorem d_Tide_copy_10 : decode c_Tide_copy 10 = .ok (.invokestatic 64, 3) := by decide +kernel
theorem d_Tide_copy_13 : decode c_Tide_copy 13 = .ok (.ifCond .ne 10, 3) := by decide +kernel
theorem d_Tide_copy_16 : decode c_Tide_copy 16 = .ok (.aload_n 0, 1) := by decide +kernel
theorem d_Tide_copy_17 : decode c_Tide_copy 17 = .ok (.ldc 68, 2) := by decide +kernel
theorem d_Tide_copy_19 : decode c_Tide_copy 19 = .ok (.invokevirtual 69, 3) := by decide +kernel
theorem d_Tide_copy_22 : decode c_Tide_copy 22 = .ok (.ireturn, 1) := by decide +kernel
theorem d_Tide_copy_23 : decode c_Tide_copy 23 = .ok (.aload_n 0, 1) := by decide +kernel
theorem d_Tide_copy_24 : decode c_Tide_copy 24 = .ok (.getfield 35, 3) := by decide +kernel
theorem d_Tide_copy_27 : decode c_Tide_copy 27 = .ok (.iload_n 1, 1) := by decide +kernel
theorem d_Tide_copy_28 : decode c_Tide_copy 28 = .ok (.aaload, 1) := by decide +kernel
theorem d_Tide_copy_29 : decode c_Tide_copy 29 = .ok (.astore 6, 2) := by decide +kernel
theorem d_Tide_copy_31 : decode c_Tide_copy 31 = .ok (.aload_n 0, 1) := by decide +kernel
theorem d_Tide_copy_32 : decode c_Tide_copy 32 = .ok (.getfield 35, 3) := by decide +kernel
theorem d_Tide_copy_35 : decode c_Tide_copy 35 = .ok (.iload_n 3, 1) := by decide +kernel
theorem d_Tide_copy_36 : decode c_Tide_copy 36 = .ok (.aaload, 1) := by decide +kernel
theorem d_Tide_copy_37 : decode c_Tide_copy 37 = .ok (.astore 7, 2) := by decide +kernel
theorem d_Tide_copy_39 : decode c_Tide_copy 39 = .ok (.aload 6, 2) := by decide +kernel
theorem d_Tide_copy_41 : decode c_Tide_copy 41 = .ok (.invokevirtual 256, 3) := by decide +kernel
theorem d_Tide_copy_44 : decode c_Tide_copy 44 = .ok (.ifCond .ne 11, 3) := by decide +kernel
theorem d_Tide_copy_47 : decode c_Tide_copy 47 = .ok (.aload 7, 2) := by decide +kernel
theorem d_Tide_copy_49 : decode c_Tide_copy 49 = .ok (.invokevirtual 256, 3) := by decide +kernel
theorem d_Tide_copy_52 : decode c_Tide_copy 52 = .ok (.ifCond .eq 11, 3) := by decide +kernel
theorem d_Tide_copy_55 : decode c_Tide_copy 55 = .ok (.aload_n 0, 1) := by decide +kernel
theorem d_Tide_copy_56 : decode c_Tide_copy 56 = .ok (.ldc_w 259, 3) := by decide +kernel
theorem d_Tide_copy_59 : decode c_Tide_copy 59 = .ok (.invokevirtual 69, 3) := by decide +kernel
theorem d_Tide_copy_62 : decode c_Tide_copy 62 = .ok (.ireturn, 1) := by decide +kernel
theorem d_Tide_copy_63 : decode c_Tide_copy 63 = .ok (.aload 6, 2) := by decide +kernel
theorem d_Tide_copy_65 : decode c_Tide_copy 65 = .ok (.getfield 267, 3) := by decide +kernel
theorem d_Tide_copy_68 : decode c_Tide_copy 68 = .ok (.aload 7, 2) := by decide +kernel
theorem d_Tide_copy_70 : decode c_Tide_copy 70 = .ok (.getfield 267, 3) := by decide +kernel
theorem d_Tide_copy_73 : decode c_Tide_copy 73 = .ok (.if_icmp .eq 10, 3) := by decide +kernel
theorem d_Tide_copy_76 : decode c_Tide_copy 76 = .ok (.aload_n 0, 1) := by decide +kernel
theorem d_Tide_copy_77 : decode c_Tide_copy 77 = .ok (.ldc 149, 2) := by decide +kernel
theorem d_Tide_copy_79 : decode c_Tide_copy 79 = .ok (.invokevirtual 69, 3) := by decide +kernel
theorem d_Tide_copy_82 : decode c_Tide_copy 82 = .ok (.ireturn, 1) := by decide +kernel
theorem d_Tide_copy_83 : decode c_Tide_copy 83 = .ok (.aload 6, 2) := by decide +kernel
theorem d_Tide_copy_85 : decode c_Tide_copy 85 = .ok (.iload_n 2, 1) := by decide +kernel
theorem d_Tide_copy_86 : decode c_Tide_copy 86 = .ok (.iload 5, 2) := by decide +kernel
theorem d_Tide_copy_88 : decode c_Tide_copy 88 = .ok (.invokevirtual 270, 3) := by decide +kernel
theorem d_Tide_copy_91 : decode c_Tide_copy 91 = .ok (.ifCond .eq 15, 3) := by decide +kernel
theorem d_Tide_copy_94 : decode c_Tide_copy 94 = .ok (.aload 7, 2) := by decide +kernel
theorem d_Tide_copy_96 : decode c_Tide_copy 96 = .ok (.iload 4, 2) := by decide +kernel
theorem d_Tide_copy_98 : decode c_Tide_copy 98 = .ok (.iload 5, 2) := by decide +kernel
theorem d_Tide_copy_100 : decode c_Tide_copy 100 = .ok (.invokevirtual 270, 3) := by decide +kernel
theorem d_Tide_copy_103 : decode c_Tide_copy 103 = .ok (.ifCond .ne 10, 3) := by decide +kernel
theorem d_Tide_copy_106 : decode c_Tide_copy 106 = .ok (.aload_n 0, 1) := by decide +kernel
theorem d_Tide_copy_107 : decode c_Tide_copy 107 = .ok (.ldc 68, 2) := by decide +kernel
theorem d_Tide_copy_109 : decode c_Tide_copy 109 = .ok (.invokevirtual 69, 3) := by decide +kernel
theorem d_Tide_copy_112 : decode c_Tide_copy 112 = .ok (.ireturn, 1) := by decide +kernel
theorem d_Tide_copy_113 : decode c_Tide_copy 113 = .ok (.aload 6, 2) := by decide +kernel
theorem d_Tide_copy_115 : decode c_Tide_copy 115 = .ok (.getfield 260, 3) := by decide +kernel
theorem d_Tide_copy_118 : decode c_Tide_copy 118 = .ok (.iload_n 2, 1) := by decide +kernel
theorem d_Tide_copy_119 : decode c_Tide_copy 119 = .ok (.aload 7, 2) := by decide +kernel
theorem d_Tide_copy_121 : decode c_Tide_copy 121 = .ok (.getfield 260, 3) := by decide +kernel
theorem d_Tide_copy_124 : decode c_Tide_copy 124 = .ok (.iload 4, 2) := by decide +kernel
theorem d_Tide_copy_126 : decode c_Tide_copy 126 = .ok (.iload 5, 2) := by decide +kernel
theorem d_Tide_copy_128 : decode c_Tide_copy 128 = .ok (.invokestatic 273, 3) := by decide +kernel
theorem d_Tide_copy_131 : decode c_Tide_copy 131 = .ok (.iload 5, 2) := by decide +kernel
theorem d_Tide_copy_133 : decode c_Tide_copy 133 = .ok (.ireturn, 1) := by decide +kernel
theorem d_Tide_lays_0 : decode c_Tide_lays 0 = .ok (.iload_n 1, 1) := by decide +kernel
theorem d_Tide_lays_1 : decode c_Tide_lays 1 = .ok (.iconst 4, 1) := by decide +kernel
theorem d_Tide_lays_2 : decode c_Tide_lays 2 = .ok (.invokestatic 64, 3) := by decide +kernel
theorem d_Tide_lays_5 : decode c_Tide_lays 5 = .ok (.ifCond .ne 10, 3) := by decide +kernel
theorem d_Tide_lays_8 : decode c_Tide_lays 8 = .ok (.aload_n 0, 1) := by decide +kernel
theorem d_Tide_lays_9 : decode c_Tide_lays 9 = .ok (.ldc 68, 2) := by decide +kernel
theorem d_Tide_lays_11 : decode c_Tide_lays 11 = .ok (.invokevirtual 69, 3) := by decide +kernel
theorem d_Tide_lays_14 : decode c_Tide_lays 14 = .ok (.ireturn, 1) := by decide +kernel
theorem d_Tide_lays_15 : decode c_Tide_lays 15 = .ok (.aload_n 0, 1) := by decide +kernel
theorem d_Tide_lays_16 : decode c_Tide_lays 16 = .ok (.getfield 35, 3) := by decide +kernel
theorem d_Tide_lays_19 : decode c_Tide_lays 19 = .ok (.iload_n 1, 1) := by decide +kernel
theorem d_Tide_lays_20 : decode c_Tide_lays 20 = .ok (.aaload, 1) := by decide +kernel
theorem d_Tide_lays_21 : decode c_Tide_lays 21 = .ok (.astore_n 2, 1) := by decide +kernel
theorem d_Tide_lays_22 : decode c_Tide_lays 22 = .ok (.aload_n 2, 1) := by decide +kernel
theorem d_Tide_lays_23 : decode c_Tide_lays 23 = .ok (.invokevirtual 256, 3) := by decide +kernel
theorem d_Tide_lays_26 : decode c_Tide_lays 26 = .ok (.ifCond .eq 11, 3) := by decide +kernel
theorem d_Tide_lays_29 : decode c_Tide_lays 29 = .ok (.aload_n 0, 1) := by decide +kernel
theorem d_Tide_lays_30 : decode c_Tide_lays 30 = .ok (.ldc_w 259, 3) := by decide +kernel
theorem d_Tide_lays_33 : decode c_Tide_lays 33 = .ok (.invokevirtual 69, 3) := by decide +kernel
theorem d_Tide_lays_36 : decode c_Tide_lays 36 = .ok (.ireturn, 1) := by decide +kernel
theorem d_Tide_lays_37 : decode c_Tide_lays 37 = .ok (.iconst 0, 1) := by decide +kernel
theorem d_Tide_lays_38 : decode c_Tide_lays 38 = .ok (.istore_n 3, 1) := by decide +kernel
theorem d_Tide_lays_39 : decode c_Tide_lays 39 = .ok (.iconst 0, 1) := by decide +kernel
theorem d_Tide_lays_40 : decode c_Tide_lays 40 = .ok (.istore 4, 2) := by decide +kernel
theorem d_Tide_lays_42 : decode c_Tide_lays 42 = .ok (.iload 4, 2) := by decide +kernel
theorem d_Tide_lays_44 : decode c_Tide_lays 44 = .ok (.aload_n 2, 1) := by decide +kernel
theorem d_Tide_lays_45 : decode c_Tide_lays 45 = .ok (.getfield 255, 3) := by decide +kernel
theorem d_Tide_lays_48 : decode c_Tide_lays 48 = .ok (.if_icmp .ge 57, 3) := by decide +kernel
theorem d_Tide_lays_51 : decode c_Tide_lays 51 = .ok (.iload 4, 2) := by decide +kernel
theorem d_Tide_lays_53 : decode c_Tide_lays 53 = .ok (.bipush 16, 2) := by decide +kernel
theorem d_Tide_lays_55 : decode c_Tide_lays 55 = .ok (.if_icmp .ge 50, 3) := by decide +kernel
theorem d_Tide_lays_58 : decode c_Tide_lays 58 = .ok (.aload_n 2, 1) := by decide +kernel
theorem d_Tide_lays_59 : decode c_Tide_lays 59 = .ok (.getfield 260, 3) := by decide +kernel
theorem d_Tide_lays_62 : decode c_Tide_lays 62 = .ok (.iload 4, 2) := by decide +kernel
theorem d_Tide_lays_64 : decode c_Tide_lays 64 = .ok (.laload, 1) := by decide +kernel
theorem d_Tide_lays_65 : decode c_Tide_lays 65 = .ok (.lstore 5, 2) := by decide +kernel
theorem d_Tide_lays_67 : decode c_Tide_lays 67 = .ok (.lload 5, 2) := by decide +kernel
theorem d_Tide_lays_69 : decode c_Tide_lays 69 = .ok (.lconst 0, 1) := by decide +kernel
theorem d_Tide_lays_70 : decode c_Tide_lays 70 = .ok (.lcmp, 1) := by decide +kernel
theorem d_Tide_lays_71 : decode c_Tide_lays 71 = .ok (.ifCond .lt 28, 3) := by decide +kernel
theorem d_Tide_lays_74 : decode c_Tide_lays 74 = .ok (.lload 5, 2) := by decide +kernel
theorem d_Tide_lays_76 : decode c_Tide_lays 76 = .ok (.ldc2_w 279, 3) := by decide +kernel
theorem d_Tide_lays_79 : decode c_Tide_lays 79 = .ok (.lcmp, 1) := by decide +kernel
theorem d_Tide_lays_80 : decode c_Tide_lays 80 = .ok (.ifCond .ge 19, 3) := by decide +kernel
theorem d_Tide_lays_83 : decode c_Tide_lays 83 = .ok (.aload_n 0, 1) := by decide +kernel
theorem d_Tide_lays_84 : decode c_Tide_lays 84 = .ok (.getfield 16, 3) := by decide +kernel
theorem d_Tide_lays_87 : decode c_Tide_lays 87 = .ok (.getfield 73, 3) := by decide +kernel
theorem d_Tide_lays_90 : decode c_Tide_lays 90 = .ok (.iload 4, 2) := by decide +kernel
theorem d_Tide_lays_92 : decode c_Tide_lays 92 = .ok (.lload 5, 2) := by decide +kernel
theorem d_Tide_lays_94 : decode c_Tide_lays 94 = .ok (.l2i, 1) := by decide +kernel
theorem d_Tide_lays_95 : decode c_Tide_lays 95 = .ok (.iastore, 1) := by decide +kernel
theorem d_Tide_lays_96 : decode c_Tide_lays 96 = .ok (.iinc 3 1, 3) := by decide +kernel
theorem d_Tide_lays_99 : decode c_Tide_lays 99 = .ok (.iinc 4 1, 3) := by decide +kernel
theorem d_Tide_lays_102 : decode c_Tide_lays 102 = .ok (.goto (-60), 3) := by decide +kernel
theorem d_Tide_lays_105 : decode c_Tide_lays 105 = .ok (.iload_n 3, 1) := by decide +kernel
theorem d_Tide_lays_106 : decode c_Tide_lays 106 = .ok (.ireturn, 1) := by decide +kernel
theorem d_Tide_addToCourse_0 : decode c_Tide_addToCourse 0 = .ok (.iload_n 1, 1) := by decide +kernel
theorem d_Tide_addToCourse_1 : decode c_Tide_addToCourse 1 = .ok (.istore 4, 2) := by decide +kernel
theorem d_Tide_addToCourse_3 : decode c_Tide_addToCourse 3 = .ok (.iload 4, 2) := by decide +kernel
theorem d_Tide_addToCourse_5 : decode c_Tide_addToCourse 5 = .ok (.iload_n 3, 1) := by decide +kernel
theorem d_Tide_addToCourse_6 : decode c_Tide_addToCourse 6 = .ok (.if_icmp .ge 34, 3) := by decide +kernel
theorem d_Tide_addToCourse_9 : decode c_Tide_addToCourse 9 = .ok (.iload 4, 2) := by decide +kernel
theorem d_Tide_addToCourse_11 : decode c_Tide_addToCourse 11 = .ok (.bipush 40, 2) := by decide +kernel
theorem d_Tide_addToCourse_13 : decode c_Tide_addToCourse 13 = .ok (.if_icmp .ge 27, 3) := by decide +kernel
theorem d_Tide_addToCourse_16 : decode c_Tide_addToCourse 16 = .ok (.aload_n 0, 1) := by decide +kernel
theorem d_Tide_addToCourse_17 : decode c_Tide_addToCourse 17 = .ok (.getfield 48, 3) := by decide +kernel
theorem d_Tide_addToCourse_20 : decode c_Tide_addToCourse 20 = .ok (.iload 4, 2) := by decide +kernel
theorem d_Tide_addToCourse_22 : decode c_Tide_addToCourse 22 = .ok (.aload_n 0, 1) := by decide +kernel
theorem d_Tide_addToCourse_23 : decode c_Tide_addToCourse 23 = .ok (.getfield 48, 3) := by decide +kernel
theorem d_Tide_addToCourse_26 : decode c_Tide_addToCourse 26 = .ok (.iload 4, 2) := by decide +kernel
theorem d_Tide_addToCourse_28 : decode c_Tide_addToCourse 28 = .ok (.iaload, 1) := by decide +kernel
theorem d_Tide_addToCourse_29 : decode c_Tide_addToCourse 29 = .ok (.iload_n 2, 1) := by decide +kernel
theorem d_Tide_addToCourse_30 : decode c_Tide_addToCourse 30 = .ok (.invokestatic 218, 3) := by decide +kernel
theorem d_Tide_addToCourse_33 : decode c_Tide_addToCourse 33 = .ok (.iastore, 1) := by decide +kernel
theorem d_Tide_addToCourse_34 : decode c_Tide_addToCourse 34 = .ok (.iinc 4 1, 3) := by decide +kernel
theorem d_Tide_addToCourse_37 : decode c_Tide_addToCourse 37 = .ok (.goto (-34), 3) := by decide +kernel
theorem d_Tide_addToCourse_40 : decode c_Tide_addToCourse 40 = .ok (.return_, 1) := by decide +kernel
theorem d_Tide_plotCourse_0 : decode c_Tide_plotCourse 0 = .ok (.iconst 0, 1) := by decide +kernel
theorem d_Tide_plotCourse_1 : decode c_Tide_plotCourse 1 = .ok (.istore 4, 2) := by decide +kernel
theorem d_Tide_plotCourse_3 : decode c_Tide_plotCourse 3 = .ok (.iload 4, 2) := by decide +kernel
theorem d_Tide_plotCourse_5 : decode c_Tide_plotCourse 5 = .ok (.iload_n 3, 1) := by decide +kernel
theorem d_Tide_plotCourse_6 : decode c_Tide_plotCourse 6 = .ok (.if_icmp .ge 32, 3) := by decide +kernel
theorem d_Tide_plotCourse_9 : decode c_Tide_plotCourse 9 = .ok (.iload 4, 2) := by decide +kernel
theorem d_Tide_plotCourse_11 : decode c_Tide_plotCourse 11 = .ok (.bipush 40, 2) := by decide +kernel
theorem d_Tide_plotCourse_13 : decode c_Tide_plotCourse 13 = .ok (.if_icmp .ge 25, 3) := by decide +kernel
theorem d_Tide_plotCourse_16 : decode c_Tide_plotCourse 16 = .ok (.aload_n 0, 1) := by decide +kernel
theorem d_Tide_plotCourse_17 : decode c_Tide_plotCourse 17 = .ok (.getfield 48, 3) := by decide +kernel
theorem d_Tide_plotCourse_20 : decode c_Tide_plotCourse 20 = .ok (.iload 4, 2) := by decide +kernel
theorem d_Tide_plotCourse_22 : decode c_Tide_plotCourse 22 = .ok (.aload_n 0, 1) := by decide +kernel
theorem d_Tide_plotCourse_23 : decode c_Tide_plotCourse 23 = .ok (.getfield 16, 3) := by decide +kernel
theorem d_Tide_plotCourse_26 : decode c_Tide_plotCourse 26 = .ok (.getfield 102, 3) := by decide +kernel
theorem d_Tide_plotCourse_29 : decode c_Tide_plotCourse 29 = .ok (.iload_n 1, 1) := by decide +kernel
theorem d_Tide_plotCourse_30 : decode c_Tide_plotCourse 30 = .ok (.iaload, 1) := by decide +kernel
theorem d_Tide_plotCourse_31 : decode c_Tide_plotCourse 31 = .ok (.iastore, 1) := by decide +kernel
theorem d_Tide_plotCourse_32 : decode c_Tide_plotCourse 32 = .ok (.iinc 4 1, 3) := by decide +kernel
theorem d_Tide_plotCourse_35 : decode c_Tide_plotCourse 35 = .ok (.goto (-32), 3) := by decide +kernel
theorem d_Tide_plotCourse_38 : decode c_Tide_plotCourse 38 = .ok (.aload_n 0, 1) := by decide +kernel
theorem d_Tide_plotCourse_39 : decode c_Tide_plotCourse 39 = .ok (.iload_n 3, 1) := by decide +kernel
theorem d_Tide_plotCourse_40 : decode c_Tide_plotCourse 40 = .ok (.iconst 1, 1) := by decide +kernel
theorem d_Tide_plotCourse_41 : decode c_Tide_plotCourse 41 = .ok (.isub, 1) := by decide +kernel
theorem d_Tide_plotCourse_42 : decode c_Tide_plotCourse 42 = .ok (.invokevirtual 163, 3) := by decide +kernel
theorem d_Tide_plotCourse_45 : decode c_Tide_plotCourse 45 = .ok (.iconst 0, 1) := by decide +kernel
theorem d_Tide_plotCourse_46 : decode c_Tide_plotCourse 46 = .ok (.istore 4, 2) := by decide +kernel
theorem d_Tide_plotCourse_48 : decode c_Tide_plotCourse 48 = .ok (.iload 4, 2) := by decide +kernel
theorem d_Tide_plotCourse_50 : decode c_Tide_plotCourse 50 = .ok (.aload_n 0, 1) := by decide +kernel
theorem d_Tide_plotCourse_51 : decode c_Tide_plotCourse 51 = .ok (.getfield 16, 3) := by decide +kernel
theorem d_Tide_plotCourse_54 : decode c_Tide_plotCourse 54 = .ok (.getfield 166, 3) := by decide +kernel
theorem d_Tide_plotCourse_57 : decode c_Tide_plotCourse 57 = .ok (.if_icmp .ge 74, 3) := by decide +kernel
theorem d_Tide_plotCourse_60 : decode c_Tide_plotCourse 60 = .ok (.aload_n 0, 1) := by decide +kernel
theorem d_Tide_plotCourse_61 : decode c_Tide_plotCourse 61 = .ok (.getfield 16, 3) := by decide +kernel
theorem d_Tide_plotCourse_64 : decode c_Tide_plotCourse 64 = .ok (.getfield 117, 3) := by decide +kernel
theorem d_Tide_plotCourse_67 : decode c_Tide_plotCourse 67 = .ok (.iload 4, 2) := by decide +kernel
theorem d_Tide_plotCourse_69 : decode c_Tide_plotCourse 69 = .ok (.aaload, 1) := by decide +kernel
theorem d_Tide_plotCourse_70 : decode c_Tide_plotCourse 70 = .ok (.getfield 124, 3) := by decide +kernel
theorem d_Tide_plotCourse_73 : decode c_Tide_plotCourse 73 = .ok (.iload_n 1, 1) := by decide +kernel
theorem d_Tide_plotCourse_74 : decode c_Tide_plotCourse 74 = .ok (.if_icmp .ne 51, 3) := by decide +kernel
theorem d_Tide_plotCourse_77 : decode c_Tide_plotCourse 77 = .ok (.iload 4, 2) := by decide +kernel
theorem d_Tide_plotCourse_79 : decode c_Tide_plotCourse 79 = .ok (.iload_n 2, 1) := by decide +kernel
theorem d_Tide_plotCourse_80 : decode c_Tide_plotCourse 80 = .ok (.if_icmp .eq 45, 3) := by decide +kernel
theorem d_Tide_plotCourse_83 : decode c_Tide_plotCourse 83 = .ok (.aload_n 0, 1) := by decide +kernel
theorem d_Tide_plotCourse_84 : decode c_Tide_plotCourse 84 = .ok (.aload_n 0, 1) := by decide +kernel
theorem d_Tide_plotCourse_85 : decode c_Tide_plotCourse 85 = .ok (.getfield 41, 3) := by decide +kernel
theorem d_Tide_plotCourse_88 : decode c_Tide_plotCourse 88 = .ok (.iload 4, 2) := by decide +kernel
theorem d_Tide_plotCourse_90 : decode c_Tide_plotCourse 90 = .ok (.aaload, 1) := by decide +kernel
theorem d_Tide_plotCourse_91 : decode c_Tide_plotCourse 91 = .ok (.getfield 199, 3) := by decide +kernel
theorem d_Tide_plotCourse_94 : decode c_Tide_plotCourse 94 = .ok (.aload_n 0, 1) := by decide +kernel
theorem d_Tide_plotCourse_95 : decode c_Tide_plotCourse 95 = .ok (.getfield 41, 3) := by decide +kernel
theorem d_Tide_plotCourse_98 : decode c_Tide_plotCourse 98 = .ok (.iload 4, 2) := by decide +kernel
theorem d_Tide_plotCourse_100 : decode c_Tide_plotCourse 100 = .ok (.aaload, 1) := by decide +kernel
theorem d_Tide_plotCourse_101 : decode c_Tide_plotCourse 101 = .ok (.aload_n 0, 1) := by decide +kernel
theorem d_Tide_plotCourse_102 : decode c_Tide_plotCourse 102 = .ok (.getfield 16, 3) := by decide +kernel
theorem d_Tide_plotCourse_105 : decode c_Tide_plotCourse 105 = .ok (.getfield 117, 3) := by decide +kernel
theorem d_Tide_plotCourse_108 : decode c_Tide_plotCourse 108 = .ok (.iload 4, 2) := by decide +kernel
theorem d_Tide_plotCourse_110 : decode c_Tide_plotCourse 110 = .ok (.aaload, 1) := by decide +kernel
theorem d_Tide_plotCourse_111 : decode c_Tide_plotCourse 111 = .ok (.aload_n 0, 1) := by decide +kernel
theorem d_Tide_plotCourse_112 : decode c_Tide_plotCourse 112 = .ok (.getfield 16, 3) := by decide +kernel
theorem d_Tide_plotCourse_115 : decode c_Tide_plotCourse 115 = .ok (.getfield 83, 3) := by decide +kernel
theorem d_Tide_plotCourse_118 : decode c_Tide_plotCourse 118 = .ok (.invokevirtual 214, 3) := by decide +kernel
theorem d_Tide_plotCourse_121 : decode c_Tide_plotCourse 121 = .ok (.iload_n 3, 1) := by decide +kernel
theorem d_Tide_plotCourse_122 : decode c_Tide_plotCourse 122 = .ok (.invokevirtual 336, 3) := by decide +kernel
theorem d_Tide_plotCourse_125 : decode c_Tide_plotCourse 125 = .ok (.iinc 4 1, 3) := by decide +kernel
theorem d_Tide_plotCourse_128 : decode c_Tide_plotCourse 128 = .ok (.goto (-80), 3) := by decide +kernel
theorem d_Tide_plotCourse_131 : decode c_Tide_plotCourse 131 = .ok (.return_, 1) := by decide +kernel
theorem d_Tide_book_0 : decode c_Tide_book 0 = .ok (.iload_n 1, 1) := by decide +kernel
theorem d_Tide_book_1 : decode c_Tide_book 1 = .ok (.iconst 4, 1) := by decide +kernel
theorem d_Tide_book_2 : decode c_Tide_book 2 = .ok (.invokestatic 64, 3) := by decide +kernel
theorem d_Tide_book_5 : decode c_Tide_book 5 = .ok (.ifCond .ne 10, 3) := by decide +kernel
theorem d_Tide_book_8 : decode c_Tide_book 8 = .ok (.aload_n 0, 1) := by decide +kernel
theorem d_Tide_book_9 : decode c_Tide_book 9 = .ok (.ldc 68, 2) := by decide +kernel
theorem d_Tide_book_11 : decode c_Tide_book 11 = .ok (.invokevirtual 69, 3) := by decide +kernel
theorem d_Tide_book_14 : decode c_Tide_book 14 = .ok (.ireturn, 1) := by decide +kernel
theorem d_Tide_book_15 : decode c_Tide_book 15 = .ok (.aload_n 0, 1) := by decide +kernel
theorem d_Tide_book_16 : decode c_Tide_book 16 = .ok (.getfield 35, 3) := by decide +kernel
theorem d_Tide_book_19 : decode c_Tide_book 19 = .ok (.iload_n 1, 1) := by decide +kernel
theorem d_Tide_book_20 : decode c_Tide_book 20 = .ok (.aaload, 1) := by decide +kernel
theorem d_Tide_book_21 : decode c_Tide_book 21 = .ok (.astore_n 3, 1) := by decide +kernel
theorem d_Tide_book_22 : decode c_Tide_book 22 = .ok (.aload_n 3, 1) := by decide +kernel
theorem d_Tide_book_23 : decode c_Tide_book 23 = .ok (.invokevirtual 256, 3) := by decide +kernel
theorem d_Tide_book_26 : decode c_Tide_book 26 = .ok (.ifCond .eq 11, 3) := by decide +kernel
theorem d_Tide_book_29 : decode c_Tide_book 29 = .ok (.aload_n 0, 1) := by decide +kernel
theorem d_Tide_book_30 : decode c_Tide_book 30 = .ok (.ldc_w 259, 3) := by decide +kernel
theorem d_Tide_book_33 : decode c_Tide_book 33 = .ok (.invokevirtual 69, 3) := by decide +kernel
theorem d_Tide_book_36 : decode c_Tide_book 36 = .ok (.ireturn, 1) := by decide +kernel
theorem d_Tide_book_37 : decode c_Tide_book 37 = .ok (.iload_n 2, 1) := by decide +kernel
theorem d_Tide_book_38 : decode c_Tide_book 38 = .ok (.iconst 4, 1) := by decide +kernel
theorem d_Tide_book_39 : decode c_Tide_book 39 = .ok (.invokestatic 64, 3) := by decide +kernel
theorem d_Tide_book_42 : decode c_Tide_book 42 = .ok (.ifCond .ne 10, 3) := by decide +kernel
theorem d_Tide_book_45 : decode c_Tide_book 45 = .ok (.aload_n 0, 1) := by decide +kernel
theorem d_Tide_book_46 : decode c_Tide_book 46 = .ok (.ldc 68, 2) := by decide +kernel
theorem d_Tide_book_48 : decode c_Tide_book 48 = .ok (.invokevirtual 69, 3) := by decide +kernel
theorem d_Tide_book_51 : decode c_Tide_book 51 = .ok (.ireturn, 1) := by decide +kernel
theorem d_Tide_book_52 : decode c_Tide_book 52 = .ok (.aload_n 0, 1) := by decide +kernel
theorem d_Tide_book_53 : decode c_Tide_book 53 = .ok (.iload_n 2, 1) := by decide +kernel
theorem d_Tide_book_54 : decode c_Tide_book 54 = .ok (.iconst (-1), 1) := by decide +kernel
theorem d_Tide_book_55 : decode c_Tide_book 55 = .ok (.aload_n 3, 1) := by decide +kernel
theorem d_Tide_book_56 : decode c_Tide_book 56 = .ok (.getfield 255, 3) := by decide +kernel
theorem d_Tide_book_59 : decode c_Tide_book 59 = .ok (.invokevirtual 281, 3) := by decide +kernel
theorem d_Tide_book_62 : decode c_Tide_book 62 = .ok (.iconst 0, 1) := by decide +kernel
theorem d_Tide_book_63 : decode c_Tide_book 63 = .ok (.istore 4, 2) := by decide +kernel
theorem d_Tide_book_65 : decode c_Tide_book 65 = .ok (.iload 4, 2) := by decide +kernel
theorem d_Tide_book_67 : decode c_Tide_book 67 = .ok (.aload_n 3, 1) := by decide +kernel
theorem d_Tide_book_68 : decode c_Tide_book 68 = .ok (.getfield 255, 3) := by decide +kernel
theorem d_Tide_book_71 : decode c_Tide_book 71 = .ok (.if_icmp .ge 23, 3) := by decide +kernel
theorem d_Tide_book_74 : decode c_Tide_book 74 = .ok (.aload_n 3, 1) := by decide +kernel
theorem d_Tide_book_75 : decode c_Tide_book 75 = .ok (.iload 4, 2) := by decide +kernel
theorem d_Tide_book_77 : decode c_Tide_book 77 = .ok (.aload_n 0, 1) := by decide +kernel
theorem d_Tide_book_78 : decode c_Tide_book 78 = .ok (.getfield 48, 3) := by decide +kernel
theorem d_Tide_book_81 : decode c_Tide_book 81 = .ok (.iload 4, 2) := by decide +kernel
theorem d_Tide_book_83 : decode c_Tide_book 83 = .ok (.iaload, 1) := by decide +kernel
theorem d_Tide_book_84 : decode c_Tide_book 84 = .ok (.i2l, 1) := by decide +kernel
theorem d_Tide_book_85 : decode c_Tide_book 85 = .ok (.invokevirtual 264, 3) := by decide +kernel
theorem d_Tide_book_88 : decode c_Tide_book 88 = .ok (.iinc 4 1, 3) := by decide +kernel
theorem d_Tide_book_91 : decode c_Tide_book 91 = .ok (.goto (-26), 3) := by decide +kernel
theorem d_Tide_book_94 : decode c_Tide_book 94 = .ok (.aload_n 3, 1) := by decide +kernel
theorem d_Tide_book_95 : decode c_Tide_book 95 = .ok (.getfield 255, 3) := by decide +kernel
theorem d_Tide_book_98 : decode c_Tide_book 98 = .ok (.ireturn, 1) := by decide +kernel
theorem d_Tide_isCourseWith_0 : decode c_Tide_isCourseWith 0 = .ok (.iconst 0, 1) := by decide +kernel
theorem d_Tide_isCourseWith_1 : decode c_Tide_isCourseWith 1 = .ok (.istore 4, 2) := by decide +kernel
theorem d_Tide_isCourseWith_3 : decode c_Tide_isCourseWith 3 = .ok (.iload 4, 2) := by decide +kernel
theorem d_Tide_isCourseWith_5 : decode c_Tide_isCourseWith 5 = .ok (.aload_n 1, 1) := by decide +kernel
theorem d_Tide_isCourseWith_6 : decode c_Tide_isCourseWith 6 = .ok (.getfield 255, 3) := by decide +kernel
theorem d_Tide_isCourseWith_9 : decode c_Tide_isCourseWith 9 = .ok (.if_icmp .ge 61, 3) := by decide +kernel
theorem d_Tide_isCourseWith_12 : decode c_Tide_isCourseWith 12 = .ok (.iload 4, 2) := by decide +kernel
theorem d_Tide_isCourseWith_14 : decode c_Tide_isCourseWith 14 = .ok (.bipush 40, 2) := by decide +kernel
theorem d_Tide_isCourseWith_16 : decode c_Tide_isCourseWith 16 = .ok (.if_icmp .ge 54, 3) := by decide +kernel
theorem d_Tide_isCourseWith_19 : decode c_Tide_isCourseWith 19 = .ok (.iload 4, 2) := by decide +kernel
theorem d_Tide_isCourseWith_21 : decode c_Tide_isCourseWith 21 = .ok (.iload_n 2, 1) := by decide +kernel
theorem d_Tide_isCourseWith_22 : decode c_Tide_isCourseWith 22 = .ok (.if_icmp .lt 17, 3) := by decide +kernel
theorem d_Tide_isCourseWith_25 : decode c_Tide_isCourseWith 25 = .ok (.aload_n 0, 1) := by decide +kernel
theorem d_Tide_isCourseWith_26 : decode c_Tide_isCourseWith 26 = .ok (.getfield 48, 3) := by decide +kernel
theorem d_Tide_isCourseWith_29 : decode c_Tide_isCourseWith 29 = .ok (.iload 4, 2) := by decide +kernel
theorem d_Tide_isCourseWith_31 : decode c_Tide_isCourseWith 31 = .ok (.iaload, 1) := by decide +kernel
theorem d_Tide_isCourseWith_32 : decode c_Tide_isCourseWith 32 = .ok (.iload_n 3, 1) := by decide +kernel
theorem d_Tide_isCourseWith_33 : decode c_Tide_isCourseWith 33 = .ok (.invokestatic 218, 3) := by decide +kernel
theorem d_Tide_isCourseWith_36 : decode c_Tide_isCourseWith 36 = .ok (.goto 10, 3) := by decide +kernel
theorem d_Tide_isCourseWith_39 : decode c_Tide_isCourseWith 39 = .ok (.aload_n 0, 1) := by decide +kernel
theorem d_Tide_isCourseWith_40 : decode c_Tide_isCourseWith 40 = .ok (.getfield 48, 3) := by decide +kernel
theorem d_Tide_isCourseWith_43 : decode c_Tide_isCourseWith 43 = .ok (.iload 4, 2) := by decide +kernel
theorem d_Tide_isCourseWith_45 : decode c_Tide_isCourseWith 45 = .ok (.iaload, 1) := by decide +kernel
theorem d_Tide_isCourseWith_46 : decode c_Tide_isCourseWith 46 = .ok (.istore 5, 2) := by decide +kernel
theorem d_Tide_isCourseWith_48 : decode c_Tide_isCourseWith 48 = .ok (.aload_n 1, 1) := by decide +kernel
theorem d_Tide_isCourseWith_49 : decode c_Tide_isCourseWith 49 = .ok (.getfield 260, 3) := by decide +kernel
theorem d_Tide_isCourseWith_52 : decode c_Tide_isCourseWith 52 = .ok (.iload 4, 2) := by decide +kernel
theorem d_Tide_isCourseWith_54 : decode c_Tide_isCourseWith 54 = .ok (.laload, 1) := by decide +kernel
theorem d_Tide_isCourseWith_55 : decode c_Tide_isCourseWith 55 = .ok (.iload 5, 2) := by decide +kernel
theorem d_Tide_isCourseWith_57 : decode c_Tide_isCourseWith 57 = .ok (.i2l, 1) := by decide +kernel
theorem d_Tide_isCourseWith_58 : decode c_Tide_isCourseWith 58 = .ok (.lcmp, 1) := by decide +kernel
theorem d_Tide_isCourseWith_59 : decode c_Tide_isCourseWith 59 = .ok (.ifCond .eq 5, 3) := by decide +kernel
theorem d_Tide_isCourseWith_62 : decode c_Tide_isCourseWith 62 = .ok (.iconst 0, 1) := by decide +kernel
theorem d_Tide_isCourseWith_63 : decode c_Tide_isCourseWith 63 = .ok (.ireturn, 1) := by decide +kernel
theorem d_Tide_isCourseWith_64 : decode c_Tide_isCourseWith 64 = .ok (.iinc 4 1, 3) := by decide +kernel
theorem d_Tide_isCourseWith_67 : decode c_Tide_isCourseWith 67 = .ok (.goto (-64), 3) := by decide +kernel
theorem d_Tide_isCourseWith_70 : decode c_Tide_isCourseWith 70 = .ok (.iconst 1, 1) := by decide +kernel
theorem d_Tide_isCourseWith_71 : decode c_Tide_isCourseWith 71 = .ok (.ireturn, 1) := by decide +kernel
theorem d_Tide_cellsThatFit_0 : decode c_Tide_cellsThatFit 0 = .ok (.iconst 0, 1) := by decide +kernel
theorem d_Tide_cellsThatFit_1 : decode c_Tide_cellsThatFit 1 = .ok (.istore 4, 2) := by decide +kernel
theorem d_Tide_cellsThatFit_3 : decode c_Tide_cellsThatFit 3 = .ok (.aload_n 0, 1) := by decide +kernel
theorem d_Tide_cellsThatFit_4 : decode c_Tide_cellsThatFit 4 = .ok (.getfield 54, 3) := by decide +kernel
theorem d_Tide_cellsThatFit_7 : decode c_Tide_cellsThatFit 7 = .ok (.iload_n 3, 1) := by decide +kernel
theorem d_Tide_cellsThatFit_8 : decode c_Tide_cellsThatFit 8 = .ok (.putfield 121, 3) := by decide +kernel
theorem d_Tide_cellsThatFit_11 : decode c_Tide_cellsThatFit 11 = .ok (.iconst 0, 1) := by decide +kernel
theorem d_Tide_cellsThatFit_12 : decode c_Tide_cellsThatFit 12 = .ok (.istore 5, 2) := by decide +kernel
theorem d_Tide_cellsThatFit_14 : decode c_Tide_cellsThatFit 14 = .ok (.iload 5, 2) := by decide +kernel
theorem d_Tide_cellsThatFit_16 : decode c_Tide_cellsThatFit 16 = .ok (.bipush 16, 2) := by decide +kernel
theorem d_Tide_cellsThatFit_18 : decode c_Tide_cellsThatFit 18 = .ok (.if_icmp .ge 84, 3) := by decide +kernel
theorem d_Tide_cellsThatFit_21 : decode c_Tide_cellsThatFit 21 = .ok (.aload_n 0, 1) := by decide +kernel
theorem d_Tide_cellsThatFit_22 : decode c_Tide_cellsThatFit 22 = .ok (.getfield 54, 3) := by decide +kernel
theorem d_Tide_cellsThatFit_25 : decode c_Tide_cellsThatFit 25 = .ok (.iload 5, 2) := by decide +kernel
theorem d_Tide_cellsThatFit_27 : decode c_Tide_cellsThatFit 27 = .ok (.invokevirtual 151, 3) := by decide +kernel
theorem d_Tide_cellsThatFit_30 : decode c_Tide_cellsThatFit 30 = .ok (.aload_n 0, 1) := by decide +kernel
theorem d_Tide_cellsThatFit_31 : decode c_Tide_cellsThatFit 31 = .ok (.iconst 0, 1) := by decide +kernel
theorem d_Tide_cellsThatFit_32 : decode c_Tide_cellsThatFit 32 = .ok (.aload_n 1, 1) := by decide +kernel
theorem d_Tide_cellsThatFit_33 : decode c_Tide_cellsThatFit 33 = .ok (.getfield 255, 3) := by decide +kernel
theorem d_Tide_cellsThatFit_36 : decode c_Tide_cellsThatFit 36 = .ok (.iconst 1, 1) := by decide +kernel
theorem d_Tide_cellsThatFit_37 : decode c_Tide_cellsThatFit 37 = .ok (.isub, 1) := by decide +kernel
theorem d_Tide_cellsThatFit_38 : decode c_Tide_cellsThatFit 38 = .ok (.invokevirtual 211, 3) := by decide +kernel
theorem d_Tide_cellsThatFit_41 : decode c_Tide_cellsThatFit 41 = .ok (.aload_n 0, 1) := by decide +kernel
theorem d_Tide_cellsThatFit_42 : decode c_Tide_cellsThatFit 42 = .ok (.getfield 54, 3) := by decide +kernel
theorem d_Tide_cellsThatFit_45 : decode c_Tide_cellsThatFit 45 = .ok (.getfield 124, 3) := by decide +kernel
theorem d_Tide_cellsThatFit_48 : decode c_Tide_cellsThatFit 48 = .ok (.iload_n 2, 1) := by decide +kernel
theorem d_Tide_cellsThatFit_49 : decode c_Tide_cellsThatFit 49 = .ok (.if_icmp .ne 24, 3) := by decide +kernel
theorem d_Tide_cellsThatFit_52 : decode c_Tide_cellsThatFit 52 = .ok (.aload_n 0, 1) := by decide +kernel
theorem d_Tide_cellsThatFit_53 : decode c_Tide_cellsThatFit 53 = .ok (.getfield 59, 3) := by decide +kernel
theorem d_Tide_cellsThatFit_56 : decode c_Tide_cellsThatFit 56 = .ok (.aload_n 0, 1) := by decide +kernel
theorem d_Tide_cellsThatFit_57 : decode c_Tide_cellsThatFit 57 = .ok (.getfield 54, 3) := by decide +kernel
theorem d_Tide_cellsThatFit_60 : decode c_Tide_cellsThatFit 60 = .ok (.aload_n 0, 1) := by decide +kernel
theorem d_Tide_cellsThatFit_61 : decode c_Tide_cellsThatFit 61 = .ok (.getfield 16, 3) := by decide +kernel
theorem d_Tide_cellsThatFit_64 : decode c_Tide_cellsThatFit 64 = .ok (.getfield 83, 3) := by decide +kernel
theorem d_Tide_cellsThatFit_67 : decode c_Tide_cellsThatFit 67 = .ok (.invokevirtual 214, 3) := by decide +kernel
theorem d_Tide_cellsThatFit_70 : decode c_Tide_cellsThatFit 70 = .ok (.goto 4, 3) := by decide +kernel
theorem d_Tide_cellsThatFit_73 : decode c_Tide_cellsThatFit 73 = .ok (.iconst 0, 1) := by decide +kernel
theorem d_Tide_cellsThatFit_74 : decode c_Tide_cellsThatFit 74 = .ok (.istore 6, 2) := by decide +kernel
theorem d_Tide_cellsThatFit_76 : decode c_Tide_cellsThatFit 76 = .ok (.aload_n 0, 1) := by decide +kernel
theorem d_Tide_cellsThatFit_77 : decode c_Tide_cellsThatFit 77 = .ok (.aload_n 1, 1) := by decide +kernel
theorem d_Tide_cellsThatFit_78 : decode c_Tide_cellsThatFit 78 = .ok (.aload_n 0, 1) := by decide +kernel
theorem d_Tide_cellsThatFit_79 : decode c_Tide_cellsThatFit 79 = .ok (.getfield 59, 3) := by decide +kernel
theorem d_Tide_cellsThatFit_82 : decode c_Tide_cellsThatFit 82 = .ok (.getfield 199, 3) := by decide +kernel
theorem d_Tide_cellsThatFit_85 : decode c_Tide_cellsThatFit 85 = .ok (.iload 6, 2) := by decide +kernel
theorem d_Tide_cellsThatFit_87 : decode c_Tide_cellsThatFit 87 = .ok (.invokevirtual 339, 3) := by decide +kernel
theorem d_Tide_cellsThatFit_90 : decode c_Tide_cellsThatFit 90 = .ok (.ifCond .eq 6, 3) := by decide +kernel
theorem d_Tide_cellsThatFit_93 : decode c_Tide_cellsThatFit 93 = .ok (.iinc 4 1, 3) := by decide +kernel
theorem d_Tide_cellsThatFit_96 : decode c_Tide_cellsThatFit 96 = .ok (.iinc 5 1, 3) := by decide +kernel
theorem d_Tide_cellsThatFit_99 : decode c_Tide_cellsThatFit 99 = .ok (.goto (-85), 3) := by decide +kernel
theorem d_Tide_cellsThatFit_102 : decode c_Tide_cellsThatFit 102 = .ok (.iload 4, 2) := by decide +kernel
theorem d_Tide_cellsThatFit_104 : decode c_Tide_cellsThatFit 104 = .ok (.ireturn, 1) := by decide +kernel
theorem d_Tide_read_0 : decode c_Tide_read 0 = .ok (.iload_n 1, 1) := by decide +kernel
theorem d_Tide_read_1 : decode c_Tide_read 1 = .ok (.iconst 4, 1) := by decide +kernel
theorem d_Tide_read_2 : decode c_Tide_read 2 = .ok (.invokestatic 64, 3) := by decide +kernel
theorem d_Tide_read_5 : decode c_Tide_read 5 = .ok (.ifCond .ne 10, 3) := by decide +kernel
theorem d_Tide_read_8 : decode c_Tide_read 8 = .ok (.aload_n 0, 1) := by decide +kernel
theorem d_Tide_read_9 : decode c_Tide_read 9 = .ok (.ldc 68, 2) := by decide +kernel
theorem d_Tide_read_11 : decode c_Tide_read 11 = .ok (.invokevirtual 69, 3) := by decide +kernel
theorem d_Tide_read_14 : decode c_Tide_read 14 = .ok (.ireturn, 1) := by decide +kernel
theorem d_Tide_read_15 : decode c_Tide_read 15 = .ok (.aload_n 0, 1) := by decide +kernel
theorem d_Tide_read_16 : decode c_Tide_read 16 = .ok (.getfield 35, 3) := by decide +kernel
theorem d_Tide_read_19 : decode c_Tide_read 19 = .ok (.iload_n 1, 1) := by decide +kernel
theorem d_Tide_read_20 : decode c_Tide_read 20 = .ok (.aaload, 1) := by decide +kernel
theorem d_Tide_read_21 : decode c_Tide_read 21 = .ok (.astore 4, 2) := by decide +kernel
theorem d_Tide_read_23 : decode c_Tide_read 23 = .ok (.aload 4, 2) := by decide +kernel
theorem d_Tide_read_25 : decode c_Tide_read 25 = .ok (.invokevirtual 256, 3) := by decide +kernel
theorem d_Tide_read_28 : decode c_Tide_read 28 = .ok (.ifCond .eq 11, 3) := by decide +kernel
theorem d_Tide_read_31 : decode c_Tide_read 31 = .ok (.aload_n 0, 1) := by decide +kernel
theorem d_Tide_read_32 : decode c_Tide_read 32 = .ok (.ldc_w 259, 3) := by decide +kernel
theorem d_Tide_read_35 : decode c_Tide_read 35 = .ok (.invokevirtual 69, 3) := by decide +kernel
theorem d_Tide_read_38 : decode c_Tide_read 38 = .ok (.ireturn, 1) := by decide +kernel
theorem d_Tide_read_39 : decode c_Tide_read 39 = .ok (.iload_n 2, 1) := by decide +kernel
theorem d_Tide_read_40 : decode c_Tide_read 40 = .ok (.iconst 4, 1) := by decide +kernel
theorem d_Tide_read_41 : decode c_Tide_read 41 = .ok (.invokestatic 64, 3) := by decide +kernel
theorem d_Tide_read_44 : decode c_Tide_read 44 = .ok (.ifCond .eq 14, 3) := by decide +kernel
theorem d_Tide_read_47 : decode c_Tide_read 47 = .ok (.aload_n 0, 1) := by decide +kernel
theorem d_Tide_read_48 : decode c_Tide_read 48 = .ok (.getfield 16, 3) := by decide +kernel
theorem d_Tide_read_51 : decode c_Tide_read 51 = .ok (.iload_n 3, 1) := by decide +kernel
theorem d_Tide_read_52 : decode c_Tide_read 52 = .ok (.invokevirtual 114, 3) := by decide +kernel
theorem d_Tide_read_55 : decode c_Tide_read 55 = .ok (.ifCond .ne 10, 3) := by decide +kernel
theorem d_Tide_read_58 : decode c_Tide_read 58 = .ok (.aload_n 0, 1) := by decide +kernel
theorem d_Tide_read_59 : decode c_Tide_read 59 = .ok (.ldc 68, 2) := by decide +kernel
theorem d_Tide_read_61 : decode c_Tide_read 61 = .ok (.invokevirtual 69, 3) := by decide +kernel
theorem d_Tide_read_64 : decode c_Tide_read 64 = .ok (.ireturn, 1) := by decide +kernel
theorem d_Tide_read_65 : decode c_Tide_read 65 = .ok (.aload_n 0, 1) := by decide +kernel
theorem d_Tide_read_66 : decode c_Tide_read 66 = .ok (.getfield 16, 3) := by decide +kernel
theorem d_Tide_read_69 : decode c_Tide_read 69 = .ok (.getfield 117, 3) := by decide +kernel
theorem d_Tide_read_72 : decode c_Tide_read 72 = .ok (.iload_n 3, 1) := by decide +kernel
theorem d_Tide_read_73 : decode c_Tide_read 73 = .ok (.aaload, 1) := by decide +kernel
theorem d_Tide_read_74 : decode c_Tide_read 74 = .ok (.getfield 133, 3) := by decide +kernel
theorem d_Tide_read_77 : decode c_Tide_read 77 = .ok (.iconst 2, 1) := by decide +kernel
theorem d_Tide_read_78 : decode c_Tide_read 78 = .ok (.if_icmp .ne 10, 3) := by decide +kernel
theorem d_Tide_read_81 : decode c_Tide_read 81 = .ok (.aload_n 0, 1) := by decide +kernel
theorem d_Tide_read_82 : decode c_Tide_read 82 = .ok (.ldc 150, 2) := by decide +kernel
theorem d_Tide_read_84 : decode c_Tide_read 84 = .ok (.invokevirtual 69, 3) := by decide +kernel
theorem d_Tide_read_87 : decode c_Tide_read 87 = .ok (.ireturn, 1) := by decide +kernel
theorem d_Tide_read_88 : decode c_Tide_read 88 = .ok (.aload_n 0, 1) := by decide +kernel
theorem d_Tide_read_89 : decode c_Tide_read 89 = .ok (.iload_n 2, 1) := by decide +kernel
theorem d_Tide_read_90 : decode c_Tide_read 90 = .ok (.iload_n 3, 1) := by decide +kernel
theorem d_Tide_read_91 : decode c_Tide_read 91 = .ok (.aload 4, 2) := by decide +kernel
theorem d_Tide_read_93 : decode c_Tide_read 93 = .ok (.getfield 255, 3) := by decide +kernel
theorem d_Tide_read_96 : decode c_Tide_read 96 = .ok (.invokevirtual 281, 3) := by decide +kernel
theorem d_Tide_read_99 : decode c_Tide_read 99 = .ok (.aload_n 0, 1) := by decide +kernel
theorem d_Tide_read_100 : decode c_Tide_read 100 = .ok (.getfield 54, 3) := by decide +kernel
theorem d_Tide_read_103 : decode c_Tide_read 103 = .ok (.aload_n 0, 1) := by decide +kernel
theorem d_Tide_read_104 : decode c_Tide_read 104 = .ok (.getfield 16, 3) := by decide +kernel
theorem d_Tide_read_107 : decode c_Tide_read 107 = .ok (.getfield 117, 3) := by decide +kernel
theorem d_Tide_read_110 : decode c_Tide_read 110 = .ok (.iload_n 3, 1) := by decide +kernel
theorem d_Tide_read_111 : decode c_Tide_read 111 = .ok (.aaload, 1) := by decide +kernel
theorem d_Tide_read_112 : decode c_Tide_read 112 = .ok (.invokevirtual 285, 3) := by decide +kernel
theorem d_Tide_read_115 : decode c_Tide_read 115 = .ok (.iconst 0, 1) := by decide +kernel
theorem d_Tide_read_116 : decode c_Tide_read 116 = .ok (.istore 5, 2) := by decide +kernel
theorem d_Tide_read_118 : decode c_Tide_read 118 = .ok (.iconst 0, 1) := by decide +kernel
theorem d_Tide_read_119 : decode c_Tide_read 119 = .ok (.istore 6, 2) := by decide +kernel
theorem d_Tide_read_121 : decode c_Tide_read 121 = .ok (.iload 6, 2) := by decide +kernel
theorem d_Tide_read_123 : decode c_Tide_read 123 = .ok (.bipush 6, 2) := by decide +kernel
theorem d_Tide_read_125 : decode c_Tide_read 125 = .ok (.if_icmp .ge 23, 3) := by decide +kernel
theorem d_Tide_read_128 : decode c_Tide_read 128 = .ok (.iload 5, 2) := by decide +kernel
theorem d_Tide_read_130 : decode c_Tide_read 130 = .ok (.aload_n 0, 1) := by decide +kernel
theorem d_Tide_read_131 : decode c_Tide_read 131 = .ok (.aload 4, 2) := by decide +kernel
theorem d_Tide_read_133 : decode c_Tide_read 133 = .ok (.iload_n 2, 1) := by decide +kernel
theorem d_Tide_read_134 : decode c_Tide_read 134 = .ok (.iload 6, 2) := by decide +kernel
theorem d_Tide_read_136 : decode c_Tide_read 136 = .ok (.invokevirtual 288, 3) := by decide +kernel
theorem d_Tide_read_139 : decode c_Tide_read 139 = .ok (.iadd, 1) := by decide +kernel
theorem d_Tide_read_140 : decode c_Tide_read 140 = .ok (.istore 5, 2) := by decide +kernel
theorem d_Tide_read_142 : decode c_Tide_read 142 = .ok (.iinc 6 1, 3) := by decide +kernel
theorem d_Tide_read_145 : decode c_Tide_read 145 = .ok (.goto (-24), 3) := by decide +kernel
theorem d_Tide_read_148 : decode c_Tide_read 148 = .ok (.iload 5, 2) := by decide +kernel
theorem d_Tide_read_150 : decode c_Tide_read 150 = .ok (.ireturn, 1) := by decide +kernel
theorem d_Tide_image_0 : decode c_Tide_image 0 = .ok (.aload_n 0, 1) := by decide +kernel
theorem d_Tide_image_1 : decode c_Tide_image 1 = .ok (.getfield 20, 3) := by decide +kernel
theorem d_Tide_image_4 : decode c_Tide_image 4 = .ok (.aload_n 0, 1) := by decide +kernel
theorem d_Tide_image_5 : decode c_Tide_image 5 = .ok (.getfield 16, 3) := by decide +kernel
theorem d_Tide_image_8 : decode c_Tide_image 8 = .ok (.invokevirtual 241, 3) := by decide +kernel
theorem d_Tide_image_11 : decode c_Tide_image 11 = .ok (.aload_n 0, 1) := by decide +kernel
