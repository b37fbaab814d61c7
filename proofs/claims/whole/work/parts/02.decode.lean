theorem dX0_init_0 : decode cX0_init 0 = .ok (.aload_n 0, 1) := by decide +kernel
theorem dX0_init_1 : decode cX0_init 1 = .ok (.invokespecial 3, 3) := by decide +kernel
theorem dX0_init_4 : decode cX0_init 4 = .ok (.aload_n 0, 1) := by decide +kernel
theorem dX0_init_5 : decode cX0_init 5 = .ok (.sipush 336, 3) := by decide +kernel
theorem dX0_init_8 : decode cX0_init 8 = .ok (.newarray .int, 2) := by decide +kernel
theorem dX0_init_10 : decode cX0_init 10 = .ok (.putfield 9, 3) := by decide +kernel
theorem dX0_init_13 : decode cX0_init 13 = .ok (.aload_n 0, 1) := by decide +kernel
theorem dX0_init_14 : decode cX0_init 14 = .ok (.iconst 0, 1) := by decide +kernel
theorem dX0_init_15 : decode cX0_init 15 = .ok (.putfield 15, 3) := by decide +kernel
theorem dX0_init_18 : decode cX0_init 18 = .ok (.aload_n 0, 1) := by decide +kernel
theorem dX0_init_19 : decode cX0_init 19 = .ok (.iconst 0, 1) := by decide +kernel
theorem dX0_init_20 : decode cX0_init 20 = .ok (.putfield 19, 3) := by decide +kernel
theorem dX0_init_23 : decode cX0_init 23 = .ok (.return_, 1) := by decide +kernel
theorem dX0_keep_0 : decode cX0_keep 0 = .ok (.aload_n 0, 1) := by decide +kernel
theorem dX0_keep_1 : decode cX0_keep 1 = .ok (.getfield 19, 3) := by decide +kernel
theorem dX0_keep_4 : decode cX0_keep 4 = .ok (.iconst 4, 1) := by decide +kernel
theorem dX0_keep_5 : decode cX0_keep 5 = .ok (.if_icmp .lt 25, 3) := by decide +kernel
theorem dX0_keep_8 : decode cX0_keep 8 = .ok (.aload_n 0, 1) := by decide +kernel
theorem dX0_keep_9 : decode cX0_keep 9 = .ok (.aload_n 0, 1) := by decide +kernel
theorem dX0_keep_10 : decode cX0_keep 10 = .ok (.getfield 15, 3) := by decide +kernel
theorem dX0_keep_13 : decode cX0_keep 13 = .ok (.iconst 1, 1) := by decide +kernel
theorem dX0_keep_14 : decode cX0_keep 14 = .ok (.iadd, 1) := by decide +kernel
theorem dX0_keep_15 : decode cX0_keep 15 = .ok (.iconst 4, 1) := by decide +kernel
theorem dX0_keep_16 : decode cX0_keep 16 = .ok (.irem, 1) := by decide +kernel
theorem dX0_keep_17 : decode cX0_keep 17 = .ok (.putfield 15, 3) := by decide +kernel
theorem dX0_keep_20 : decode cX0_keep 20 = .ok (.aload_n 0, 1) := by decide +kernel
theorem dX0_keep_21 : decode cX0_keep 21 = .ok (.dup, 1) := by decide +kernel
theorem dX0_keep_22 : decode cX0_keep 22 = .ok (.getfield 19, 3) := by decide +kernel
theorem dX0_keep_25 : decode cX0_keep 25 = .ok (.iconst 1, 1) := by decide +kernel
theorem dX0_keep_26 : decode cX0_keep 26 = .ok (.isub, 1) := by decide +kernel
theorem dX0_keep_27 : decode cX0_keep 27 = .ok (.putfield 19, 3) := by decide +kernel
theorem dX0_keep_30 : decode cX0_keep 30 = .ok (.aload_n 0, 1) := by decide +kernel
theorem dX0_keep_31 : decode cX0_keep 31 = .ok (.aload_n 0, 1) := by decide +kernel
theorem dX0_keep_32 : decode cX0_keep 32 = .ok (.getfield 19, 3) := by decide +kernel
theorem dX0_keep_35 : decode cX0_keep 35 = .ok (.invokevirtual 22, 3) := by decide +kernel
theorem dX0_keep_38 : decode cX0_keep 38 = .ok (.istore_n 3, 1) := by decide +kernel
theorem dX0_keep_39 : decode cX0_keep 39 = .ok (.aload_n 1, 1) := by decide +kernel
theorem dX0_keep_40 : decode cX0_keep 40 = .ok (.aload_n 0, 1) := by decide +kernel
theorem dX0_keep_41 : decode cX0_keep 41 = .ok (.getfield 9, 3) := by decide +kernel
theorem dX0_keep_44 : decode cX0_keep 44 = .ok (.iload_n 3, 1) := by decide +kernel
theorem dX0_keep_45 : decode cX0_keep 45 = .ok (.invokevirtual 26, 3) := by decide +kernel
theorem dX0_keep_48 : decode cX0_keep 48 = .ok (.aload_n 2, 1) := by decide +kernel
theorem dX0_keep_49 : decode cX0_keep 49 = .ok (.aload_n 0, 1) := by decide +kernel
theorem dX0_keep_50 : decode cX0_keep 50 = .ok (.getfield 9, 3) := by decide +kernel
theorem dX0_keep_53 : decode cX0_keep 53 = .ok (.iload_n 3, 1) := by decide +kernel
theorem dX0_keep_54 : decode cX0_keep 54 = .ok (.bipush 42, 2) := by decide +kernel
theorem dX0_keep_56 : decode cX0_keep 56 = .ok (.iadd, 1) := by decide +kernel
theorem dX0_keep_57 : decode cX0_keep 57 = .ok (.invokevirtual 26, 3) := by decide +kernel
theorem dX0_keep_60 : decode cX0_keep 60 = .ok (.aload_n 0, 1) := by decide +kernel
theorem dX0_keep_61 : decode cX0_keep 61 = .ok (.dup, 1) := by decide +kernel
theorem dX0_keep_62 : decode cX0_keep 62 = .ok (.getfield 19, 3) := by decide +kernel
theorem dX0_keep_65 : decode cX0_keep 65 = .ok (.iconst 1, 1) := by decide +kernel
theorem dX0_keep_66 : decode cX0_keep 66 = .ok (.iadd, 1) := by decide +kernel
theorem dX0_keep_67 : decode cX0_keep 67 = .ok (.putfield 19, 3) := by decide +kernel
theorem dX0_keep_70 : decode cX0_keep 70 = .ok (.return_, 1) := by decide +kernel
theorem dX0_restore_0 : decode cX0_restore 0 = .ok (.aload_n 0, 1) := by decide +kernel
theorem dX0_restore_1 : decode cX0_restore 1 = .ok (.getfield 19, 3) := by decide +kernel
theorem dX0_restore_4 : decode cX0_restore 4 = .ok (.iconst 1, 1) := by decide +kernel
theorem dX0_restore_5 : decode cX0_restore 5 = .ok (.if_icmp .ge 4, 3) := by decide +kernel
theorem dX0_restore_8 : decode cX0_restore 8 = .ok (.return_, 1) := by decide +kernel
theorem dX0_restore_9 : decode cX0_restore 9 = .ok (.aload_n 0, 1) := by decide +kernel
theorem dX0_restore_10 : decode cX0_restore 10 = .ok (.dup, 1) := by decide +kernel
theorem dX0_restore_11 : decode cX0_restore 11 = .ok (.getfield 19, 3) := by decide +kernel
theorem dX0_restore_14 : decode cX0_restore 14 = .ok (.iconst 1, 1) := by decide +kernel
theorem dX0_restore_15 : decode cX0_restore 15 = .ok (.isub, 1) := by decide +kernel
theorem dX0_restore_16 : decode cX0_restore 16 = .ok (.putfield 19, 3) := by decide +kernel
theorem dX0_restore_19 : decode cX0_restore 19 = .ok (.aload_n 0, 1) := by decide +kernel
theorem dX0_restore_20 : decode cX0_restore 20 = .ok (.aload_n 0, 1) := by decide +kernel
theorem dX0_restore_21 : decode cX0_restore 21 = .ok (.getfield 19, 3) := by decide +kernel
theorem dX0_restore_24 : decode cX0_restore 24 = .ok (.invokevirtual 22, 3) := by decide +kernel
theorem dX0_restore_27 : decode cX0_restore 27 = .ok (.istore_n 3, 1) := by decide +kernel
theorem dX0_restore_28 : decode cX0_restore 28 = .ok (.aload_n 1, 1) := by decide +kernel
theorem dX0_restore_29 : decode cX0_restore 29 = .ok (.aload_n 0, 1) := by decide +kernel
theorem dX0_restore_30 : decode cX0_restore 30 = .ok (.getfield 9, 3) := by decide +kernel
theorem dX0_restore_33 : decode cX0_restore 33 = .ok (.iload_n 3, 1) := by decide +kernel
theorem dX0_restore_34 : decode cX0_restore 34 = .ok (.invokevirtual 32, 3) := by decide +kernel
theorem dX0_restore_37 : decode cX0_restore 37 = .ok (.aload_n 2, 1) := by decide +kernel
theorem dX0_restore_38 : decode cX0_restore 38 = .ok (.aload_n 0, 1) := by decide +kernel
theorem dX0_restore_39 : decode cX0_restore 39 = .ok (.getfield 9, 3) := by decide +kernel
theorem dX0_restore_42 : decode cX0_restore 42 = .ok (.iload_n 3, 1) := by decide +kernel
theorem dX0_restore_43 : decode cX0_restore 43 = .ok (.bipush 42, 2) := by decide +kernel
theorem dX0_restore_45 : decode cX0_restore 45 = .ok (.iadd, 1) := by decide +kernel
theorem dX0_restore_46 : decode cX0_restore 46 = .ok (.invokevirtual 32, 3) := by decide +kernel
theorem dX0_restore_49 : decode cX0_restore 49 = .ok (.return_, 1) := by decide +kernel
theorem dX0_startOf_0 : decode cX0_startOf 0 = .ok (.aload_n 0, 1) := by decide +kernel
theorem dX0_startOf_1 : decode cX0_startOf 1 = .ok (.getfield 15, 3) := by decide +kernel
theorem dX0_startOf_4 : decode cX0_startOf 4 = .ok (.iload_n 1, 1) := by decide +kernel
theorem dX0_startOf_5 : decode cX0_startOf 5 = .ok (.iadd, 1) := by decide +kernel
theorem dX0_startOf_6 : decode cX0_startOf 6 = .ok (.iconst 4, 1) := by decide +kernel
theorem dX0_startOf_7 : decode cX0_startOf 7 = .ok (.irem, 1) := by decide +kernel
theorem dX0_startOf_8 : decode cX0_startOf 8 = .ok (.bipush 84, 2) := by decide +kernel
theorem dX0_startOf_10 : decode cX0_startOf 10 = .ok (.imul, 1) := by decide +kernel
theorem dX0_startOf_11 : decode cX0_startOf 11 = .ok (.ireturn, 1) := by decide +kernel
theorem dX1_init_0 : decode cX1_init 0 = .ok (.aload_n 0, 1) := by decide +kernel
theorem dX1_init_1 : decode cX1_init 1 = .ok (.invokespecial 3, 3) := by decide +kernel
theorem dX1_init_4 : decode cX1_init 4 = .ok (.aload_n 0, 1) := by decide +kernel
theorem dX1_init_5 : decode cX1_init 5 = .ok (.bipush 40, 2) := by decide +kernel
theorem dX1_init_7 : decode cX1_init 7 = .ok (.newarray .int, 2) := by decide +kernel
theorem dX1_init_9 : decode cX1_init 9 = .ok (.putfield 9, 3) := by decide +kernel
theorem dX1_init_12 : decode cX1_init 12 = .ok (.aload_n 0, 1) := by decide +kernel
theorem dX1_init_13 : decode cX1_init 13 = .ok (.iconst 0, 1) := by decide +kernel
theorem dX1_init_14 : decode cX1_init 14 = .ok (.putfield 15, 3) := by decide +kernel
theorem dX1_init_17 : decode cX1_init 17 = .ok (.aload_n 0, 1) := by decide +kernel
theorem dX1_init_18 : decode cX1_init 18 = .ok (.sipush 1024, 3) := by decide +kernel
theorem dX1_init_21 : decode cX1_init 21 = .ok (.putfield 19, 3) := by decide +kernel
theorem dX1_init_24 : decode cX1_init 24 = .ok (.return_, 1) := by decide +kernel
theorem dX1_numberAt_0 : decode cX1_numberAt 0 = .ok (.iload_n 1, 1) := by decide +kernel
theorem dX1_numberAt_1 : decode cX1_numberAt 1 = .ok (.ifCond .lt 29, 3) := by decide +kernel
theorem dX1_numberAt_4 : decode cX1_numberAt 4 = .ok (.iload_n 1, 1) := by decide +kernel
theorem dX1_numberAt_5 : decode cX1_numberAt 5 = .ok (.aload_n 0, 1) := by decide +kernel
theorem dX1_numberAt_6 : decode cX1_numberAt 6 = .ok (.getfield 15, 3) := by decide +kernel
theorem dX1_numberAt_9 : decode cX1_numberAt 9 = .ok (.if_icmp .ge 21, 3) := by decide +kernel
theorem dX1_numberAt_12 : decode cX1_numberAt 12 = .ok (.iload_n 1, 1) := by decide +kernel
theorem dX1_numberAt_13 : decode cX1_numberAt 13 = .ok (.aload_n 0, 1) := by decide +kernel
theorem dX1_numberAt_14 : decode cX1_numberAt 14 = .ok (.getfield 9, 3) := by decide +kernel
theorem dX1_numberAt_17 : decode cX1_numberAt 17 = .ok (.arraylength, 1) := by decide +kernel
theorem dX1_numberAt_18 : decode cX1_numberAt 18 = .ok (.if_icmp .ge 12, 3) := by decide +kernel
theorem dX1_numberAt_21 : decode cX1_numberAt 21 = .ok (.aload_n 0, 1) := by decide +kernel
theorem dX1_numberAt_22 : decode cX1_numberAt 22 = .ok (.getfield 9, 3) := by decide +kernel
theorem dX1_numberAt_25 : decode cX1_numberAt 25 = .ok (.iload_n 1, 1) := by decide +kernel
theorem dX1_numberAt_26 : decode cX1_numberAt 26 = .ok (.iaload, 1) := by decide +kernel
theorem dX1_numberAt_27 : decode cX1_numberAt 27 = .ok (.goto 4, 3) := by decide +kernel
theorem dX1_numberAt_30 : decode cX1_numberAt 30 = .ok (.iconst 0, 1) := by decide +kernel
theorem dX1_numberAt_31 : decode cX1_numberAt 31 = .ok (.ireturn, 1) := by decide +kernel
theorem dX1_put_0 : decode cX1_put 0 = .ok (.iload_n 1, 1) := by decide +kernel
theorem dX1_put_1 : decode cX1_put 1 = .ok (.ifCond .lt 19, 3) := by decide +kernel
theorem dX1_put_4 : decode cX1_put 4 = .ok (.iload_n 1, 1) := by decide +kernel
theorem dX1_put_5 : decode cX1_put 5 = .ok (.aload_n 0, 1) := by decide +kernel
theorem dX1_put_6 : decode cX1_put 6 = .ok (.getfield 9, 3) := by decide +kernel
theorem dX1_put_9 : decode cX1_put 9 = .ok (.arraylength, 1) := by decide +kernel
theorem dX1_put_10 : decode cX1_put 10 = .ok (.if_icmp .ge 10, 3) := by decide +kernel
theorem dX1_put_13 : decode cX1_put 13 = .ok (.aload_n 0, 1) := by decide +kernel
theorem dX1_put_14 : decode cX1_put 14 = .ok (.getfield 9, 3) := by decide +kernel
theorem dX1_put_17 : decode cX1_put 17 = .ok (.iload_n 1, 1) := by decide +kernel
theorem dX1_put_18 : decode cX1_put 18 = .ok (.iload_n 2, 1) := by decide +kernel
theorem dX1_put_19 : decode cX1_put 19 = .ok (.iastore, 1) := by decide +kernel
theorem dX1_put_20 : decode cX1_put 20 = .ok (.return_, 1) := by decide +kernel
theorem dX1_insert_0 : decode cX1_insert 0 = .ok (.aload_n 0, 1) := by decide +kernel
theorem dX1_insert_1 : decode cX1_insert 1 = .ok (.iload_n 1, 1) := by decide +kernel
theorem dX1_insert_2 : decode cX1_insert 2 = .ok (.iconst 1, 1) := by decide +kernel
theorem dX1_insert_3 : decode cX1_insert 3 = .ok (.iadd, 1) := by decide +kernel
theorem dX1_insert_4 : decode cX1_insert 4 = .ok (.invokevirtual 22, 3) := by decide +kernel
theorem dX1_insert_7 : decode cX1_insert 7 = .ok (.istore_n 2, 1) := by decide +kernel
theorem dX1_insert_8 : decode cX1_insert 8 = .ok (.aload_n 0, 1) := by decide +kernel
theorem dX1_insert_9 : decode cX1_insert 9 = .ok (.getfield 15, 3) := by decide +kernel
theorem dX1_insert_12 : decode cX1_insert 12 = .ok (.bipush 40, 2) := by decide +kernel
theorem dX1_insert_14 : decode cX1_insert 14 = .ok (.if_icmp .ge 47, 3) := by decide +kernel
theorem dX1_insert_17 : decode cX1_insert 17 = .ok (.aload_n 0, 1) := by decide +kernel
theorem dX1_insert_18 : decode cX1_insert 18 = .ok (.getfield 15, 3) := by decide +kernel
theorem dX1_insert_21 : decode cX1_insert 21 = .ok (.istore_n 3, 1) := by decide +kernel
theorem dX1_insert_22 : decode cX1_insert 22 = .ok (.iload_n 3, 1) := by decide +kernel
theorem dX1_insert_23 : decode cX1_insert 23 = .ok (.iload_n 2, 1) := by decide +kernel
theorem dX1_insert_24 : decode cX1_insert 24 = .ok (.if_icmp .le 21, 3) := by decide +kernel
theorem dX1_insert_27 : decode cX1_insert 27 = .ok (.aload_n 0, 1) := by decide +kernel
theorem dX1_insert_28 : decode cX1_insert 28 = .ok (.iload_n 3, 1) := by decide +kernel
theorem dX1_insert_29 : decode cX1_insert 29 = .ok (.aload_n 0, 1) := by decide +kernel
theorem dX1_insert_30 : decode cX1_insert 30 = .ok (.iload_n 3, 1) := by decide +kernel
theorem dX1_insert_31 : decode cX1_insert 31 = .ok (.iconst 1, 1) := by decide +kernel
theorem dX1_insert_32 : decode cX1_insert 32 = .ok (.isub, 1) := by decide +kernel
theorem dX1_insert_33 : decode cX1_insert 33 = .ok (.invokevirtual 26, 3) := by decide +kernel
theorem dX1_insert_36 : decode cX1_insert 36 = .ok (.invokevirtual 29, 3) := by decide +kernel
theorem dX1_insert_39 : decode cX1_insert 39 = .ok (.iinc 3 (-1), 3) := by decide +kernel
theorem dX1_insert_42 : decode cX1_insert 42 = .ok (.goto (-20), 3) := by decide +kernel
theorem dX1_insert_45 : decode cX1_insert 45 = .ok (.aload_n 0, 1) := by decide +kernel
theorem dX1_insert_46 : decode cX1_insert 46 = .ok (.iload_n 2, 1) := by decide +kernel
theorem dX1_insert_47 : decode cX1_insert 47 = .ok (.iload_n 1, 1) := by decide +kernel
theorem dX1_insert_48 : decode cX1_insert 48 = .ok (.invokevirtual 29, 3) := by decide +kernel
theorem dX1_insert_51 : decode cX1_insert 51 = .ok (.aload_n 0, 1) := by decide +kernel
theorem dX1_insert_52 : decode cX1_insert 52 = .ok (.dup, 1) := by decide +kernel
theorem dX1_insert_53 : decode cX1_insert 53 = .ok (.getfield 15, 3) := by decide +kernel
theorem dX1_insert_56 : decode cX1_insert 56 = .ok (.iconst 1, 1) := by decide +kernel
theorem dX1_insert_57 : decode cX1_insert 57 = .ok (.iadd, 1) := by decide +kernel
theorem dX1_insert_58 : decode cX1_insert 58 = .ok (.putfield 15, 3) := by decide +kernel
theorem dX1_insert_61 : decode cX1_insert 61 = .ok (.iload_n 2, 1) := by decide +kernel
theorem dX1_insert_62 : decode cX1_insert 62 = .ok (.ireturn, 1) := by decide +kernel
theorem dX1_remove_0 : decode cX1_remove 0 = .ok (.aload_n 0, 1) := by decide +kernel
theorem dX1_remove_1 : decode cX1_remove 1 = .ok (.iload_n 1, 1) := by decide +kernel
theorem dX1_remove_2 : decode cX1_remove 2 = .ok (.invokevirtual 26, 3) := by decide +kernel
theorem dX1_remove_5 : decode cX1_remove 5 = .ok (.istore_n 2, 1) := by decide +kernel
theorem dX1_remove_6 : decode cX1_remove 6 = .ok (.iload_n 1, 1) := by decide +kernel
theorem dX1_remove_7 : decode cX1_remove 7 = .ok (.ifCond .lt 51, 3) := by decide +kernel
theorem dX1_remove_10 : decode cX1_remove 10 = .ok (.iload_n 1, 1) := by decide +kernel
theorem dX1_remove_11 : decode cX1_remove 11 = .ok (.aload_n 0, 1) := by decide +kernel
theorem dX1_remove_12 : decode cX1_remove 12 = .ok (.getfield 15, 3) := by decide +kernel
theorem dX1_remove_15 : decode cX1_remove 15 = .ok (.if_icmp .ge 43, 3) := by decide +kernel
theorem dX1_remove_18 : decode cX1_remove 18 = .ok (.iload_n 1, 1) := by decide +kernel
theorem dX1_remove_19 : decode cX1_remove 19 = .ok (.istore_n 3, 1) := by decide +kernel
theorem dX1_remove_20 : decode cX1_remove 20 = .ok (.iload_n 3, 1) := by decide +kernel
theorem dX1_remove_21 : decode cX1_remove 21 = .ok (.aload_n 0, 1) := by decide +kernel
theorem dX1_remove_22 : decode cX1_remove 22 = .ok (.getfield 15, 3) := by decide +kernel
theorem dX1_remove_25 : decode cX1_remove 25 = .ok (.iconst 1, 1) := by decide +kernel
theorem dX1_remove_26 : decode cX1_remove 26 = .ok (.isub, 1) := by decide +kernel
theorem dX1_remove_27 : decode cX1_remove 27 = .ok (.if_icmp .ge 21, 3) := by decide +kernel
theorem dX1_remove_30 : decode cX1_remove 30 = .ok (.aload_n 0, 1) := by decide +kernel
theorem dX1_remove_31 : decode cX1_remove 31 = .ok (.iload_n 3, 1) := by decide +kernel
theorem dX1_remove_32 : decode cX1_remove 32 = .ok (.aload_n 0, 1) := by decide +kernel
theorem dX1_remove_33 : decode cX1_remove 33 = .ok (.iload_n 3, 1) := by decide +kernel
theorem dX1_remove_34 : decode cX1_remove 34 = .ok (.iconst 1, 1) := by decide +kernel
theorem dX1_remove_35 : decode cX1_remove 35 = .ok (.iadd, 1) := by decide +kernel
theorem dX1_remove_36 : decode cX1_remove 36 = .ok (.invokevirtual 26, 3) := by decide +kernel
theorem dX1_remove_39 : decode cX1_remove 39 = .ok (.invokevirtual 29, 3) := by decide +kernel
theorem dX1_remove_42 : decode cX1_remove 42 = .ok (.iinc 3 1, 3) := by decide +kernel
theorem dX1_remove_45 : decode cX1_remove 45 = .ok (.goto (-25), 3) := by decide +kernel
theorem dX1_remove_48 : decode cX1_remove 48 = .ok (.aload_n 0, 1) := by decide +kernel
theorem dX1_remove_49 : decode cX1_remove 49 = .ok (.dup, 1) := by decide +kernel
theorem dX1_remove_50 : decode cX1_remove 50 = .ok (.getfield 15, 3) := by decide +kernel
theorem dX1_remove_53 : decode cX1_remove 53 = .ok (.iconst 1, 1) := by decide +kernel
theorem dX1_remove_54 : decode cX1_remove 54 = .ok (.isub, 1) := by decide +kernel
theorem dX1_remove_55 : decode cX1_remove 55 = .ok (.putfield 15, 3) := by decide +kernel
theorem dX1_remove_58 : decode cX1_remove 58 = .ok (.iload_n 2, 1) := by decide +kernel
theorem dX1_remove_59 : decode cX1_remove 59 = .ok (.ireturn, 1) := by decide +kernel
theorem dX1_dropRepeated_0 : decode cX1_dropRepeated 0 = .ok (.iconst 0, 1) := by decide +kernel
theorem dX1_dropRepeated_1 : decode cX1_dropRepeated 1 = .ok (.istore_n 1, 1) := by decide +kernel
theorem dX1_dropRepeated_2 : decode cX1_dropRepeated 2 = .ok (.iconst 0, 1) := by decide +kernel
theorem dX1_dropRepeated_3 : decode cX1_dropRepeated 3 = .ok (.istore_n 2, 1) := by decide +kernel
theorem dX1_dropRepeated_4 : decode cX1_dropRepeated 4 = .ok (.iload_n 2, 1) := by decide +kernel
theorem dX1_dropRepeated_5 : decode cX1_dropRepeated 5 = .ok (.aload_n 0, 1) := by decide +kernel
theorem dX1_dropRepeated_6 : decode cX1_dropRepeated 6 = .ok (.getfield 15, 3) := by decide +kernel
theorem dX1_dropRepeated_9 : decode cX1_dropRepeated 9 = .ok (.if_icmp .ge 39, 3) := by decide +kernel
theorem dX1_dropRepeated_12 : decode cX1_dropRepeated 12 = .ok (.aload_n 0, 1) := by decide +kernel
theorem dX1_dropRepeated_13 : decode cX1_dropRepeated 13 = .ok (.iload_n 2, 1) := by decide +kernel
theorem dX1_dropRepeated_14 : decode cX1_dropRepeated 14 = .ok (.invokevirtual 26, 3) := by decide +kernel
theorem dX1_dropRepeated_17 : decode cX1_dropRepeated 17 = .ok (.istore_n 3, 1) := by decide +kernel
theorem dX1_dropRepeated_18 : decode cX1_dropRepeated 18 = .ok (.iload_n 1, 1) := by decide +kernel
theorem dX1_dropRepeated_19 : decode cX1_dropRepeated 19 = .ok (.ifCond .eq 14, 3) := by decide +kernel
theorem dX1_dropRepeated_22 : decode cX1_dropRepeated 22 = .ok (.aload_n 0, 1) := by decide +kernel
theorem dX1_dropRepeated_23 : decode cX1_dropRepeated 23 = .ok (.iload_n 1, 1) := by decide +kernel
theorem dX1_dropRepeated_24 : decode cX1_dropRepeated 24 = .ok (.iconst 1, 1) := by decide +kernel
theorem dX1_dropRepeated_25 : decode cX1_dropRepeated 25 = .ok (.isub, 1) := by decide +kernel
theorem dX1_dropRepeated_26 : decode cX1_dropRepeated 26 = .ok (.invokevirtual 26, 3) := by decide +kernel
theorem dX1_dropRepeated_29 : decode cX1_dropRepeated 29 = .ok (.iload_n 3, 1) := by decide +kernel
theorem dX1_dropRepeated_30 : decode cX1_dropRepeated 30 = .ok (.if_icmp .eq 12, 3) := by decide +kernel
theorem dX1_dropRepeated_33 : decode cX1_dropRepeated 33 = .ok (.aload_n 0, 1) := by decide +kernel
theorem dX1_dropRepeated_34 : decode cX1_dropRepeated 34 = .ok (.iload_n 1, 1) := by decide +kernel
theorem dX1_dropRepeated_35 : decode cX1_dropRepeated 35 = .ok (.iload_n 3, 1) := by decide +kernel
theorem dX1_dropRepeated_36 : decode cX1_dropRepeated 36 = .ok (.invokevirtual 29, 3) := by decide +kernel
theorem dX1_dropRepeated_39 : decode cX1_dropRepeated 39 = .ok (.iinc 1 1, 3) := by decide +kernel
theorem dX1_dropRepeated_42 : decode cX1_dropRepeated 42 = .ok (.iinc 2 1, 3) := by decide +kernel
theorem dX1_dropRepeated_45 : decode cX1_dropRepeated 45 = .ok (.goto (-41), 3) := by decide +kernel
theorem dX1_dropRepeated_48 : decode cX1_dropRepeated 48 = .ok (.aload_n 0, 1) := by decide +kernel
theorem dX1_dropRepeated_49 : decode cX1_dropRepeated 49 = .ok (.iload_n 1, 1) := by decide +kernel
theorem dX1_dropRepeated_50 : decode cX1_dropRepeated 50 = .ok (.putfield 15, 3) := by decide +kernel
theorem dX1_dropRepeated_53 : decode cX1_dropRepeated 53 = .ok (.return_, 1) := by decide +kernel
theorem dX1_countLess_0 : decode cX1_countLess 0 = .ok (.iconst 0, 1) := by decide +kernel
theorem dX1_countLess_1 : decode cX1_countLess 1 = .ok (.istore_n 2, 1) := by decide +kernel
theorem dX1_countLess_2 : decode cX1_countLess 2 = .ok (.iload_n 2, 1) := by decide +kernel
theorem dX1_countLess_3 : decode cX1_countLess 3 = .ok (.aload_n 0, 1) := by decide +kernel
theorem dX1_countLess_4 : decode cX1_countLess 4 = .ok (.getfield 15, 3) := by decide +kernel
theorem dX1_countLess_7 : decode cX1_countLess 7 = .ok (.if_icmp .ge 18, 3) := by decide +kernel
theorem dX1_countLess_10 : decode cX1_countLess 10 = .ok (.aload_n 0, 1) := by decide +kernel
theorem dX1_countLess_11 : decode cX1_countLess 11 = .ok (.iload_n 2, 1) := by decide +kernel
theorem dX1_countLess_12 : decode cX1_countLess 12 = .ok (.invokevirtual 26, 3) := by decide +kernel
theorem dX1_countLess_15 : decode cX1_countLess 15 = .ok (.iload_n 1, 1) := by decide +kernel
theorem dX1_countLess_16 : decode cX1_countLess 16 = .ok (.if_icmp .ge 9, 3) := by decide +kernel
theorem dX1_countLess_19 : decode cX1_countLess 19 = .ok (.iinc 2 1, 3) := by decide +kernel
theorem dX1_countLess_22 : decode cX1_countLess 22 = .ok (.goto (-20), 3) := by decide +kernel
theorem dX1_countLess_25 : decode cX1_countLess 25 = .ok (.iload_n 2, 1) := by decide +kernel
theorem dX1_countLess_26 : decode cX1_countLess 26 = .ok (.ireturn, 1) := by decide +kernel
theorem dX1_timesOf_0 : decode cX1_timesOf 0 = .ok (.aload_n 0, 1) := by decide +kernel
theorem dX1_timesOf_1 : decode cX1_timesOf 1 = .ok (.iload_n 1, 1) := by decide +kernel
theorem dX1_timesOf_2 : decode cX1_timesOf 2 = .ok (.iconst 1, 1) := by decide +kernel
theorem dX1_timesOf_3 : decode cX1_timesOf 3 = .ok (.iadd, 1) := by decide +kernel
theorem dX1_timesOf_4 : decode cX1_timesOf 4 = .ok (.invokevirtual 22, 3) := by decide +kernel
theorem dX1_timesOf_7 : decode cX1_timesOf 7 = .ok (.aload_n 0, 1) := by decide +kernel
theorem dX1_timesOf_8 : decode cX1_timesOf 8 = .ok (.iload_n 1, 1) := by decide +kernel
theorem dX1_timesOf_9 : decode cX1_timesOf 9 = .ok (.invokevirtual 22, 3) := by decide +kernel
theorem dX1_timesOf_12 : decode cX1_timesOf 12 = .ok (.isub, 1) := by decide +kernel
theorem dX1_timesOf_13 : decode cX1_timesOf 13 = .ok (.ireturn, 1) := by decide +kernel
theorem dX1_holds_0 : decode cX1_holds 0 = .ok (.aload_n 0, 1) := by decide +kernel
theorem dX1_holds_1 : decode cX1_holds 1 = .ok (.iload_n 1, 1) := by decide +kernel
theorem dX1_holds_2 : decode cX1_holds 2 = .ok (.invokevirtual 33, 3) := by decide +kernel
theorem dX1_holds_5 : decode cX1_holds 5 = .ok (.ifCond .le 7, 3) := by decide +kernel
theorem dX1_holds_8 : decode cX1_holds 8 = .ok (.iconst 1, 1) := by decide +kernel
theorem dX1_holds_9 : decode cX1_holds 9 = .ok (.goto 4, 3) := by decide +kernel
theorem dX1_holds_12 : decode cX1_holds 12 = .ok (.iconst 0, 1) := by decide +kernel
theorem dX1_holds_13 : decode cX1_holds 13 = .ok (.ireturn, 1) := by decide +kernel
theorem dX1_isNew_0 : decode cX1_isNew 0 = .ok (.iload_n 1, 1) := by decide +kernel
theorem dX1_isNew_1 : decode cX1_isNew 1 = .ok (.ifCond .eq 18, 3) := by decide +kernel
theorem dX1_isNew_4 : decode cX1_isNew 4 = .ok (.aload_n 0, 1) := by decide +kernel
theorem dX1_isNew_5 : decode cX1_isNew 5 = .ok (.iload_n 1, 1) := by decide +kernel
theorem dX1_isNew_6 : decode cX1_isNew 6 = .ok (.invokevirtual 26, 3) := by decide +kernel
theorem dX1_isNew_9 : decode cX1_isNew 9 = .ok (.aload_n 0, 1) := by decide +kernel
theorem dX1_isNew_10 : decode cX1_isNew 10 = .ok (.iload_n 1, 1) := by decide +kernel
theorem dX1_isNew_11 : decode cX1_isNew 11 = .ok (.iconst 1, 1) := by decide +kernel
theorem dX1_isNew_12 : decode cX1_isNew 12 = .ok (.isub, 1) := by decide +kernel
theorem dX1_isNew_13 : decode cX1_isNew 13 = .ok (.invokevirtual 26, 3) := by decide +kernel
theorem dX1_isNew_16 : decode cX1_isNew 16 = .ok (.if_icmp .eq 7, 3) := by decide +kernel
theorem dX1_isNew_19 : decode cX1_isNew 19 = .ok (.iconst 1, 1) := by decide +kernel
theorem dX1_isNew_20 : decode cX1_isNew 20 = .ok (.goto 4, 3) := by decide +kernel
theorem dX1_isNew_23 : decode cX1_isNew 23 = .ok (.iconst 0, 1) := by decide +kernel
theorem dX1_isNew_24 : decode cX1_isNew 24 = .ok (.ireturn, 1) := by decide +kernel
theorem dX1_unlike_0 : decode cX1_unlike 0 = .ok (.iconst 0, 1) := by decide +kernel
theorem dX1_unlike_1 : decode cX1_unlike 1 = .ok (.istore_n 1, 1) := by decide +kernel
theorem dX1_unlike_2 : decode cX1_unlike 2 = .ok (.iconst 0, 1) := by decide +kernel
theorem dX1_unlike_3 : decode cX1_unlike 3 = .ok (.istore_n 2, 1) := by decide +kernel
theorem dX1_unlike_4 : decode cX1_unlike 4 = .ok (.iload_n 2, 1) := by decide +kernel
theorem dX1_unlike_5 : decode cX1_unlike 5 = .ok (.aload_n 0, 1) := by decide +kernel
theorem dX1_unlike_6 : decode cX1_unlike 6 = .ok (.getfield 15, 3) := by decide +kernel
theorem dX1_unlike_9 : decode cX1_unlike 9 = .ok (.if_icmp .ge 20, 3) := by decide +kernel
theorem dX1_unlike_12 : decode cX1_unlike 12 = .ok (.aload_n 0, 1) := by decide +kernel
theorem dX1_unlike_13 : decode cX1_unlike 13 = .ok (.iload_n 2, 1) := by decide +kernel
theorem dX1_unlike_14 : decode cX1_unlike 14 = .ok (.invokevirtual 36, 3) := by decide +kernel
theorem dX1_unlike_17 : decode cX1_unlike 17 = .ok (.ifCond .eq 6, 3) := by decide +kernel
theorem dX1_unlike_20 : decode cX1_unlike 20 = .ok (.iinc 1 1, 3) := by decide +kernel
theorem dX1_unlike_23 : decode cX1_unlike 23 = .ok (.iinc 2 1, 3) := by decide +kernel
theorem dX1_unlike_26 : decode cX1_unlike 26 = .ok (.goto (-22), 3) := by decide +kernel
theorem dX1_unlike_29 : decode cX1_unlike 29 = .ok (.iload_n 1, 1) := by decide +kernel
theorem dX1_unlike_30 : decode cX1_unlike 30 = .ok (.ireturn, 1) := by decide +kernel
theorem dX1_width_0 : decode cX1_width 0 = .ok (.aload_n 0, 1) := by decide +kernel
theorem dX1_width_1 : decode cX1_width 1 = .ok (.getfield 15, 3) := by decide +kernel
theorem dX1_width_4 : decode cX1_width 4 = .ok (.aload_n 0, 1) := by decide +kernel
theorem dX1_width_5 : decode cX1_width 5 = .ok (.getfield 19, 3) := by decide +kernel
theorem dX1_width_8 : decode cX1_width 8 = .ok (.invokestatic 40, 3) := by decide +kernel
theorem dX1_width_11 : decode cX1_width 11 = .ok (.ireturn, 1) := by decide +kernel
theorem dX1_zeros_0 : decode cX1_zeros 0 = .ok (.aload_n 0, 1) := by decide +kernel
theorem dX1_zeros_1 : decode cX1_zeros 1 = .ok (.getfield 15, 3) := by decide +kernel
theorem dX1_zeros_4 : decode cX1_zeros 4 = .ok (.aload_n 0, 1) := by decide +kernel
theorem dX1_zeros_5 : decode cX1_zeros 5 = .ok (.getfield 19, 3) := by decide +kernel
theorem dX1_zeros_8 : decode cX1_zeros 8 = .ok (.invokestatic 44, 3) := by decide +kernel
theorem dX1_zeros_11 : decode cX1_zeros 11 = .ok (.ireturn, 1) := by decide +kernel
theorem dX1_upperLength_0 : decode cX1_upperLength 0 = .ok (.aload_n 0, 1) := by decide +kernel
theorem dX1_upperLength_1 : decode cX1_upperLength 1 = .ok (.getfield 15, 3) := by decide +kernel
theorem dX1_upperLength_4 : decode cX1_upperLength 4 = .ok (.aload_n 0, 1) := by decide +kernel
theorem dX1_upperLength_5 : decode cX1_upperLength 5 = .ok (.invokevirtual 47, 3) := by decide +kernel
theorem dX1_upperLength_8 : decode cX1_upperLength 8 = .ok (.iadd, 1) := by decide +kernel
theorem dX1_upperLength_9 : decode cX1_upperLength 9 = .ok (.ireturn, 1) := by decide +kernel
theorem dX1_bits_0 : decode cX1_bits 0 = .ok (.aload_n 0, 1) := by decide +kernel
theorem dX1_bits_1 : decode cX1_bits 1 = .ok (.getfield 15, 3) := by decide +kernel
theorem dX1_bits_4 : decode cX1_bits 4 = .ok (.aload_n 0, 1) := by decide +kernel
theorem dX1_bits_5 : decode cX1_bits 5 = .ok (.getfield 19, 3) := by decide +kernel
theorem dX1_bits_8 : decode cX1_bits 8 = .ok (.invokestatic 51, 3) := by decide +kernel
theorem dX1_bits_11 : decode cX1_bits 11 = .ok (.ireturn, 1) := by decide +kernel
theorem dX1_upperPart_0 : decode cX1_upperPart 0 = .ok (.iload_n 1, 1) := by decide +kernel
theorem dX1_upperPart_1 : decode cX1_upperPart 1 = .ok (.aload_n 0, 1) := by decide +kernel
theorem dX1_upperPart_2 : decode cX1_upperPart 2 = .ok (.invokevirtual 54, 3) := by decide +kernel
theorem dX1_upperPart_5 : decode cX1_upperPart 5 = .ok (.ishr, 1) := by decide +kernel
theorem dX1_upperPart_6 : decode cX1_upperPart 6 = .ok (.ireturn, 1) := by decide +kernel
theorem dX1_lowerPart_0 : decode cX1_lowerPart 0 = .ok (.iload_n 1, 1) := by decide +kernel
theorem dX1_lowerPart_1 : decode cX1_lowerPart 1 = .ok (.iconst 1, 1) := by decide +kernel
theorem dX1_lowerPart_2 : decode cX1_lowerPart 2 = .ok (.aload_n 0, 1) := by decide +kernel
theorem dX1_lowerPart_3 : decode cX1_lowerPart 3 = .ok (.invokevirtual 54, 3) := by decide +kernel
theorem dX1_lowerPart_6 : decode cX1_lowerPart 6 = .ok (.ishl, 1) := by decide +kernel
theorem dX1_lowerPart_7 : decode cX1_lowerPart 7 = .ok (.iconst 1, 1) := by decide +kernel
theorem dX1_lowerPart_8 : decode cX1_lowerPart 8 = .ok (.isub, 1) := by decide +kernel
theorem dX1_lowerPart_9 : decode cX1_lowerPart 9 = .ok (.iand, 1) := by decide +kernel
theorem dX1_lowerPart_10 : decode cX1_lowerPart 10 = .ok (.ireturn, 1) := by decide +kernel
theorem dX1_placeOfOne_0 : decode cX1_placeOfOne 0 = .ok (.aload_n 0, 1) := by decide +kernel
theorem dX1_placeOfOne_1 : decode cX1_placeOfOne 1 = .ok (.aload_n 0, 1) := by decide +kernel
theorem dX1_placeOfOne_2 : decode cX1_placeOfOne 2 = .ok (.iload_n 1, 1) := by decide +kernel
theorem dX1_placeOfOne_3 : decode cX1_placeOfOne 3 = .ok (.invokevirtual 26, 3) := by decide +kernel
theorem dX1_placeOfOne_6 : decode cX1_placeOfOne 6 = .ok (.invokevirtual 57, 3) := by decide +kernel
theorem dX1_placeOfOne_9 : decode cX1_placeOfOne 9 = .ok (.iload_n 1, 1) := by decide +kernel
theorem dX1_placeOfOne_10 : decode cX1_placeOfOne 10 = .ok (.iadd, 1) := by decide +kernel
theorem dX1_placeOfOne_11 : decode cX1_placeOfOne 11 = .ok (.ireturn, 1) := by decide +kernel
theorem dX1_placeOfZero_0 : decode cX1_placeOfZero 0 = .ok (.iload_n 1, 1) := by decide +kernel
theorem dX1_placeOfZero_1 : decode cX1_placeOfZero 1 = .ok (.aload_n 0, 1) := by decide +kernel
theorem dX1_placeOfZero_2 : decode cX1_placeOfZero 2 = .ok (.iload_n 1, 1) := by decide +kernel
theorem dX1_placeOfZero_3 : decode cX1_placeOfZero 3 = .ok (.iconst 1, 1) := by decide +kernel
theorem dX1_placeOfZero_4 : decode cX1_placeOfZero 4 = .ok (.iadd, 1) := by decide +kernel
theorem dX1_placeOfZero_5 : decode cX1_placeOfZero 5 = .ok (.aload_n 0, 1) := by decide +kernel
theorem dX1_placeOfZero_6 : decode cX1_placeOfZero 6 = .ok (.invokevirtual 54, 3) := by decide +kernel
theorem dX1_placeOfZero_9 : decode cX1_placeOfZero 9 = .ok (.ishl, 1) := by decide +kernel
theorem dX1_placeOfZero_10 : decode cX1_placeOfZero 10 = .ok (.invokevirtual 22, 3) := by decide +kernel
theorem dX1_placeOfZero_13 : decode cX1_placeOfZero 13 = .ok (.iadd, 1) := by decide +kernel
theorem dX1_placeOfZero_14 : decode cX1_placeOfZero 14 = .ok (.ireturn, 1) := by decide +kernel
theorem dX1_hasOneAt_0 : decode cX1_hasOneAt 0 = .ok (.iconst 0, 1) := by decide +kernel
theorem dX1_hasOneAt_1 : decode cX1_hasOneAt 1 = .ok (.istore_n 2, 1) := by decide +kernel
theorem dX1_hasOneAt_2 : decode cX1_hasOneAt 2 = .ok (.iload_n 2, 1) := by decide +kernel
theorem dX1_hasOneAt_3 : decode cX1_hasOneAt 3 = .ok (.aload_n 0, 1) := by decide +kernel
theorem dX1_hasOneAt_4 : decode cX1_hasOneAt 4 = .ok (.getfield 15, 3) := by decide +kernel
theorem dX1_hasOneAt_7 : decode cX1_hasOneAt 7 = .ok (.if_icmp .ge 20, 3) := by decide +kernel
theorem dX1_hasOneAt_10 : decode cX1_hasOneAt 10 = .ok (.aload_n 0, 1) := by decide +kernel
theorem dX1_hasOneAt_11 : decode cX1_hasOneAt 11 = .ok (.iload_n 2, 1) := by decide +kernel
theorem dX1_hasOneAt_12 : decode cX1_hasOneAt 12 = .ok (.invokevirtual 60, 3) := by decide +kernel
theorem dX1_hasOneAt_15 : decode cX1_hasOneAt 15 = .ok (.iload_n 1, 1) := by decide +kernel
theorem dX1_hasOneAt_16 : decode cX1_hasOneAt 16 = .ok (.if_icmp .ne 5, 3) := by decide +kernel
theorem dX1_hasOneAt_19 : decode cX1_hasOneAt 19 = .ok (.iconst 1, 1) := by decide +kernel
theorem dX1_hasOneAt_20 : decode cX1_hasOneAt 20 = .ok (.ireturn, 1) := by decide +kernel
theorem dX1_hasOneAt_21 : decode cX1_hasOneAt 21 = .ok (.iinc 2 1, 3) := by decide +kernel
theorem dX1_hasOneAt_24 : decode cX1_hasOneAt 24 = .ok (.goto (-22), 3) := by decide +kernel
theorem dX1_hasOneAt_27 : decode cX1_hasOneAt 27 = .ok (.iconst 0, 1) := by decide +kernel
theorem dX1_hasOneAt_28 : decode cX1_hasOneAt 28 = .ok (.ireturn, 1) := by decide +kernel
theorem dX1_workToNext_0 : decode cX1_workToNext 0 = .ok (.aload_n 0, 1) := by decide +kernel
theorem dX1_workToNext_1 : decode cX1_workToNext 1 = .ok (.iload_n 1, 1) := by decide +kernel
theorem dX1_workToNext_2 : decode cX1_workToNext 2 = .ok (.invokevirtual 57, 3) := by decide +kernel
theorem dX1_workToNext_5 : decode cX1_workToNext 5 = .ok (.istore_n 2, 1) := by decide +kernel
theorem dX1_workToNext_6 : decode cX1_workToNext 6 = .ok (.iconst 0, 1) := by decide +kernel
theorem dX1_workToNext_7 : decode cX1_workToNext 7 = .ok (.istore_n 3, 1) := by decide +kernel
theorem dX1_workToNext_8 : decode cX1_workToNext 8 = .ok (.iconst 0, 1) := by decide +kernel
theorem dX1_workToNext_9 : decode cX1_workToNext 9 = .ok (.istore 4, 2) := by decide +kernel
theorem dX1_workToNext_11 : decode cX1_workToNext 11 = .ok (.iload_n 2, 1) := by decide +kernel
theorem dX1_workToNext_12 : decode cX1_workToNext 12 = .ok (.ifCond .le 35, 3) := by decide +kernel
theorem dX1_workToNext_15 : decode cX1_workToNext 15 = .ok (.iload_n 2, 1) := by decide +kernel
theorem dX1_workToNext_16 : decode cX1_workToNext 16 = .ok (.iconst 1, 1) := by decide +kernel
theorem dX1_workToNext_17 : decode cX1_workToNext 17 = .ok (.isub, 1) := by decide +kernel
theorem dX1_workToNext_18 : decode cX1_workToNext 18 = .ok (.istore 5, 2) := by decide +kernel
theorem dX1_workToNext_20 : decode cX1_workToNext 20 = .ok (.aload_n 0, 1) := by decide +kernel
theorem dX1_workToNext_21 : decode cX1_workToNext 21 = .ok (.iload 5, 2) := by decide +kernel
theorem dX1_workToNext_23 : decode cX1_workToNext 23 = .ok (.invokevirtual 63, 3) := by decide +kernel
theorem dX1_workToNext_26 : decode cX1_workToNext 26 = .ok (.iconst 1, 1) := by decide +kernel
theorem dX1_workToNext_27 : decode cX1_workToNext 27 = .ok (.iadd, 1) := by decide +kernel
theorem dX1_workToNext_28 : decode cX1_workToNext 28 = .ok (.istore_n 3, 1) := by decide +kernel
theorem dX1_workToNext_29 : decode cX1_workToNext 29 = .ok (.aload_n 0, 1) := by decide +kernel
theorem dX1_workToNext_30 : decode cX1_workToNext 30 = .ok (.iload 5, 2) := by decide +kernel
theorem dX1_workToNext_32 : decode cX1_workToNext 32 = .ok (.invokevirtual 63, 3) := by decide +kernel
theorem dX1_workToNext_35 : decode cX1_workToNext 35 = .ok (.aload_n 0, 1) := by decide +kernel
theorem dX1_workToNext_36 : decode cX1_workToNext 36 = .ok (.iload 5, 2) := by decide +kernel
theorem dX1_workToNext_38 : decode cX1_workToNext 38 = .ok (.invokestatic 66, 3) := by decide +kernel
theorem dX1_workToNext_41 : decode cX1_workToNext 41 = .ok (.invokevirtual 63, 3) := by decide +kernel
theorem dX1_workToNext_44 : decode cX1_workToNext 44 = .ok (.isub, 1) := by decide +kernel
theorem dX1_workToNext_45 : decode cX1_workToNext 45 = .ok (.istore 4, 2) := by decide +kernel
theorem dX1_workToNext_47 : decode cX1_workToNext 47 = .ok (.aload_n 0, 1) := by decide +kernel
theorem dX1_workToNext_48 : decode cX1_workToNext 48 = .ok (.iload_n 1, 1) := by decide +kernel
theorem dX1_workToNext_49 : decode cX1_workToNext 49 = .ok (.invokevirtual 22, 3) := by decide +kernel
theorem dX1_workToNext_52 : decode cX1_workToNext 52 = .ok (.istore 5, 2) := by decide +kernel
theorem dX1_workToNext_54 : decode cX1_workToNext 54 = .ok (.iload 5, 2) := by decide +kernel
theorem dX1_workToNext_56 : decode cX1_workToNext 56 = .ok (.aload_n 0, 1) := by decide +kernel
theorem dX1_workToNext_57 : decode cX1_workToNext 57 = .ok (.getfield 15, 3) := by decide +kernel
theorem dX1_workToNext_60 : decode cX1_workToNext 60 = .ok (.if_icmp .ge 14, 3) := by decide +kernel
theorem dX1_workToNext_63 : decode cX1_workToNext 63 = .ok (.aload_n 0, 1) := by decide +kernel
theorem dX1_workToNext_64 : decode cX1_workToNext 64 = .ok (.iload 5, 2) := by decide +kernel
theorem dX1_workToNext_66 : decode cX1_workToNext 66 = .ok (.invokevirtual 60, 3) := by decide +kernel
theorem dX1_workToNext_69 : decode cX1_workToNext 69 = .ok (.iconst 1, 1) := by decide +kernel
theorem dX1_workToNext_70 : decode cX1_workToNext 70 = .ok (.iadd, 1) := by decide +kernel
theorem dX1_workToNext_71 : decode cX1_workToNext 71 = .ok (.goto 7, 3) := by decide +kernel
theorem dX1_workToNext_74 : decode cX1_workToNext 74 = .ok (.aload_n 0, 1) := by decide +kernel
theorem dX1_workToNext_75 : decode cX1_workToNext 75 = .ok (.invokevirtual 69, 3) := by decide +kernel
theorem dX1_workToNext_78 : decode cX1_workToNext 78 = .ok (.istore 6, 2) := by decide +kernel
theorem dX1_workToNext_80 : decode cX1_workToNext 80 = .ok (.iload 4, 2) := by decide +kernel
theorem dX1_workToNext_82 : decode cX1_workToNext 82 = .ok (.iload 6, 2) := by decide +kernel
theorem dX1_workToNext_84 : decode cX1_workToNext 84 = .ok (.iadd, 1) := by decide +kernel
theorem dX1_workToNext_85 : decode cX1_workToNext 85 = .ok (.iload_n 3, 1) := by decide +kernel
theorem dX1_workToNext_86 : decode cX1_workToNext 86 = .ok (.isub, 1) := by decide +kernel
theorem dX1_workToNext_87 : decode cX1_workToNext 87 = .ok (.ireturn, 1) := by decide +kernel
theorem dX1_lowerWord_0 : decode cX1_lowerWord 0 = .ok (.aload_n 0, 1) := by decide +kernel
theorem dX1_lowerWord_1 : decode cX1_lowerWord 1 = .ok (.invokevirtual 54, 3) := by decide +kernel
theorem dX1_lowerWord_4 : decode cX1_lowerWord 4 = .ok (.istore_n 2, 1) := by decide +kernel
theorem dX1_lowerWord_5 : decode cX1_lowerWord 5 = .ok (.lconst 0, 1) := by decide +kernel
theorem dX1_lowerWord_6 : decode cX1_lowerWord 6 = .ok (.lstore_n 3, 1) := by decide +kernel
theorem dX1_lowerWord_7 : decode cX1_lowerWord 7 = .ok (.iconst 0, 1) := by decide +kernel
theorem dX1_lowerWord_8 : decode cX1_lowerWord 8 = .ok (.istore 5, 2) := by decide +kernel
theorem dX1_lowerWord_10 : decode cX1_lowerWord 10 = .ok (.iload 5, 2) := by decide +kernel
theorem dX1_lowerWord_12 : decode cX1_lowerWord 12 = .ok (.aload_n 0, 1) := by decide +kernel
theorem dX1_lowerWord_13 : decode cX1_lowerWord 13 = .ok (.getfield 15, 3) := by decide +kernel
theorem dX1_lowerWord_16 : decode cX1_lowerWord 16 = .ok (.if_icmp .ge 74, 3) := by decide +kernel
theorem dX1_lowerWord_19 : decode cX1_lowerWord 19 = .ok (.aload_n 0, 1) := by decide +kernel
theorem dX1_lowerWord_20 : decode cX1_lowerWord 20 = .ok (.aload_n 0, 1) := by decide +kernel
theorem dX1_lowerWord_21 : decode cX1_lowerWord 21 = .ok (.iload 5, 2) := by decide +kernel
theorem dX1_lowerWord_23 : decode cX1_lowerWord 23 = .ok (.invokevirtual 26, 3) := by decide +kernel
theorem dX1_lowerWord_26 : decode cX1_lowerWord 26 = .ok (.invokevirtual 72, 3) := by decide +kernel
theorem dX1_lowerWord_29 : decode cX1_lowerWord 29 = .ok (.i2l, 1) := by decide +kernel
theorem dX1_lowerWord_30 : decode cX1_lowerWord 30 = .ok (.lstore 6, 2) := by decide +kernel
theorem dX1_lowerWord_32 : decode cX1_lowerWord 32 = .ok (.iload 5, 2) := by decide +kernel
theorem dX1_lowerWord_34 : decode cX1_lowerWord 34 = .ok (.iload_n 2, 1) := by decide +kernel
theorem dX1_lowerWord_35 : decode cX1_lowerWord 35 = .ok (.imul, 1) := by decide +kernel
theorem dX1_lowerWord_36 : decode cX1_lowerWord 36 = .ok (.iload_n 1, 1) := by decide +kernel
theorem dX1_lowerWord_37 : decode cX1_lowerWord 37 = .ok (.isub, 1) := by decide +kernel
theorem dX1_lowerWord_38 : decode cX1_lowerWord 38 = .ok (.istore 8, 2) := by decide +kernel
theorem dX1_lowerWord_40 : decode cX1_lowerWord 40 = .ok (.iload 8, 2) := by decide +kernel
theorem dX1_lowerWord_42 : decode cX1_lowerWord 42 = .ok (.ifCond .lt 21, 3) := by decide +kernel
theorem dX1_lowerWord_45 : decode cX1_lowerWord 45 = .ok (.iload 8, 2) := by decide +kernel
theorem dX1_lowerWord_47 : decode cX1_lowerWord 47 = .ok (.bipush 32, 2) := by decide +kernel
theorem dX1_lowerWord_49 : decode cX1_lowerWord 49 = .ok (.if_icmp .ge 14, 3) := by decide +kernel
theorem dX1_lowerWord_52 : decode cX1_lowerWord 52 = .ok (.lload_n 3, 1) := by decide +kernel
theorem dX1_lowerWord_53 : decode cX1_lowerWord 53 = .ok (.lload 6, 2) := by decide +kernel
theorem dX1_lowerWord_55 : decode cX1_lowerWord 55 = .ok (.iload 8, 2) := by decide +kernel
theorem dX1_lowerWord_57 : decode cX1_lowerWord 57 = .ok (.lshl, 1) := by decide +kernel
theorem dX1_lowerWord_58 : decode cX1_lowerWord 58 = .ok (.lor, 1) := by decide +kernel
theorem dX1_lowerWord_59 : decode cX1_lowerWord 59 = .ok (.lstore_n 3, 1) := by decide +kernel
theorem dX1_lowerWord_60 : decode cX1_lowerWord 60 = .ok (.goto 24, 3) := by decide +kernel
theorem dX1_lowerWord_63 : decode cX1_lowerWord 63 = .ok (.iload 8, 2) := by decide +kernel
theorem dX1_lowerWord_65 : decode cX1_lowerWord 65 = .ok (.ifCond .ge 19, 3) := by decide +kernel
theorem dX1_lowerWord_68 : decode cX1_lowerWord 68 = .ok (.iload 8, 2) := by decide +kernel
theorem dX1_lowerWord_70 : decode cX1_lowerWord 70 = .ok (.iload_n 2, 1) := by decide +kernel
theorem dX1_lowerWord_71 : decode cX1_lowerWord 71 = .ok (.ineg, 1) := by decide +kernel
theorem dX1_lowerWord_72 : decode cX1_lowerWord 72 = .ok (.if_icmp .le 12, 3) := by decide +kernel
theorem dX1_lowerWord_75 : decode cX1_lowerWord 75 = .ok (.lload_n 3, 1) := by decide +kernel
theorem dX1_lowerWord_76 : decode cX1_lowerWord 76 = .ok (.lload 6, 2) := by decide +kernel
theorem dX1_lowerWord_78 : decode cX1_lowerWord 78 = .ok (.iload 8, 2) := by decide +kernel
theorem dX1_lowerWord_80 : decode cX1_lowerWord 80 = .ok (.ineg, 1) := by decide +kernel
theorem dX1_lowerWord_81 : decode cX1_lowerWord 81 = .ok (.lshr, 1) := by decide +kernel
theorem dX1_lowerWord_82 : decode cX1_lowerWord 82 = .ok (.lor, 1) := by decide +kernel
theorem dX1_lowerWord_83 : decode cX1_lowerWord 83 = .ok (.lstore_n 3, 1) := by decide +kernel
theorem dX1_lowerWord_84 : decode cX1_lowerWord 84 = .ok (.iinc 5 1, 3) := by decide +kernel
theorem dX1_lowerWord_87 : decode cX1_lowerWord 87 = .ok (.goto (-77), 3) := by decide +kernel
theorem dX1_lowerWord_90 : decode cX1_lowerWord 90 = .ok (.lload_n 3, 1) := by decide +kernel
theorem dX1_lowerWord_91 : decode cX1_lowerWord 91 = .ok (.ldc2_w 75, 3) := by decide +kernel
theorem dX1_lowerWord_94 : decode cX1_lowerWord 94 = .ok (.land, 1) := by decide +kernel
theorem dX1_lowerWord_95 : decode cX1_lowerWord 95 = .ok (.lreturn, 1) := by decide +kernel
theorem dX1_stepBehind_0 : decode cX1_stepBehind 0 = .ok (.iload_n 1, 1) := by decide +kernel
theorem dX1_stepBehind_1 : decode cX1_stepBehind 1 = .ok (.iconst 1, 1) := by decide +kernel
theorem dX1_stepBehind_2 : decode cX1_stepBehind 2 = .ok (.iadd, 1) := by decide +kernel
theorem dX1_stepBehind_3 : decode cX1_stepBehind 3 = .ok (.aload_n 0, 1) := by decide +kernel
theorem dX1_stepBehind_4 : decode cX1_stepBehind 4 = .ok (.getfield 15, 3) := by decide +kernel
theorem dX1_stepBehind_7 : decode cX1_stepBehind 7 = .ok (.if_icmp .ge 19, 3) := by decide +kernel
theorem dX1_stepBehind_10 : decode cX1_stepBehind 10 = .ok (.aload_n 0, 1) := by decide +kernel
theorem dX1_stepBehind_11 : decode cX1_stepBehind 11 = .ok (.iload_n 1, 1) := by decide +kernel
theorem dX1_stepBehind_12 : decode cX1_stepBehind 12 = .ok (.iconst 1, 1) := by decide +kernel
theorem dX1_stepBehind_13 : decode cX1_stepBehind 13 = .ok (.iadd, 1) := by decide +kernel
theorem dX1_stepBehind_14 : decode cX1_stepBehind 14 = .ok (.invokevirtual 26, 3) := by decide +kernel
theorem dX1_stepBehind_17 : decode cX1_stepBehind 17 = .ok (.aload_n 0, 1) := by decide +kernel
theorem dX1_stepBehind_18 : decode cX1_stepBehind 18 = .ok (.iload_n 1, 1) := by decide +kernel
theorem dX1_stepBehind_19 : decode cX1_stepBehind 19 = .ok (.invokevirtual 26, 3) := by decide +kernel
theorem dX1_stepBehind_22 : decode cX1_stepBehind 22 = .ok (.isub, 1) := by decide +kernel
theorem dX1_stepBehind_23 : decode cX1_stepBehind 23 = .ok (.goto 4, 3) := by decide +kernel
theorem dX1_stepBehind_26 : decode cX1_stepBehind 26 = .ok (.iconst 0, 1) := by decide +kernel
theorem dX1_stepBehind_27 : decode cX1_stepBehind 27 = .ok (.ireturn, 1) := by decide +kernel
theorem dX1_greatestStep_0 : decode cX1_greatestStep 0 = .ok (.iconst 0, 1) := by decide +kernel
theorem dX1_greatestStep_1 : decode cX1_greatestStep 1 = .ok (.istore_n 1, 1) := by decide +kernel
theorem dX1_greatestStep_2 : decode cX1_greatestStep 2 = .ok (.iconst 0, 1) := by decide +kernel
theorem dX1_greatestStep_3 : decode cX1_greatestStep 3 = .ok (.istore_n 2, 1) := by decide +kernel
theorem dX1_greatestStep_4 : decode cX1_greatestStep 4 = .ok (.iload_n 2, 1) := by decide +kernel
theorem dX1_greatestStep_5 : decode cX1_greatestStep 5 = .ok (.aload_n 0, 1) := by decide +kernel
theorem dX1_greatestStep_6 : decode cX1_greatestStep 6 = .ok (.getfield 15, 3) := by decide +kernel
theorem dX1_greatestStep_9 : decode cX1_greatestStep 9 = .ok (.if_icmp .ge 19, 3) := by decide +kernel
theorem dX1_greatestStep_12 : decode cX1_greatestStep 12 = .ok (.iload_n 1, 1) := by decide +kernel
theorem dX1_greatestStep_13 : decode cX1_greatestStep 13 = .ok (.aload_n 0, 1) := by decide +kernel
theorem dX1_greatestStep_14 : decode cX1_greatestStep 14 = .ok (.iload_n 2, 1) := by decide +kernel
theorem dX1_greatestStep_15 : decode cX1_greatestStep 15 = .ok (.invokevirtual 77, 3) := by decide +kernel
theorem dX1_greatestStep_18 : decode cX1_greatestStep 18 = .ok (.invokestatic 80, 3) := by decide +kernel
theorem dX1_greatestStep_21 : decode cX1_greatestStep 21 = .ok (.istore_n 1, 1) := by decide +kernel
theorem dX1_greatestStep_22 : decode cX1_greatestStep 22 = .ok (.iinc 2 1, 3) := by decide +kernel
theorem dX1_greatestStep_25 : decode cX1_greatestStep 25 = .ok (.goto (-21), 3) := by decide +kernel
theorem dX1_greatestStep_28 : decode cX1_greatestStep 28 = .ok (.iload_n 1, 1) := by decide +kernel
theorem dX1_greatestStep_29 : decode cX1_greatestStep 29 = .ok (.ireturn, 1) := by decide +kernel
theorem dX1_indexOfGap_0 : decode cX1_indexOfGap 0 = .ok (.iconst 0, 1) := by decide +kernel
theorem dX1_indexOfGap_1 : decode cX1_indexOfGap 1 = .ok (.istore_n 2, 1) := by decide +kernel
theorem dX1_indexOfGap_2 : decode cX1_indexOfGap 2 = .ok (.iload_n 2, 1) := by decide +kernel
theorem dX1_indexOfGap_3 : decode cX1_indexOfGap 3 = .ok (.aload_n 0, 1) := by decide +kernel
theorem dX1_indexOfGap_4 : decode cX1_indexOfGap 4 = .ok (.getfield 15, 3) := by decide +kernel
theorem dX1_indexOfGap_7 : decode cX1_indexOfGap 7 = .ok (.if_icmp .ge 29, 3) := by decide +kernel
theorem dX1_indexOfGap_10 : decode cX1_indexOfGap 10 = .ok (.aload_n 0, 1) := by decide +kernel
theorem dX1_indexOfGap_11 : decode cX1_indexOfGap 11 = .ok (.iload_n 2, 1) := by decide +kernel
theorem dX1_indexOfGap_12 : decode cX1_indexOfGap 12 = .ok (.invokevirtual 77, 3) := by decide +kernel
theorem dX1_indexOfGap_15 : decode cX1_indexOfGap 15 = .ok (.iconst 2, 1) := by decide +kernel
theorem dX1_indexOfGap_16 : decode cX1_indexOfGap 16 = .ok (.if_icmp .lt 14, 3) := by decide +kernel
theorem dX1_indexOfGap_19 : decode cX1_indexOfGap 19 = .ok (.aload_n 0, 1) := by decide +kernel
theorem dX1_indexOfGap_20 : decode cX1_indexOfGap 20 = .ok (.iload_n 2, 1) := by decide +kernel
theorem dX1_indexOfGap_21 : decode cX1_indexOfGap 21 = .ok (.invokevirtual 85, 3) := by decide +kernel
theorem dX1_indexOfGap_24 : decode cX1_indexOfGap 24 = .ok (.iload_n 1, 1) := by decide +kernel
theorem dX1_indexOfGap_25 : decode cX1_indexOfGap 25 = .ok (.if_icmp .ne 5, 3) := by decide +kernel
theorem dX1_indexOfGap_28 : decode cX1_indexOfGap 28 = .ok (.iload_n 2, 1) := by decide +kernel
theorem dX1_indexOfGap_29 : decode cX1_indexOfGap 29 = .ok (.ireturn, 1) := by decide +kernel
theorem dX1_indexOfGap_30 : decode cX1_indexOfGap 30 = .ok (.iinc 2 1, 3) := by decide +kernel
theorem dX1_indexOfGap_33 : decode cX1_indexOfGap 33 = .ok (.goto (-31), 3) := by decide +kernel
theorem dX1_indexOfGap_36 : decode cX1_indexOfGap 36 = .ok (.iconst (-1), 1) := by decide +kernel
theorem dX1_indexOfGap_37 : decode cX1_indexOfGap 37 = .ok (.ireturn, 1) := by decide +kernel
theorem dX1_gapsAhead_0 : decode cX1_gapsAhead 0 = .ok (.aload_n 0, 1) := by decide +kernel
theorem dX1_gapsAhead_1 : decode cX1_gapsAhead 1 = .ok (.iload_n 1, 1) := by decide +kernel
theorem dX1_gapsAhead_2 : decode cX1_gapsAhead 2 = .ok (.invokevirtual 77, 3) := by decide +kernel
theorem dX1_gapsAhead_5 : decode cX1_gapsAhead 5 = .ok (.istore_n 2, 1) := by decide +kernel
theorem dX1_gapsAhead_6 : decode cX1_gapsAhead 6 = .ok (.iconst 0, 1) := by decide +kernel
theorem dX1_gapsAhead_7 : decode cX1_gapsAhead 7 = .ok (.istore_n 3, 1) := by decide +kernel
theorem dX1_gapsAhead_8 : decode cX1_gapsAhead 8 = .ok (.iconst 0, 1) := by decide +kernel
theorem dX1_gapsAhead_9 : decode cX1_gapsAhead 9 = .ok (.istore 4, 2) := by decide +kernel
theorem dX1_gapsAhead_11 : decode cX1_gapsAhead 11 = .ok (.iload 4, 2) := by decide +kernel
theorem dX1_gapsAhead_13 : decode cX1_gapsAhead 13 = .ok (.aload_n 0, 1) := by decide +kernel
theorem dX1_gapsAhead_14 : decode cX1_gapsAhead 14 = .ok (.getfield 15, 3) := by decide +kernel
theorem dX1_gapsAhead_17 : decode cX1_gapsAhead 17 = .ok (.if_icmp .ge 38, 3) := by decide +kernel
theorem dX1_gapsAhead_20 : decode cX1_gapsAhead 20 = .ok (.aload_n 0, 1) := by decide +kernel
theorem dX1_gapsAhead_21 : decode cX1_gapsAhead 21 = .ok (.iload 4, 2) := by decide +kernel
theorem dX1_gapsAhead_23 : decode cX1_gapsAhead 23 = .ok (.invokevirtual 77, 3) := by decide +kernel
theorem dX1_gapsAhead_26 : decode cX1_gapsAhead 26 = .ok (.iload_n 2, 1) := by decide +kernel
theorem dX1_gapsAhead_27 : decode cX1_gapsAhead 27 = .ok (.if_icmp .gt 19, 3) := by decide +kernel
theorem dX1_gapsAhead_30 : decode cX1_gapsAhead 30 = .ok (.aload_n 0, 1) := by decide +kernel
theorem dX1_gapsAhead_31 : decode cX1_gapsAhead 31 = .ok (.iload 4, 2) := by decide +kernel
theorem dX1_gapsAhead_33 : decode cX1_gapsAhead 33 = .ok (.invokevirtual 77, 3) := by decide +kernel
theorem dX1_gapsAhead_36 : decode cX1_gapsAhead 36 = .ok (.iload_n 2, 1) := by decide +kernel
theorem dX1_gapsAhead_37 : decode cX1_gapsAhead 37 = .ok (.if_icmp .ne 12, 3) := by decide +kernel
theorem dX1_gapsAhead_40 : decode cX1_gapsAhead 40 = .ok (.iload 4, 2) := by decide +kernel
theorem dX1_gapsAhead_42 : decode cX1_gapsAhead 42 = .ok (.iload_n 1, 1) := by decide +kernel
theorem dX1_gapsAhead_43 : decode cX1_gapsAhead 43 = .ok (.if_icmp .ge 6, 3) := by decide +kernel
theorem dX1_gapsAhead_46 : decode cX1_gapsAhead 46 = .ok (.iinc 3 1, 3) := by decide +kernel
theorem dX1_gapsAhead_49 : decode cX1_gapsAhead 49 = .ok (.iinc 4 1, 3) := by decide +kernel
theorem dX1_gapsAhead_52 : decode cX1_gapsAhead 52 = .ok (.goto (-41), 3) := by decide +kernel
theorem dX1_gapsAhead_55 : decode cX1_gapsAhead 55 = .ok (.iload_n 3, 1) := by decide +kernel
theorem dX1_gapsAhead_56 : decode cX1_gapsAhead 56 = .ok (.ireturn, 1) := by decide +kernel
theorem dX1_saveTo_0 : decode cX1_saveTo 0 = .ok (.iload_n 2, 1) := by decide +kernel
theorem dX1_saveTo_1 : decode cX1_saveTo 1 = .ok (.ifCond .lt 12, 3) := by decide +kernel
theorem dX1_saveTo_4 : decode cX1_saveTo 4 = .ok (.iload_n 2, 1) := by decide +kernel
theorem dX1_saveTo_5 : decode cX1_saveTo 5 = .ok (.aload_n 1, 1) := by decide +kernel
theorem dX1_saveTo_6 : decode cX1_saveTo 6 = .ok (.arraylength, 1) := by decide +kernel
theorem dX1_saveTo_7 : decode cX1_saveTo 7 = .ok (.bipush 42, 2) := by decide +kernel
theorem dX1_saveTo_9 : decode cX1_saveTo 9 = .ok (.isub, 1) := by decide +kernel
theorem dX1_saveTo_10 : decode cX1_saveTo 10 = .ok (.if_icmp .le 4, 3) := by decide +kernel
theorem dX1_saveTo_13 : decode cX1_saveTo 13 = .ok (.return_, 1) := by decide +kernel
theorem dX1_saveTo_14 : decode cX1_saveTo 14 = .ok (.aload_n 1, 1) := by decide +kernel
theorem dX1_saveTo_15 : decode cX1_saveTo 15 = .ok (.iload_n 2, 1) := by decide +kernel
theorem dX1_saveTo_16 : decode cX1_saveTo 16 = .ok (.aload_n 0, 1) := by decide +kernel
theorem dX1_saveTo_17 : decode cX1_saveTo 17 = .ok (.getfield 15, 3) := by decide +kernel
theorem dX1_saveTo_20 : decode cX1_saveTo 20 = .ok (.iastore, 1) := by decide +kernel
theorem dX1_saveTo_21 : decode cX1_saveTo 21 = .ok (.aload_n 1, 1) := by decide +kernel
theorem dX1_saveTo_22 : decode cX1_saveTo 22 = .ok (.iload_n 2, 1) := by decide +kernel
theorem dX1_saveTo_23 : decode cX1_saveTo 23 = .ok (.iconst 1, 1) := by decide +kernel
theorem dX1_saveTo_24 : decode cX1_saveTo 24 = .ok (.iadd, 1) := by decide +kernel
theorem dX1_saveTo_25 : decode cX1_saveTo 25 = .ok (.aload_n 0, 1) := by decide +kernel
theorem dX1_saveTo_26 : decode cX1_saveTo 26 = .ok (.getfield 19, 3) := by decide +kernel
theorem dX1_saveTo_29 : decode cX1_saveTo 29 = .ok (.iastore, 1) := by decide +kernel
theorem dX1_saveTo_30 : decode cX1_saveTo 30 = .ok (.iconst 0, 1) := by decide +kernel
theorem dX1_saveTo_31 : decode cX1_saveTo 31 = .ok (.istore_n 3, 1) := by decide +kernel
theorem dX1_saveTo_32 : decode cX1_saveTo 32 = .ok (.iload_n 3, 1) := by decide +kernel
theorem dX1_saveTo_33 : decode cX1_saveTo 33 = .ok (.bipush 40, 2) := by decide +kernel
theorem dX1_saveTo_35 : decode cX1_saveTo 35 = .ok (.if_icmp .ge 21, 3) := by decide +kernel
theorem dX1_saveTo_38 : decode cX1_saveTo 38 = .ok (.aload_n 1, 1) := by decide +kernel
theorem dX1_saveTo_39 : decode cX1_saveTo 39 = .ok (.iload_n 2, 1) := by decide +kernel
theorem dX1_saveTo_40 : decode cX1_saveTo 40 = .ok (.iconst 2, 1) := by decide +kernel
theorem dX1_saveTo_41 : decode cX1_saveTo 41 = .ok (.iadd, 1) := by decide +kernel
theorem dX1_saveTo_42 : decode cX1_saveTo 42 = .ok (.iload_n 3, 1) := by decide +kernel
theorem dX1_saveTo_43 : decode cX1_saveTo 43 = .ok (.iadd, 1) := by decide +kernel
theorem dX1_saveTo_44 : decode cX1_saveTo 44 = .ok (.aload_n 0, 1) := by decide +kernel
theorem dX1_saveTo_45 : decode cX1_saveTo 45 = .ok (.iload_n 3, 1) := by decide +kernel
theorem dX1_saveTo_46 : decode cX1_saveTo 46 = .ok (.invokevirtual 26, 3) := by decide +kernel
theorem dX1_saveTo_49 : decode cX1_saveTo 49 = .ok (.iastore, 1) := by decide +kernel
theorem dX1_saveTo_50 : decode cX1_saveTo 50 = .ok (.iinc 3 1, 3) := by decide +kernel
theorem dX1_saveTo_53 : decode cX1_saveTo 53 = .ok (.goto (-21), 3) := by decide +kernel
theorem dX1_saveTo_56 : decode cX1_saveTo 56 = .ok (.return_, 1) := by decide +kernel
theorem dX1_loadFrom_0 : decode cX1_loadFrom 0 = .ok (.iload_n 2, 1) := by decide +kernel
theorem dX1_loadFrom_1 : decode cX1_loadFrom 1 = .ok (.ifCond .lt 12, 3) := by decide +kernel
theorem dX1_loadFrom_4 : decode cX1_loadFrom 4 = .ok (.iload_n 2, 1) := by decide +kernel
theorem dX1_loadFrom_5 : decode cX1_loadFrom 5 = .ok (.aload_n 1, 1) := by decide +kernel
theorem dX1_loadFrom_6 : decode cX1_loadFrom 6 = .ok (.arraylength, 1) := by decide +kernel
theorem dX1_loadFrom_7 : decode cX1_loadFrom 7 = .ok (.bipush 42, 2) := by decide +kernel
theorem dX1_loadFrom_9 : decode cX1_loadFrom 9 = .ok (.isub, 1) := by decide +kernel
theorem dX1_loadFrom_10 : decode cX1_loadFrom 10 = .ok (.if_icmp .le 4, 3) := by decide +kernel
theorem dX1_loadFrom_13 : decode cX1_loadFrom 13 = .ok (.return_, 1) := by decide +kernel
theorem dX1_loadFrom_14 : decode cX1_loadFrom 14 = .ok (.aload_n 0, 1) := by decide +kernel
theorem dX1_loadFrom_15 : decode cX1_loadFrom 15 = .ok (.aload_n 1, 1) := by decide +kernel
theorem dX1_loadFrom_16 : decode cX1_loadFrom 16 = .ok (.iload_n 2, 1) := by decide +kernel
theorem dX1_loadFrom_17 : decode cX1_loadFrom 17 = .ok (.iaload, 1) := by decide +kernel
theorem dX1_loadFrom_18 : decode cX1_loadFrom 18 = .ok (.putfield 15, 3) := by decide +kernel
theorem dX1_loadFrom_21 : decode cX1_loadFrom 21 = .ok (.aload_n 0, 1) := by decide +kernel
theorem dX1_loadFrom_22 : decode cX1_loadFrom 22 = .ok (.aload_n 1, 1) := by decide +kernel
theorem dX1_loadFrom_23 : decode cX1_loadFrom 23 = .ok (.iload_n 2, 1) := by decide +kernel
theorem dX1_loadFrom_24 : decode cX1_loadFrom 24 = .ok (.iconst 1, 1) := by decide +kernel
theorem dX1_loadFrom_25 : decode cX1_loadFrom 25 = .ok (.iadd, 1) := by decide +kernel
theorem dX1_loadFrom_26 : decode cX1_loadFrom 26 = .ok (.iaload, 1) := by decide +kernel
theorem dX1_loadFrom_27 : decode cX1_loadFrom 27 = .ok (.putfield 19, 3) := by decide +kernel
theorem dX1_loadFrom_30 : decode cX1_loadFrom 30 = .ok (.iconst 0, 1) := by decide +kernel
theorem dX1_loadFrom_31 : decode cX1_loadFrom 31 = .ok (.istore_n 3, 1) := by decide +kernel
theorem dX1_loadFrom_32 : decode cX1_loadFrom 32 = .ok (.iload_n 3, 1) := by decide +kernel
theorem dX1_loadFrom_33 : decode cX1_loadFrom 33 = .ok (.bipush 40, 2) := by decide +kernel
theorem dX1_loadFrom_35 : decode cX1_loadFrom 35 = .ok (.if_icmp .ge 21, 3) := by decide +kernel
theorem dX1_loadFrom_38 : decode cX1_loadFrom 38 = .ok (.aload_n 0, 1) := by decide +kernel
theorem dX1_loadFrom_39 : decode cX1_loadFrom 39 = .ok (.iload_n 3, 1) := by decide +kernel
theorem dX1_loadFrom_40 : decode cX1_loadFrom 40 = .ok (.aload_n 1, 1) := by decide +kernel
theorem dX1_loadFrom_41 : decode cX1_loadFrom 41 = .ok (.iload_n 2, 1) := by decide +kernel
theorem dX1_loadFrom_42 : decode cX1_loadFrom 42 = .ok (.iconst 2, 1) := by decide +kernel
theorem dX1_loadFrom_43 : decode cX1_loadFrom 43 = .ok (.iadd, 1) := by decide +kernel
theorem dX1_loadFrom_44 : decode cX1_loadFrom 44 = .ok (.iload_n 3, 1) := by decide +kernel
theorem dX1_loadFrom_45 : decode cX1_loadFrom 45 = .ok (.iadd, 1) := by decide +kernel
theorem dX1_loadFrom_46 : decode cX1_loadFrom 46 = .ok (.iaload, 1) := by decide +kernel
theorem dX1_loadFrom_47 : decode cX1_loadFrom 47 = .ok (.invokevirtual 29, 3) := by decide +kernel
theorem dX1_loadFrom_50 : decode cX1_loadFrom 50 = .ok (.iinc 3 1, 3) := by decide +kernel
theorem dX1_loadFrom_53 : decode cX1_loadFrom 53 = .ok (.goto (-21), 3) := by decide +kernel
theorem dX1_loadFrom_56 : decode cX1_loadFrom 56 = .ok (.return_, 1) := by decide +kernel
theorem dX2_init_0 : decode cX2_init 0 = .ok (.aload_n 0, 1) := by decide +kernel
theorem dX2_init_1 : decode cX2_init 1 = .ok (.invokespecial 3, 3) := by decide +kernel
theorem dX2_init_4 : decode cX2_init 4 = .ok (.aload_n 0, 1) := by decide +kernel
theorem dX2_init_5 : decode cX2_init 5 = .ok (.bipush 60, 2) := by decide +kernel
theorem dX2_init_7 : decode cX2_init 7 = .ok (.newarray .int, 2) := by decide +kernel
theorem dX2_init_9 : decode cX2_init 9 = .ok (.putfield 9, 3) := by decide +kernel
theorem dX2_init_12 : decode cX2_init 12 = .ok (.aload_n 0, 1) := by decide +kernel
theorem dX2_init_13 : decode cX2_init 13 = .ok (.iconst 0, 1) := by decide +kernel
theorem dX2_init_14 : decode cX2_init 14 = .ok (.putfield 15, 3) := by decide +kernel
theorem dX2_init_17 : decode cX2_init 17 = .ok (.return_, 1) := by decide +kernel
theorem dX2_append_0 : decode cX2_append 0 = .ok (.aload_n 0, 1) := by decide +kernel
theorem dX2_append_1 : decode cX2_append 1 = .ok (.getfield 15, 3) := by decide +kernel
theorem dX2_append_4 : decode cX2_append 4 = .ok (.ifCond .lt 35, 3) := by decide +kernel
theorem dX2_append_7 : decode cX2_append 7 = .ok (.aload_n 0, 1) := by decide +kernel
theorem dX2_append_8 : decode cX2_append 8 = .ok (.getfield 15, 3) := by decide +kernel
theorem dX2_append_11 : decode cX2_append 11 = .ok (.aload_n 0, 1) := by decide +kernel
theorem dX2_append_12 : decode cX2_append 12 = .ok (.getfield 9, 3) := by decide +kernel
theorem dX2_append_15 : decode cX2_append 15 = .ok (.arraylength, 1) := by decide +kernel
theorem dX2_append_16 : decode cX2_append 16 = .ok (.if_icmp .ge 23, 3) := by decide +kernel
theorem dX2_append_19 : decode cX2_append 19 = .ok (.aload_n 0, 1) := by decide +kernel
theorem dX2_append_20 : decode cX2_append 20 = .ok (.getfield 9, 3) := by decide +kernel
theorem dX2_append_23 : decode cX2_append 23 = .ok (.aload_n 0, 1) := by decide +kernel
theorem dX2_append_24 : decode cX2_append 24 = .ok (.getfield 15, 3) := by decide +kernel
theorem dX2_append_27 : decode cX2_append 27 = .ok (.iload_n 1, 1) := by decide +kernel
theorem dX2_append_28 : decode cX2_append 28 = .ok (.iastore, 1) := by decide +kernel
theorem dX2_append_29 : decode cX2_append 29 = .ok (.aload_n 0, 1) := by decide +kernel
theorem dX2_append_30 : decode cX2_append 30 = .ok (.dup, 1) := by decide +kernel
theorem dX2_append_31 : decode cX2_append 31 = .ok (.getfield 15, 3) := by decide +kernel
theorem dX2_append_34 : decode cX2_append 34 = .ok (.iconst 1, 1) := by decide +kernel
theorem dX2_append_35 : decode cX2_append 35 = .ok (.iadd, 1) := by decide +kernel
theorem dX2_append_36 : decode cX2_append 36 = .ok (.putfield 15, 3) := by decide +kernel
theorem dX2_append_39 : decode cX2_append 39 = .ok (.return_, 1) := by decide +kernel
theorem dX2_characterAt_0 : decode cX2_characterAt 0 = .ok (.iload_n 1, 1) := by decide +kernel
theorem dX2_characterAt_1 : decode cX2_characterAt 1 = .ok (.ifCond .lt 29, 3) := by decide +kernel
theorem dX2_characterAt_4 : decode cX2_characterAt 4 = .ok (.iload_n 1, 1) := by decide +kernel
theorem dX2_characterAt_5 : decode cX2_characterAt 5 = .ok (.aload_n 0, 1) := by decide +kernel
theorem dX2_characterAt_6 : decode cX2_characterAt 6 = .ok (.getfield 15, 3) := by decide +kernel
theorem dX2_characterAt_9 : decode cX2_characterAt 9 = .ok (.if_icmp .ge 21, 3) := by decide +kernel
theorem dX2_characterAt_12 : decode cX2_characterAt 12 = .ok (.iload_n 1, 1) := by decide +kernel
theorem dX2_characterAt_13 : decode cX2_characterAt 13 = .ok (.aload_n 0, 1) := by decide +kernel
theorem dX2_characterAt_14 : decode cX2_characterAt 14 = .ok (.getfield 9, 3) := by decide +kernel
theorem dX2_characterAt_17 : decode cX2_characterAt 17 = .ok (.arraylength, 1) := by decide +kernel
theorem dX2_characterAt_18 : decode cX2_characterAt 18 = .ok (.if_icmp .ge 12, 3) := by decide +kernel
theorem dX2_characterAt_21 : decode cX2_characterAt 21 = .ok (.aload_n 0, 1) := by decide +kernel
theorem dX2_characterAt_22 : decode cX2_characterAt 22 = .ok (.getfield 9, 3) := by decide +kernel
theorem dX2_characterAt_25 : decode cX2_characterAt 25 = .ok (.iload_n 1, 1) := by decide +kernel
theorem dX2_characterAt_26 : decode cX2_characterAt 26 = .ok (.iaload, 1) := by decide +kernel
theorem dX2_characterAt_27 : decode cX2_characterAt 27 = .ok (.goto 4, 3) := by decide +kernel
theorem dX2_characterAt_30 : decode cX2_characterAt 30 = .ok (.iconst 0, 1) := by decide +kernel
theorem dX2_characterAt_31 : decode cX2_characterAt 31 = .ok (.ireturn, 1) := by decide +kernel
theorem dX2_isDigit_0 : decode cX2_isDigit 0 = .ok (.iload_n 0, 1) := by decide +kernel
theorem dX2_isDigit_1 : decode cX2_isDigit 1 = .ok (.bipush 48, 2) := by decide +kernel
theorem dX2_isDigit_3 : decode cX2_isDigit 3 = .ok (.bipush 57, 2) := by decide +kernel
theorem dX2_isDigit_5 : decode cX2_isDigit 5 = .ok (.invokestatic 19, 3) := by decide +kernel
theorem dX2_isDigit_8 : decode cX2_isDigit 8 = .ok (.ireturn, 1) := by decide +kernel
theorem dX2_endsNumber_0 : decode cX2_endsNumber 0 = .ok (.iload_n 1, 1) := by decide +kernel
theorem dX2_endsNumber_1 : decode cX2_endsNumber 1 = .ok (.aload_n 0, 1) := by decide +kernel
theorem dX2_endsNumber_2 : decode cX2_endsNumber 2 = .ok (.getfield 15, 3) := by decide +kernel
theorem dX2_endsNumber_5 : decode cX2_endsNumber 5 = .ok (.if_icmp .ge 13, 3) := by decide +kernel
theorem dX2_endsNumber_8 : decode cX2_endsNumber 8 = .ok (.aload_n 0, 1) := by decide +kernel
theorem dX2_endsNumber_9 : decode cX2_endsNumber 9 = .ok (.iload_n 1, 1) := by decide +kernel
theorem dX2_endsNumber_10 : decode cX2_endsNumber 10 = .ok (.invokevirtual 23, 3) := by decide +kernel
theorem dX2_endsNumber_13 : decode cX2_endsNumber 13 = .ok (.bipush 44, 2) := by decide +kernel
theorem dX2_endsNumber_15 : decode cX2_endsNumber 15 = .ok (.if_icmp .ne 7, 3) := by decide +kernel
theorem dX2_endsNumber_18 : decode cX2_endsNumber 18 = .ok (.iconst 1, 1) := by decide +kernel
theorem dX2_endsNumber_19 : decode cX2_endsNumber 19 = .ok (.goto 4, 3) := by decide +kernel
theorem dX2_endsNumber_22 : decode cX2_endsNumber 22 = .ok (.iconst 0, 1) := by decide +kernel
theorem dX2_endsNumber_23 : decode cX2_endsNumber 23 = .ok (.ireturn, 1) := by decide +kernel
theorem dX2_firstFault_0 : decode cX2_firstFault 0 = .ok (.iconst 0, 1) := by decide +kernel
theorem dX2_firstFault_1 : decode cX2_firstFault 1 = .ok (.istore_n 2, 1) := by decide +kernel
theorem dX2_firstFault_2 : decode cX2_firstFault 2 = .ok (.iconst 0, 1) := by decide +kernel
theorem dX2_firstFault_3 : decode cX2_firstFault 3 = .ok (.istore_n 3, 1) := by decide +kernel
theorem dX2_firstFault_4 : decode cX2_firstFault 4 = .ok (.iconst 0, 1) := by decide +kernel
theorem dX2_firstFault_5 : decode cX2_firstFault 5 = .ok (.istore 4, 2) := by decide +kernel
theorem dX2_firstFault_7 : decode cX2_firstFault 7 = .ok (.iconst 0, 1) := by decide +kernel
theorem dX2_firstFault_8 : decode cX2_firstFault 8 = .ok (.istore 5, 2) := by decide +kernel
theorem dX2_firstFault_10 : decode cX2_firstFault 10 = .ok (.iload 5, 2) := by decide +kernel
theorem dX2_firstFault_12 : decode cX2_firstFault 12 = .ok (.aload_n 0, 1) := by decide +kernel
theorem dX2_firstFault_13 : decode cX2_firstFault 13 = .ok (.getfield 15, 3) := by decide +kernel
theorem dX2_firstFault_16 : decode cX2_firstFault 16 = .ok (.if_icmp .gt 139, 3) := by decide +kernel
theorem dX2_firstFault_19 : decode cX2_firstFault 19 = .ok (.aload_n 0, 1) := by decide +kernel
theorem dX2_firstFault_20 : decode cX2_firstFault 20 = .ok (.iload 5, 2) := by decide +kernel
theorem dX2_firstFault_22 : decode cX2_firstFault 22 = .ok (.invokevirtual 23, 3) := by decide +kernel
theorem dX2_firstFault_25 : decode cX2_firstFault 25 = .ok (.istore 6, 2) := by decide +kernel
theorem dX2_firstFault_27 : decode cX2_firstFault 27 = .ok (.iload 5, 2) := by decide +kernel
theorem dX2_firstFault_29 : decode cX2_firstFault 29 = .ok (.iload_n 3, 1) := by decide +kernel
theorem dX2_firstFault_30 : decode cX2_firstFault 30 = .ok (.isub, 1) := by decide +kernel
theorem dX2_firstFault_31 : decode cX2_firstFault 31 = .ok (.istore 7, 2) := by decide +kernel
theorem dX2_firstFault_33 : decode cX2_firstFault 33 = .ok (.iload 6, 2) := by decide +kernel
theorem dX2_firstFault_35 : decode cX2_firstFault 35 = .ok (.invokestatic 27, 3) := by decide +kernel
theorem dX2_firstFault_38 : decode cX2_firstFault 38 = .ok (.ifCond .eq 55, 3) := by decide +kernel
theorem dX2_firstFault_41 : decode cX2_firstFault 41 = .ok (.iload 7, 2) := by decide +kernel
theorem dX2_firstFault_43 : decode cX2_firstFault 43 = .ok (.iconst 4, 1) := by decide +kernel
theorem dX2_firstFault_44 : decode cX2_firstFault 44 = .ok (.if_icmp .eq 14, 3) := by decide +kernel
theorem dX2_firstFault_47 : decode cX2_firstFault 47 = .ok (.iload 7, 2) := by decide +kernel
theorem dX2_firstFault_49 : decode cX2_firstFault 49 = .ok (.iconst 1, 1) := by decide +kernel
theorem dX2_firstFault_50 : decode cX2_firstFault 50 = .ok (.if_icmp .ne 12, 3) := by decide +kernel
theorem dX2_firstFault_53 : decode cX2_firstFault 53 = .ok (.iload 4, 2) := by decide +kernel
theorem dX2_firstFault_55 : decode cX2_firstFault 55 = .ok (.ifCond .ne 7, 3) := by decide +kernel
theorem dX2_firstFault_58 : decode cX2_firstFault 58 = .ok (.iconst 1, 1) := by decide +kernel
theorem dX2_firstFault_59 : decode cX2_firstFault 59 = .ok (.goto 4, 3) := by decide +kernel
theorem dX2_firstFault_62 : decode cX2_firstFault 62 = .ok (.iconst 0, 1) := by decide +kernel
theorem dX2_firstFault_63 : decode cX2_firstFault 63 = .ok (.istore 8, 2) := by decide +kernel
theorem dX2_firstFault_65 : decode cX2_firstFault 65 = .ok (.iload 8, 2) := by decide +kernel
theorem dX2_firstFault_67 : decode cX2_firstFault 67 = .ok (.ifCond .eq 10, 3) := by decide +kernel
theorem dX2_firstFault_70 : decode cX2_firstFault 70 = .ok (.iconst 4, 1) := by decide +kernel
theorem dX2_firstFault_71 : decode cX2_firstFault 71 = .ok (.iload 5, 2) := by decide +kernel
theorem dX2_firstFault_73 : decode cX2_firstFault 73 = .ok (.imul, 1) := by decide +kernel
theorem dX2_firstFault_74 : decode cX2_firstFault 74 = .ok (.iconst 1, 1) := by decide +kernel
theorem dX2_firstFault_75 : decode cX2_firstFault 75 = .ok (.iadd, 1) := by decide +kernel
theorem dX2_firstFault_76 : decode cX2_firstFault 76 = .ok (.ireturn, 1) := by decide +kernel
theorem dX2_firstFault_77 : decode cX2_firstFault 77 = .ok (.bipush 10, 2) := by decide +kernel
theorem dX2_firstFault_79 : decode cX2_firstFault 79 = .ok (.iload 4, 2) := by decide +kernel
theorem dX2_firstFault_81 : decode cX2_firstFault 81 = .ok (.imul, 1) := by decide +kernel
theorem dX2_firstFault_82 : decode cX2_firstFault 82 = .ok (.iload 6, 2) := by decide +kernel
theorem dX2_firstFault_84 : decode cX2_firstFault 84 = .ok (.iadd, 1) := by decide +kernel
theorem dX2_firstFault_85 : decode cX2_firstFault 85 = .ok (.bipush 48, 2) := by decide +kernel
theorem dX2_firstFault_87 : decode cX2_firstFault 87 = .ok (.isub, 1) := by decide +kernel
theorem dX2_firstFault_88 : decode cX2_firstFault 88 = .ok (.istore 4, 2) := by decide +kernel
theorem dX2_firstFault_90 : decode cX2_firstFault 90 = .ok (.goto 59, 3) := by decide +kernel
theorem dX2_firstFault_93 : decode cX2_firstFault 93 = .ok (.iload 7, 2) := by decide +kernel
theorem dX2_firstFault_95 : decode cX2_firstFault 95 = .ok (.ifCond .eq 12, 3) := by decide +kernel
theorem dX2_firstFault_98 : decode cX2_firstFault 98 = .ok (.aload_n 0, 1) := by decide +kernel
theorem dX2_firstFault_99 : decode cX2_firstFault 99 = .ok (.iload 5, 2) := by decide +kernel
theorem dX2_firstFault_101 : decode cX2_firstFault 101 = .ok (.invokevirtual 31, 3) := by decide +kernel
theorem dX2_firstFault_104 : decode cX2_firstFault 104 = .ok (.ifCond .ne 10, 3) := by decide +kernel
theorem dX2_firstFault_107 : decode cX2_firstFault 107 = .ok (.iconst 4, 1) := by decide +kernel
theorem dX2_firstFault_108 : decode cX2_firstFault 108 = .ok (.iload 5, 2) := by decide +kernel
theorem dX2_firstFault_110 : decode cX2_firstFault 110 = .ok (.imul, 1) := by decide +kernel
theorem dX2_firstFault_111 : decode cX2_firstFault 111 = .ok (.iconst 1, 1) := by decide +kernel
theorem dX2_firstFault_112 : decode cX2_firstFault 112 = .ok (.iadd, 1) := by decide +kernel
theorem dX2_firstFault_113 : decode cX2_firstFault 113 = .ok (.ireturn, 1) := by decide +kernel
theorem dX2_firstFault_114 : decode cX2_firstFault 114 = .ok (.iload 4, 2) := by decide +kernel
theorem dX2_firstFault_116 : decode cX2_firstFault 116 = .ok (.iload_n 2, 1) := by decide +kernel
theorem dX2_firstFault_117 : decode cX2_firstFault 117 = .ok (.if_icmp .ge 9, 3) := by decide +kernel
theorem dX2_firstFault_120 : decode cX2_firstFault 120 = .ok (.iconst 4, 1) := by decide +kernel
theorem dX2_firstFault_121 : decode cX2_firstFault 121 = .ok (.iload_n 3, 1) := by decide +kernel
theorem dX2_firstFault_122 : decode cX2_firstFault 122 = .ok (.imul, 1) := by decide +kernel
theorem dX2_firstFault_123 : decode cX2_firstFault 123 = .ok (.iconst 2, 1) := by decide +kernel
theorem dX2_firstFault_124 : decode cX2_firstFault 124 = .ok (.iadd, 1) := by decide +kernel
theorem dX2_firstFault_125 : decode cX2_firstFault 125 = .ok (.ireturn, 1) := by decide +kernel
theorem dX2_firstFault_126 : decode cX2_firstFault 126 = .ok (.iload 4, 2) := by decide +kernel
theorem dX2_firstFault_128 : decode cX2_firstFault 128 = .ok (.iload_n 1, 1) := by decide +kernel
theorem dX2_firstFault_129 : decode cX2_firstFault 129 = .ok (.if_icmp .lt 9, 3) := by decide +kernel
theorem dX2_firstFault_132 : decode cX2_firstFault 132 = .ok (.iconst 4, 1) := by decide +kernel
theorem dX2_firstFault_133 : decode cX2_firstFault 133 = .ok (.iload_n 3, 1) := by decide +kernel
theorem dX2_firstFault_134 : decode cX2_firstFault 134 = .ok (.imul, 1) := by decide +kernel
theorem dX2_firstFault_135 : decode cX2_firstFault 135 = .ok (.iconst 3, 1) := by decide +kernel
theorem dX2_firstFault_136 : decode cX2_firstFault 136 = .ok (.iadd, 1) := by decide +kernel
theorem dX2_firstFault_137 : decode cX2_firstFault 137 = .ok (.ireturn, 1) := by decide +kernel
theorem dX2_firstFault_138 : decode cX2_firstFault 138 = .ok (.iload 4, 2) := by decide +kernel
theorem dX2_firstFault_140 : decode cX2_firstFault 140 = .ok (.istore_n 2, 1) := by decide +kernel
theorem dX2_firstFault_141 : decode cX2_firstFault 141 = .ok (.iconst 0, 1) := by decide +kernel
theorem dX2_firstFault_142 : decode cX2_firstFault 142 = .ok (.istore 4, 2) := by decide +kernel
theorem dX2_firstFault_144 : decode cX2_firstFault 144 = .ok (.iload 5, 2) := by decide +kernel
theorem dX2_firstFault_146 : decode cX2_firstFault 146 = .ok (.iconst 1, 1) := by decide +kernel
theorem dX2_firstFault_147 : decode cX2_firstFault 147 = .ok (.iadd, 1) := by decide +kernel
theorem dX2_firstFault_148 : decode cX2_firstFault 148 = .ok (.istore_n 3, 1) := by decide +kernel
theorem dX2_firstFault_149 : decode cX2_firstFault 149 = .ok (.iinc 5 1, 3) := by decide +kernel
theorem dX2_firstFault_152 : decode cX2_firstFault 152 = .ok (.goto (-142), 3) := by decide +kernel
theorem dX2_firstFault_155 : decode cX2_firstFault 155 = .ok (.iconst (-1), 1) := by decide +kernel
theorem dX2_firstFault_156 : decode cX2_firstFault 156 = .ok (.ireturn, 1) := by decide +kernel
theorem dX2_fill_0 : decode cX2_fill 0 = .ok (.aload_n 1, 1) := by decide +kernel
theorem dX2_fill_1 : decode cX2_fill 1 = .ok (.iconst 0, 1) := by decide +kernel
theorem dX2_fill_2 : decode cX2_fill 2 = .ok (.putfield 34, 3) := by decide +kernel
theorem dX2_fill_5 : decode cX2_fill 5 = .ok (.iconst 0, 1) := by decide +kernel
theorem dX2_fill_6 : decode cX2_fill 6 = .ok (.istore_n 2, 1) := by decide +kernel
theorem dX2_fill_7 : decode cX2_fill 7 = .ok (.iconst 0, 1) := by decide +kernel
theorem dX2_fill_8 : decode cX2_fill 8 = .ok (.istore_n 3, 1) := by decide +kernel
theorem dX2_fill_9 : decode cX2_fill 9 = .ok (.iload_n 3, 1) := by decide +kernel
theorem dX2_fill_10 : decode cX2_fill 10 = .ok (.aload_n 0, 1) := by decide +kernel
theorem dX2_fill_11 : decode cX2_fill 11 = .ok (.getfield 15, 3) := by decide +kernel
theorem dX2_fill_14 : decode cX2_fill 14 = .ok (.if_icmp .gt 42, 3) := by decide +kernel
theorem dX2_fill_17 : decode cX2_fill 17 = .ok (.aload_n 0, 1) := by decide +kernel
theorem dX2_fill_18 : decode cX2_fill 18 = .ok (.iload_n 3, 1) := by decide +kernel
theorem dX2_fill_19 : decode cX2_fill 19 = .ok (.invokevirtual 31, 3) := by decide +kernel
theorem dX2_fill_22 : decode cX2_fill 22 = .ok (.ifCond .eq 14, 3) := by decide +kernel
theorem dX2_fill_25 : decode cX2_fill 25 = .ok (.aload_n 1, 1) := by decide +kernel
theorem dX2_fill_26 : decode cX2_fill 26 = .ok (.iload_n 2, 1) := by decide +kernel
theorem dX2_fill_27 : decode cX2_fill 27 = .ok (.invokevirtual 39, 3) := by decide +kernel
theorem dX2_fill_30 : decode cX2_fill 30 = .ok (.pop, 1) := by decide +kernel
theorem dX2_fill_31 : decode cX2_fill 31 = .ok (.iconst 0, 1) := by decide +kernel
theorem dX2_fill_32 : decode cX2_fill 32 = .ok (.istore_n 2, 1) := by decide +kernel
theorem dX2_fill_33 : decode cX2_fill 33 = .ok (.goto 17, 3) := by decide +kernel
theorem dX2_fill_36 : decode cX2_fill 36 = .ok (.bipush 10, 2) := by decide +kernel
theorem dX2_fill_38 : decode cX2_fill 38 = .ok (.iload_n 2, 1) := by decide +kernel
theorem dX2_fill_39 : decode cX2_fill 39 = .ok (.imul, 1) := by decide +kernel
theorem dX2_fill_40 : decode cX2_fill 40 = .ok (.aload_n 0, 1) := by decide +kernel
theorem dX2_fill_41 : decode cX2_fill 41 = .ok (.iload_n 3, 1) := by decide +kernel
theorem dX2_fill_42 : decode cX2_fill 42 = .ok (.invokevirtual 23, 3) := by decide +kernel
theorem dX2_fill_45 : decode cX2_fill 45 = .ok (.iadd, 1) := by decide +kernel
theorem dX2_fill_46 : decode cX2_fill 46 = .ok (.bipush 48, 2) := by decide +kernel
theorem dX2_fill_48 : decode cX2_fill 48 = .ok (.isub, 1) := by decide +kernel
theorem dX2_fill_49 : decode cX2_fill 49 = .ok (.istore_n 2, 1) := by decide +kernel
theorem dX2_fill_50 : decode cX2_fill 50 = .ok (.iinc 3 1, 3) := by decide +kernel
theorem dX2_fill_53 : decode cX2_fill 53 = .ok (.goto (-44), 3) := by decide +kernel
theorem dX2_fill_56 : decode cX2_fill 56 = .ok (.return_, 1) := by decide +kernel
theorem dX3_init_0 : decode cX3_init 0 = .ok (.aload_n 0, 1) := by decide +kernel
theorem dX3_init_1 : decode cX3_init 1 = .ok (.invokespecial 3, 3) := by decide +kernel
theorem dX3_init_4 : decode cX3_init 4 = .ok (.aload_n 0, 1) := by decide +kernel
theorem dX3_init_5 : decode cX3_init 5 = .ok (.new 9, 3) := by decide +kernel
theorem dX3_init_8 : decode cX3_init 8 = .ok (.dup, 1) := by decide +kernel
theorem dX3_init_9 : decode cX3_init 9 = .ok (.invokespecial 11, 3) := by decide +kernel
theorem dX3_init_12 : decode cX3_init 12 = .ok (.putfield 12, 3) := by decide +kernel
theorem dX3_init_15 : decode cX3_init 15 = .ok (.aload_n 0, 1) := by decide +kernel
theorem dX3_init_16 : decode cX3_init 16 = .ok (.new 9, 3) := by decide +kernel
theorem dX3_init_19 : decode cX3_init 19 = .ok (.dup, 1) := by decide +kernel
theorem dX3_init_20 : decode cX3_init 20 = .ok (.invokespecial 11, 3) := by decide +kernel
theorem dX3_init_23 : decode cX3_init 23 = .ok (.putfield 16, 3) := by decide +kernel
theorem dX3_init_26 : decode cX3_init 26 = .ok (.aload_n 0, 1) := by decide +kernel
theorem dX3_init_27 : decode cX3_init 27 = .ok (.new 19, 3) := by decide +kernel
theorem dX3_init_30 : decode cX3_init 30 = .ok (.dup, 1) := by decide +kernel
theorem dX3_init_31 : decode cX3_init 31 = .ok (.invokespecial 21, 3) := by decide +kernel
theorem dX3_init_34 : decode cX3_init 34 = .ok (.putfield 22, 3) := by decide +kernel
theorem dX3_init_37 : decode cX3_init 37 = .ok (.aload_n 0, 1) := by decide +kernel
theorem dX3_init_38 : decode cX3_init 38 = .ok (.new 26, 3) := by decide +kernel
theorem dX3_init_41 : decode cX3_init 41 = .ok (.dup, 1) := by decide +kernel
theorem dX3_init_42 : decode cX3_init 42 = .ok (.invokespecial 28, 3) := by decide +kernel
theorem dX3_init_45 : decode cX3_init 45 = .ok (.putfield 29, 3) := by decide +kernel
theorem dX3_init_48 : decode cX3_init 48 = .ok (.return_, 1) := by decide +kernel
theorem dX3_add_0 : decode cX3_add 0 = .ok (.iload_n 1, 1) := by decide +kernel
theorem dX3_add_1 : decode cX3_add 1 = .ok (.invokestatic 33, 3) := by decide +kernel
theorem dX3_add_4 : decode cX3_add 4 = .ok (.ifCond .eq 14, 3) := by decide +kernel
theorem dX3_add_7 : decode cX3_add 7 = .ok (.iload_n 2, 1) := by decide +kernel
theorem dX3_add_8 : decode cX3_add 8 = .ok (.iconst 0, 1) := by decide +kernel
theorem dX3_add_9 : decode cX3_add 9 = .ok (.sipush 4095, 3) := by decide +kernel
theorem dX3_add_12 : decode cX3_add 12 = .ok (.invokestatic 37, 3) := by decide +kernel
theorem dX3_add_15 : decode cX3_add 15 = .ok (.ifCond .ne 6, 3) := by decide +kernel
theorem dX3_add_18 : decode cX3_add 18 = .ok (.ldc 41, 2) := by decide +kernel
theorem dX3_add_20 : decode cX3_add 20 = .ok (.ireturn, 1) := by decide +kernel
theorem dX3_add_21 : decode cX3_add 21 = .ok (.aload_n 0, 1) := by decide +kernel
theorem dX3_add_22 : decode cX3_add 22 = .ok (.iload_n 1, 1) := by decide +kernel
theorem dX3_add_23 : decode cX3_add 23 = .ok (.invokevirtual 42, 3) := by decide +kernel
theorem dX3_add_26 : decode cX3_add 26 = .ok (.astore_n 3, 1) := by decide +kernel
theorem dX3_add_27 : decode cX3_add 27 = .ok (.iload_n 2, 1) := by decide +kernel
theorem dX3_add_28 : decode cX3_add 28 = .ok (.aload_n 3, 1) := by decide +kernel
theorem dX3_add_29 : decode cX3_add 29 = .ok (.getfield 46, 3) := by decide +kernel
theorem dX3_add_32 : decode cX3_add 32 = .ok (.if_icmp .lt 6, 3) := by decide +kernel
theorem dX3_add_35 : decode cX3_add 35 = .ok (.ldc 50, 2) := by decide +kernel
theorem dX3_add_37 : decode cX3_add 37 = .ok (.ireturn, 1) := by decide +kernel
theorem dX3_add_38 : decode cX3_add 38 = .ok (.aload_n 3, 1) := by decide +kernel
theorem dX3_add_39 : decode cX3_add 39 = .ok (.getfield 51, 3) := by decide +kernel
theorem dX3_add_42 : decode cX3_add 42 = .ok (.bipush 40, 2) := by decide +kernel
theorem dX3_add_44 : decode cX3_add 44 = .ok (.if_icmp .lt 6, 3) := by decide +kernel
theorem dX3_add_47 : decode cX3_add 47 = .ok (.ldc 54, 2) := by decide +kernel
theorem dX3_add_49 : decode cX3_add 49 = .ok (.ireturn, 1) := by decide +kernel
theorem dX3_add_50 : decode cX3_add 50 = .ok (.aload_n 0, 1) := by decide +kernel
theorem dX3_add_51 : decode cX3_add 51 = .ok (.invokevirtual 55, 3) := by decide +kernel
theorem dX3_add_54 : decode cX3_add 54 = .ok (.aload_n 3, 1) := by decide +kernel
theorem dX3_add_55 : decode cX3_add 55 = .ok (.iload_n 2, 1) := by decide +kernel
theorem dX3_add_56 : decode cX3_add 56 = .ok (.invokevirtual 58, 3) := by decide +kernel
theorem dX3_add_59 : decode cX3_add 59 = .ok (.ireturn, 1) := by decide +kernel
theorem dX3_drop_0 : decode cX3_drop 0 = .ok (.iload_n 1, 1) := by decide +kernel
theorem dX3_drop_1 : decode cX3_drop 1 = .ok (.invokestatic 33, 3) := by decide +kernel
theorem dX3_drop_4 : decode cX3_drop 4 = .ok (.ifCond .eq 7, 3) := by decide +kernel
theorem dX3_drop_7 : decode cX3_drop 7 = .ok (.iload_n 2, 1) := by decide +kernel
theorem dX3_drop_8 : decode cX3_drop 8 = .ok (.ifCond .ge 6, 3) := by decide +kernel
theorem dX3_drop_11 : decode cX3_drop 11 = .ok (.ldc 41, 2) := by decide +kernel
theorem dX3_drop_13 : decode cX3_drop 13 = .ok (.ireturn, 1) := by decide +kernel
theorem dX3_drop_14 : decode cX3_drop 14 = .ok (.aload_n 0, 1) := by decide +kernel
theorem dX3_drop_15 : decode cX3_drop 15 = .ok (.iload_n 1, 1) := by decide +kernel
theorem dX3_drop_16 : decode cX3_drop 16 = .ok (.invokevirtual 42, 3) := by decide +kernel
theorem dX3_drop_19 : decode cX3_drop 19 = .ok (.astore_n 3, 1) := by decide +kernel
theorem dX3_drop_20 : decode cX3_drop 20 = .ok (.iload_n 2, 1) := by decide +kernel
theorem dX3_drop_21 : decode cX3_drop 21 = .ok (.aload_n 3, 1) := by decide +kernel
theorem dX3_drop_22 : decode cX3_drop 22 = .ok (.getfield 51, 3) := by decide +kernel
theorem dX3_drop_25 : decode cX3_drop 25 = .ok (.if_icmp .lt 6, 3) := by decide +kernel
theorem dX3_drop_28 : decode cX3_drop 28 = .ok (.ldc 50, 2) := by decide +kernel
theorem dX3_drop_30 : decode cX3_drop 30 = .ok (.ireturn, 1) := by decide +kernel
theorem dX3_drop_31 : decode cX3_drop 31 = .ok (.aload_n 0, 1) := by decide +kernel
theorem dX3_drop_32 : decode cX3_drop 32 = .ok (.invokevirtual 55, 3) := by decide +kernel
theorem dX3_drop_35 : decode cX3_drop 35 = .ok (.aload_n 3, 1) := by decide +kernel
theorem dX3_drop_36 : decode cX3_drop 36 = .ok (.iload_n 2, 1) := by decide +kernel
theorem dX3_drop_37 : decode cX3_drop 37 = .ok (.invokevirtual 62, 3) := by decide +kernel
theorem dX3_drop_40 : decode cX3_drop 40 = .ok (.ireturn, 1) := by decide +kernel
theorem dX3_bound_0 : decode cX3_bound 0 = .ok (.iload_n 1, 1) := by decide +kernel
theorem dX3_bound_1 : decode cX3_bound 1 = .ok (.invokestatic 33, 3) := by decide +kernel
theorem dX3_bound_4 : decode cX3_bound 4 = .ok (.ifCond .eq 14, 3) := by decide +kernel
theorem dX3_bound_7 : decode cX3_bound 7 = .ok (.iload_n 2, 1) := by decide +kernel
theorem dX3_bound_8 : decode cX3_bound 8 = .ok (.iconst 2, 1) := by decide +kernel
theorem dX3_bound_9 : decode cX3_bound 9 = .ok (.sipush 4096, 3) := by decide +kernel
theorem dX3_bound_12 : decode cX3_bound 12 = .ok (.invokestatic 37, 3) := by decide +kernel
theorem dX3_bound_15 : decode cX3_bound 15 = .ok (.ifCond .ne 6, 3) := by decide +kernel
theorem dX3_bound_18 : decode cX3_bound 18 = .ok (.ldc 41, 2) := by decide +kernel
theorem dX3_bound_20 : decode cX3_bound 20 = .ok (.ireturn, 1) := by decide +kernel
theorem dX3_bound_21 : decode cX3_bound 21 = .ok (.aload_n 0, 1) := by decide +kernel
theorem dX3_bound_22 : decode cX3_bound 22 = .ok (.iload_n 1, 1) := by decide +kernel
theorem dX3_bound_23 : decode cX3_bound 23 = .ok (.invokevirtual 42, 3) := by decide +kernel
theorem dX3_bound_26 : decode cX3_bound 26 = .ok (.astore_n 3, 1) := by decide +kernel
theorem dX3_bound_27 : decode cX3_bound 27 = .ok (.aload_n 3, 1) := by decide +kernel
theorem dX3_bound_28 : decode cX3_bound 28 = .ok (.iload_n 2, 1) := by decide +kernel
theorem dX3_bound_29 : decode cX3_bound 29 = .ok (.invokevirtual 65, 3) := by decide +kernel
theorem dX3_bound_32 : decode cX3_bound 32 = .ok (.aload_n 3, 1) := by decide +kernel
theorem dX3_bound_33 : decode cX3_bound 33 = .ok (.getfield 51, 3) := by decide +kernel
theorem dX3_bound_36 : decode cX3_bound 36 = .ok (.if_icmp .ge 6, 3) := by decide +kernel
theorem dX3_bound_39 : decode cX3_bound 39 = .ok (.ldc 50, 2) := by decide +kernel
theorem dX3_bound_41 : decode cX3_bound 41 = .ok (.ireturn, 1) := by decide +kernel
theorem dX3_bound_42 : decode cX3_bound 42 = .ok (.aload_n 0, 1) := by decide +kernel
theorem dX3_bound_43 : decode cX3_bound 43 = .ok (.invokevirtual 55, 3) := by decide +kernel
theorem dX3_bound_46 : decode cX3_bound 46 = .ok (.aload_n 3, 1) := by decide +kernel
theorem dX3_bound_47 : decode cX3_bound 47 = .ok (.getfield 46, 3) := by decide +kernel
theorem dX3_bound_50 : decode cX3_bound 50 = .ok (.istore 4, 2) := by decide +kernel
theorem dX3_bound_52 : decode cX3_bound 52 = .ok (.aload_n 3, 1) := by decide +kernel
theorem dX3_bound_53 : decode cX3_bound 53 = .ok (.iload_n 2, 1) := by decide +kernel
theorem dX3_bound_54 : decode cX3_bound 54 = .ok (.putfield 46, 3) := by decide +kernel
theorem dX3_bound_57 : decode cX3_bound 57 = .ok (.iload 4, 2) := by decide +kernel
theorem dX3_bound_59 : decode cX3_bound 59 = .ok (.ireturn, 1) := by decide +kernel
theorem dX3_join_0 : decode cX3_join 0 = .ok (.iload_n 1, 1) := by decide +kernel
theorem dX3_join_1 : decode cX3_join 1 = .ok (.iconst 0, 1) := by decide +kernel
theorem dX3_join_2 : decode cX3_join 2 = .ok (.iconst 1, 1) := by decide +kernel
theorem dX3_join_3 : decode cX3_join 3 = .ok (.invokestatic 37, 3) := by decide +kernel
theorem dX3_join_6 : decode cX3_join 6 = .ok (.ifCond .ne 6, 3) := by decide +kernel
theorem dX3_join_9 : decode cX3_join 9 = .ok (.ldc 41, 2) := by decide +kernel
theorem dX3_join_11 : decode cX3_join 11 = .ok (.ireturn, 1) := by decide +kernel
theorem dX3_join_12 : decode cX3_join 12 = .ok (.iload_n 1, 1) := by decide +kernel
theorem dX3_join_13 : decode cX3_join 13 = .ok (.iconst 1, 1) := by decide +kernel
theorem dX3_join_14 : decode cX3_join 14 = .ok (.if_icmp .ne 7, 3) := by decide +kernel
theorem dX3_join_17 : decode cX3_join 17 = .ok (.iconst 1, 1) := by decide +kernel
theorem dX3_join_18 : decode cX3_join 18 = .ok (.goto 4, 3) := by decide +kernel
theorem dX3_join_21 : decode cX3_join 21 = .ok (.iconst 0, 1) := by decide +kernel
theorem dX3_join_22 : decode cX3_join 22 = .ok (.istore_n 2, 1) := by decide +kernel
theorem dX3_join_23 : decode cX3_join 23 = .ok (.aload_n 0, 1) := by decide +kernel
theorem dX3_join_24 : decode cX3_join 24 = .ok (.iload_n 2, 1) := by decide +kernel
theorem dX3_join_25 : decode cX3_join 25 = .ok (.invokevirtual 68, 3) := by decide +kernel
theorem dX3_join_28 : decode cX3_join 28 = .ok (.bipush 40, 2) := by decide +kernel
theorem dX3_join_30 : decode cX3_join 30 = .ok (.if_icmp .le 6, 3) := by decide +kernel
theorem dX3_join_33 : decode cX3_join 33 = .ok (.ldc 54, 2) := by decide +kernel
theorem dX3_join_35 : decode cX3_join 35 = .ok (.ireturn, 1) := by decide +kernel
theorem dX3_join_36 : decode cX3_join 36 = .ok (.aload_n 0, 1) := by decide +kernel
theorem dX3_join_37 : decode cX3_join 37 = .ok (.invokevirtual 55, 3) := by decide +kernel
theorem dX3_join_40 : decode cX3_join 40 = .ok (.iload_n 2, 1) := by decide +kernel
theorem dX3_join_41 : decode cX3_join 41 = .ok (.ifCond .eq 10, 3) := by decide +kernel
theorem dX3_join_44 : decode cX3_join 44 = .ok (.aload_n 0, 1) := by decide +kernel
theorem dX3_join_45 : decode cX3_join 45 = .ok (.getfield 12, 3) := by decide +kernel
theorem dX3_join_48 : decode cX3_join 48 = .ok (.invokevirtual 72, 3) := by decide +kernel
theorem dX3_join_51 : decode cX3_join 51 = .ok (.iconst 0, 1) := by decide +kernel
theorem dX3_join_52 : decode cX3_join 52 = .ok (.istore_n 3, 1) := by decide +kernel
theorem dX3_join_53 : decode cX3_join 53 = .ok (.iload_n 3, 1) := by decide +kernel
theorem dX3_join_54 : decode cX3_join 54 = .ok (.aload_n 0, 1) := by decide +kernel
theorem dX3_join_55 : decode cX3_join 55 = .ok (.getfield 16, 3) := by decide +kernel
theorem dX3_join_58 : decode cX3_join 58 = .ok (.getfield 51, 3) := by decide +kernel
theorem dX3_join_61 : decode cX3_join 61 = .ok (.if_icmp .ge 45, 3) := by decide +kernel
theorem dX3_join_64 : decode cX3_join 64 = .ok (.aload_n 0, 1) := by decide +kernel
theorem dX3_join_65 : decode cX3_join 65 = .ok (.getfield 16, 3) := by decide +kernel
theorem dX3_join_68 : decode cX3_join 68 = .ok (.iload_n 3, 1) := by decide +kernel
theorem dX3_join_69 : decode cX3_join 69 = .ok (.invokevirtual 75, 3) := by decide +kernel
theorem dX3_join_72 : decode cX3_join 72 = .ok (.istore 4, 2) := by decide +kernel
theorem dX3_join_74 : decode cX3_join 74 = .ok (.iload_n 2, 1) := by decide +kernel
theorem dX3_join_75 : decode cX3_join 75 = .ok (.ifCond .eq 15, 3) := by decide +kernel
theorem dX3_join_78 : decode cX3_join 78 = .ok (.aload_n 0, 1) := by decide +kernel
theorem dX3_join_79 : decode cX3_join 79 = .ok (.getfield 12, 3) := by decide +kernel
theorem dX3_join_82 : decode cX3_join 82 = .ok (.iload 4, 2) := by decide +kernel
theorem dX3_join_84 : decode cX3_join 84 = .ok (.invokevirtual 78, 3) := by decide +kernel
theorem dX3_join_87 : decode cX3_join 87 = .ok (.ifCond .ne 13, 3) := by decide +kernel
theorem dX3_join_90 : decode cX3_join 90 = .ok (.aload_n 0, 1) := by decide +kernel
theorem dX3_join_91 : decode cX3_join 91 = .ok (.getfield 12, 3) := by decide +kernel
theorem dX3_join_94 : decode cX3_join 94 = .ok (.iload 4, 2) := by decide +kernel
theorem dX3_join_96 : decode cX3_join 96 = .ok (.invokevirtual 58, 3) := by decide +kernel
theorem dX3_join_99 : decode cX3_join 99 = .ok (.pop, 1) := by decide +kernel
theorem dX3_join_100 : decode cX3_join 100 = .ok (.iinc 3 1, 3) := by decide +kernel
theorem dX3_join_103 : decode cX3_join 103 = .ok (.goto (-50), 3) := by decide +kernel
theorem dX3_join_106 : decode cX3_join 106 = .ok (.aload_n 0, 1) := by decide +kernel
theorem dX3_join_107 : decode cX3_join 107 = .ok (.getfield 12, 3) := by decide +kernel
theorem dX3_join_110 : decode cX3_join 110 = .ok (.aload_n 0, 1) := by decide +kernel
theorem dX3_join_111 : decode cX3_join 111 = .ok (.getfield 12, 3) := by decide +kernel
theorem dX3_join_114 : decode cX3_join 114 = .ok (.getfield 46, 3) := by decide +kernel
theorem dX3_join_117 : decode cX3_join 117 = .ok (.aload_n 0, 1) := by decide +kernel
theorem dX3_join_118 : decode cX3_join 118 = .ok (.getfield 16, 3) := by decide +kernel
theorem dX3_join_121 : decode cX3_join 121 = .ok (.getfield 46, 3) := by decide +kernel
theorem dX3_join_124 : decode cX3_join 124 = .ok (.invokestatic 81, 3) := by decide +kernel
theorem dX3_join_127 : decode cX3_join 127 = .ok (.putfield 46, 3) := by decide +kernel
theorem dX3_join_130 : decode cX3_join 130 = .ok (.aload_n 0, 1) := by decide +kernel
theorem dX3_join_131 : decode cX3_join 131 = .ok (.getfield 12, 3) := by decide +kernel
theorem dX3_join_134 : decode cX3_join 134 = .ok (.getfield 51, 3) := by decide +kernel
theorem dX3_join_137 : decode cX3_join 137 = .ok (.ireturn, 1) := by decide +kernel
theorem dX3_exchange_0 : decode cX3_exchange 0 = .ok (.aload_n 0, 1) := by decide +kernel
theorem dX3_exchange_1 : decode cX3_exchange 1 = .ok (.invokevirtual 55, 3) := by decide +kernel
theorem dX3_exchange_4 : decode cX3_exchange 4 = .ok (.aload_n 0, 1) := by decide +kernel
theorem dX3_exchange_5 : decode cX3_exchange 5 = .ok (.getfield 12, 3) := by decide +kernel
theorem dX3_exchange_8 : decode cX3_exchange 8 = .ok (.astore_n 1, 1) := by decide +kernel
theorem dX3_exchange_9 : decode cX3_exchange 9 = .ok (.aload_n 0, 1) := by decide +kernel
theorem dX3_exchange_10 : decode cX3_exchange 10 = .ok (.aload_n 0, 1) := by decide +kernel
theorem dX3_exchange_11 : decode cX3_exchange 11 = .ok (.getfield 16, 3) := by decide +kernel
theorem dX3_exchange_14 : decode cX3_exchange 14 = .ok (.putfield 12, 3) := by decide +kernel
theorem dX3_exchange_17 : decode cX3_exchange 17 = .ok (.aload_n 0, 1) := by decide +kernel
theorem dX3_exchange_18 : decode cX3_exchange 18 = .ok (.aload_n 1, 1) := by decide +kernel
theorem dX3_exchange_19 : decode cX3_exchange 19 = .ok (.putfield 16, 3) := by decide +kernel
theorem dX3_exchange_22 : decode cX3_exchange 22 = .ok (.aload_n 0, 1) := by decide +kernel
theorem dX3_exchange_23 : decode cX3_exchange 23 = .ok (.getfield 12, 3) := by decide +kernel
theorem dX3_exchange_26 : decode cX3_exchange 26 = .ok (.getfield 51, 3) := by decide +kernel
theorem dX3_exchange_29 : decode cX3_exchange 29 = .ok (.ireturn, 1) := by decide +kernel
theorem dX3_clear_0 : decode cX3_clear 0 = .ok (.iload_n 1, 1) := by decide +kernel
theorem dX3_clear_1 : decode cX3_clear 1 = .ok (.invokestatic 33, 3) := by decide +kernel
theorem dX3_clear_4 : decode cX3_clear 4 = .ok (.ifCond .ne 6, 3) := by decide +kernel
theorem dX3_clear_7 : decode cX3_clear 7 = .ok (.ldc 41, 2) := by decide +kernel
theorem dX3_clear_9 : decode cX3_clear 9 = .ok (.ireturn, 1) := by decide +kernel
theorem dX3_clear_10 : decode cX3_clear 10 = .ok (.aload_n 0, 1) := by decide +kernel
theorem dX3_clear_11 : decode cX3_clear 11 = .ok (.iload_n 1, 1) := by decide +kernel
theorem dX3_clear_12 : decode cX3_clear 12 = .ok (.invokevirtual 42, 3) := by decide +kernel
theorem dX3_clear_15 : decode cX3_clear 15 = .ok (.astore_n 2, 1) := by decide +kernel
theorem dX3_clear_16 : decode cX3_clear 16 = .ok (.aload_n 0, 1) := by decide +kernel
theorem dX3_clear_17 : decode cX3_clear 17 = .ok (.invokevirtual 55, 3) := by decide +kernel
theorem dX3_clear_20 : decode cX3_clear 20 = .ok (.aload_n 2, 1) := by decide +kernel
theorem dX3_clear_21 : decode cX3_clear 21 = .ok (.getfield 51, 3) := by decide +kernel
theorem dX3_clear_24 : decode cX3_clear 24 = .ok (.istore_n 3, 1) := by decide +kernel
theorem dX3_clear_25 : decode cX3_clear 25 = .ok (.aload_n 2, 1) := by decide +kernel
theorem dX3_clear_26 : decode cX3_clear 26 = .ok (.iconst 0, 1) := by decide +kernel
theorem dX3_clear_27 : decode cX3_clear 27 = .ok (.putfield 51, 3) := by decide +kernel
theorem dX3_clear_30 : decode cX3_clear 30 = .ok (.iload_n 3, 1) := by decide +kernel
theorem dX3_clear_31 : decode cX3_clear 31 = .ok (.ireturn, 1) := by decide +kernel
theorem dX3_rowOf_0 : decode cX3_rowOf 0 = .ok (.iload_n 1, 1) := by decide +kernel
theorem dX3_rowOf_1 : decode cX3_rowOf 1 = .ok (.invokestatic 33, 3) := by decide +kernel
theorem dX3_rowOf_4 : decode cX3_rowOf 4 = .ok (.ifCond .ne 6, 3) := by decide +kernel
theorem dX3_rowOf_7 : decode cX3_rowOf 7 = .ok (.ldc 41, 2) := by decide +kernel
theorem dX3_rowOf_9 : decode cX3_rowOf 9 = .ok (.ireturn, 1) := by decide +kernel
theorem dX3_rowOf_10 : decode cX3_rowOf 10 = .ok (.aload_n 0, 1) := by decide +kernel
theorem dX3_rowOf_11 : decode cX3_rowOf 11 = .ok (.iload_n 1, 1) := by decide +kernel
theorem dX3_rowOf_12 : decode cX3_rowOf 12 = .ok (.invokevirtual 42, 3) := by decide +kernel
theorem dX3_rowOf_15 : decode cX3_rowOf 15 = .ok (.astore_n 3, 1) := by decide +kernel
theorem dX3_rowOf_16 : decode cX3_rowOf 16 = .ok (.iload_n 2, 1) := by decide +kernel
theorem dX3_rowOf_17 : decode cX3_rowOf 17 = .ok (.tableswitch 102 0 8 #[51, 56, 61, 66, 71, 76, 84, 92, 97], 51) := by decide +kernel
theorem dX3_rowOf_68 : decode cX3_rowOf 68 = .ok (.aload_n 3, 1) := by decide +kernel
theorem dX3_rowOf_69 : decode cX3_rowOf 69 = .ok (.getfield 51, 3) := by decide +kernel
theorem dX3_rowOf_72 : decode cX3_rowOf 72 = .ok (.ireturn, 1) := by decide +kernel
theorem dX3_rowOf_73 : decode cX3_rowOf 73 = .ok (.aload_n 3, 1) := by decide +kernel
theorem dX3_rowOf_74 : decode cX3_rowOf 74 = .ok (.getfield 46, 3) := by decide +kernel
theorem dX3_rowOf_77 : decode cX3_rowOf 77 = .ok (.ireturn, 1) := by decide +kernel
theorem dX3_rowOf_78 : decode cX3_rowOf 78 = .ok (.aload_n 3, 1) := by decide +kernel
theorem dX3_rowOf_79 : decode cX3_rowOf 79 = .ok (.invokevirtual 87, 3) := by decide +kernel
theorem dX3_rowOf_82 : decode cX3_rowOf 82 = .ok (.ireturn, 1) := by decide +kernel
theorem dX3_rowOf_83 : decode cX3_rowOf 83 = .ok (.aload_n 3, 1) := by decide +kernel
theorem dX3_rowOf_84 : decode cX3_rowOf 84 = .ok (.invokevirtual 91, 3) := by decide +kernel
theorem dX3_rowOf_87 : decode cX3_rowOf 87 = .ok (.ireturn, 1) := by decide +kernel
theorem dX3_rowOf_88 : decode cX3_rowOf 88 = .ok (.aload_n 3, 1) := by decide +kernel
theorem dX3_rowOf_89 : decode cX3_rowOf 89 = .ok (.invokevirtual 94, 3) := by decide +kernel
theorem dX3_rowOf_92 : decode cX3_rowOf 92 = .ok (.ireturn, 1) := by decide +kernel
theorem dX3_rowOf_93 : decode cX3_rowOf 93 = .ok (.aload_n 3, 1) := by decide +kernel
theorem dX3_rowOf_94 : decode cX3_rowOf 94 = .ok (.getfield 51, 3) := by decide +kernel
theorem dX3_rowOf_97 : decode cX3_rowOf 97 = .ok (.invokestatic 97, 3) := by decide +kernel
theorem dX3_rowOf_100 : decode cX3_rowOf 100 = .ok (.ireturn, 1) := by decide +kernel
theorem dX3_rowOf_101 : decode cX3_rowOf 101 = .ok (.aload_n 3, 1) := by decide +kernel
theorem dX3_rowOf_102 : decode cX3_rowOf 102 = .ok (.invokevirtual 100, 3) := by decide +kernel
theorem dX3_rowOf_105 : decode cX3_rowOf 105 = .ok (.invokestatic 97, 3) := by decide +kernel
theorem dX3_rowOf_108 : decode cX3_rowOf 108 = .ok (.ireturn, 1) := by decide +kernel
theorem dX3_rowOf_109 : decode cX3_rowOf 109 = .ok (.aload_n 3, 1) := by decide +kernel
theorem dX3_rowOf_110 : decode cX3_rowOf 110 = .ok (.invokevirtual 103, 3) := by decide +kernel
theorem dX3_rowOf_113 : decode cX3_rowOf 113 = .ok (.ireturn, 1) := by decide +kernel
theorem dX3_rowOf_114 : decode cX3_rowOf 114 = .ok (.aload_n 3, 1) := by decide +kernel
theorem dX3_rowOf_115 : decode cX3_rowOf 115 = .ok (.invokevirtual 106, 3) := by decide +kernel
theorem dX3_rowOf_118 : decode cX3_rowOf 118 = .ok (.ireturn, 1) := by decide +kernel
theorem dX3_rowOf_119 : decode cX3_rowOf 119 = .ok (.ldc 41, 2) := by decide +kernel
theorem dX3_rowOf_121 : decode cX3_rowOf 121 = .ok (.ireturn, 1) := by decide +kernel
theorem dX3_upperBit_0 : decode cX3_upperBit 0 = .ok (.iload_n 1, 1) := by decide +kernel
theorem dX3_upperBit_1 : decode cX3_upperBit 1 = .ok (.invokestatic 33, 3) := by decide +kernel
theorem dX3_upperBit_4 : decode cX3_upperBit 4 = .ok (.ifCond .eq 7, 3) := by decide +kernel
theorem dX3_upperBit_7 : decode cX3_upperBit 7 = .ok (.iload_n 2, 1) := by decide +kernel
theorem dX3_upperBit_8 : decode cX3_upperBit 8 = .ok (.ifCond .ge 6, 3) := by decide +kernel
theorem dX3_upperBit_11 : decode cX3_upperBit 11 = .ok (.ldc 41, 2) := by decide +kernel
theorem dX3_upperBit_13 : decode cX3_upperBit 13 = .ok (.ireturn, 1) := by decide +kernel
theorem dX3_upperBit_14 : decode cX3_upperBit 14 = .ok (.aload_n 0, 1) := by decide +kernel
theorem dX3_upperBit_15 : decode cX3_upperBit 15 = .ok (.iload_n 1, 1) := by decide +kernel
theorem dX3_upperBit_16 : decode cX3_upperBit 16 = .ok (.invokevirtual 42, 3) := by decide +kernel
theorem dX3_upperBit_19 : decode cX3_upperBit 19 = .ok (.astore_n 3, 1) := by decide +kernel
theorem dX3_upperBit_20 : decode cX3_upperBit 20 = .ok (.iload_n 2, 1) := by decide +kernel
theorem dX3_upperBit_21 : decode cX3_upperBit 21 = .ok (.aload_n 3, 1) := by decide +kernel
theorem dX3_upperBit_22 : decode cX3_upperBit 22 = .ok (.invokevirtual 91, 3) := by decide +kernel
theorem dX3_upperBit_25 : decode cX3_upperBit 25 = .ok (.if_icmp .lt 6, 3) := by decide +kernel
theorem dX3_upperBit_28 : decode cX3_upperBit 28 = .ok (.ldc 109, 2) := by decide +kernel
theorem dX3_upperBit_30 : decode cX3_upperBit 30 = .ok (.ireturn, 1) := by decide +kernel
theorem dX3_upperBit_31 : decode cX3_upperBit 31 = .ok (.aload_n 3, 1) := by decide +kernel
theorem dX3_upperBit_32 : decode cX3_upperBit 32 = .ok (.iload_n 2, 1) := by decide +kernel
theorem dX3_upperBit_33 : decode cX3_upperBit 33 = .ok (.invokevirtual 110, 3) := by decide +kernel
theorem dX3_upperBit_36 : decode cX3_upperBit 36 = .ok (.ifCond .eq 7, 3) := by decide +kernel
theorem dX3_upperBit_39 : decode cX3_upperBit 39 = .ok (.iconst 1, 1) := by decide +kernel
theorem dX3_upperBit_40 : decode cX3_upperBit 40 = .ok (.goto 4, 3) := by decide +kernel
theorem dX3_upperBit_43 : decode cX3_upperBit 43 = .ok (.iconst 0, 1) := by decide +kernel
theorem dX3_upperBit_44 : decode cX3_upperBit 44 = .ok (.ireturn, 1) := by decide +kernel
theorem dX3_partOf_0 : decode cX3_partOf 0 = .ok (.iload_n 1, 1) := by decide +kernel
theorem dX3_partOf_1 : decode cX3_partOf 1 = .ok (.invokestatic 33, 3) := by decide +kernel
theorem dX3_partOf_4 : decode cX3_partOf 4 = .ok (.ifCond .eq 16, 3) := by decide +kernel
theorem dX3_partOf_7 : decode cX3_partOf 7 = .ok (.iload_n 2, 1) := by decide +kernel
theorem dX3_partOf_8 : decode cX3_partOf 8 = .ok (.ifCond .lt 12, 3) := by decide +kernel
theorem dX3_partOf_11 : decode cX3_partOf 11 = .ok (.iload_n 3, 1) := by decide +kernel
theorem dX3_partOf_12 : decode cX3_partOf 12 = .ok (.iconst 0, 1) := by decide +kernel
theorem dX3_partOf_13 : decode cX3_partOf 13 = .ok (.iconst 4, 1) := by decide +kernel
theorem dX3_partOf_14 : decode cX3_partOf 14 = .ok (.invokestatic 37, 3) := by decide +kernel
theorem dX3_partOf_17 : decode cX3_partOf 17 = .ok (.ifCond .ne 6, 3) := by decide +kernel
theorem dX3_partOf_20 : decode cX3_partOf 20 = .ok (.ldc 41, 2) := by decide +kernel
theorem dX3_partOf_22 : decode cX3_partOf 22 = .ok (.ireturn, 1) := by decide +kernel
theorem dX3_partOf_23 : decode cX3_partOf 23 = .ok (.aload_n 0, 1) := by decide +kernel
theorem dX3_partOf_24 : decode cX3_partOf 24 = .ok (.iload_n 1, 1) := by decide +kernel
theorem dX3_partOf_25 : decode cX3_partOf 25 = .ok (.invokevirtual 42, 3) := by decide +kernel
theorem dX3_partOf_28 : decode cX3_partOf 28 = .ok (.astore 4, 2) := by decide +kernel
theorem dX3_partOf_30 : decode cX3_partOf 30 = .ok (.iload_n 2, 1) := by decide +kernel
theorem dX3_partOf_31 : decode cX3_partOf 31 = .ok (.aload 4, 2) := by decide +kernel
theorem dX3_partOf_33 : decode cX3_partOf 33 = .ok (.getfield 51, 3) := by decide +kernel
theorem dX3_partOf_36 : decode cX3_partOf 36 = .ok (.if_icmp .lt 6, 3) := by decide +kernel
theorem dX3_partOf_39 : decode cX3_partOf 39 = .ok (.ldc 109, 2) := by decide +kernel
theorem dX3_partOf_41 : decode cX3_partOf 41 = .ok (.ireturn, 1) := by decide +kernel
theorem dX3_partOf_42 : decode cX3_partOf 42 = .ok (.aload 4, 2) := by decide +kernel
theorem dX3_partOf_44 : decode cX3_partOf 44 = .ok (.iload_n 2, 1) := by decide +kernel
theorem dX3_partOf_45 : decode cX3_partOf 45 = .ok (.invokevirtual 75, 3) := by decide +kernel
theorem dX3_partOf_48 : decode cX3_partOf 48 = .ok (.istore 5, 2) := by decide +kernel
theorem dX3_partOf_50 : decode cX3_partOf 50 = .ok (.iload_n 3, 1) := by decide +kernel
theorem dX3_partOf_51 : decode cX3_partOf 51 = .ok (.tableswitch 55 0 3 #[29, 32, 40, 48], 29) := by decide +kernel
theorem dX3_partOf_80 : decode cX3_partOf 80 = .ok (.iload 5, 2) := by decide +kernel
theorem dX3_partOf_82 : decode cX3_partOf 82 = .ok (.ireturn, 1) := by decide +kernel
theorem dX3_partOf_83 : decode cX3_partOf 83 = .ok (.aload 4, 2) := by decide +kernel
theorem dX3_partOf_85 : decode cX3_partOf 85 = .ok (.iload 5, 2) := by decide +kernel
theorem dX3_partOf_87 : decode cX3_partOf 87 = .ok (.invokevirtual 113, 3) := by decide +kernel
theorem dX3_partOf_90 : decode cX3_partOf 90 = .ok (.ireturn, 1) := by decide +kernel
theorem dX3_partOf_91 : decode cX3_partOf 91 = .ok (.aload 4, 2) := by decide +kernel
theorem dX3_partOf_93 : decode cX3_partOf 93 = .ok (.iload 5, 2) := by decide +kernel
theorem dX3_partOf_95 : decode cX3_partOf 95 = .ok (.invokevirtual 116, 3) := by decide +kernel
theorem dX3_partOf_98 : decode cX3_partOf 98 = .ok (.ireturn, 1) := by decide +kernel
theorem dX3_partOf_99 : decode cX3_partOf 99 = .ok (.aload 4, 2) := by decide +kernel
theorem dX3_partOf_101 : decode cX3_partOf 101 = .ok (.iload_n 2, 1) := by decide +kernel
theorem dX3_partOf_102 : decode cX3_partOf 102 = .ok (.invokevirtual 119, 3) := by decide +kernel
theorem dX3_partOf_105 : decode cX3_partOf 105 = .ok (.ireturn, 1) := by decide +kernel
theorem dX3_partOf_106 : decode cX3_partOf 106 = .ok (.aload 4, 2) := by decide +kernel
theorem dX3_partOf_108 : decode cX3_partOf 108 = .ok (.iload_n 2, 1) := by decide +kernel
theorem dX3_partOf_109 : decode cX3_partOf 109 = .ok (.invokevirtual 119, 3) := by decide +kernel
theorem dX3_partOf_112 : decode cX3_partOf 112 = .ok (.aload 4, 2) := by decide +kernel
theorem dX3_partOf_114 : decode cX3_partOf 114 = .ok (.iload_n 2, 1) := by decide +kernel
theorem dX3_partOf_115 : decode cX3_partOf 115 = .ok (.invokestatic 122, 3) := by decide +kernel
theorem dX3_partOf_118 : decode cX3_partOf 118 = .ok (.invokevirtual 119, 3) := by decide +kernel
theorem dX3_partOf_121 : decode cX3_partOf 121 = .ok (.isub, 1) := by decide +kernel
theorem dX3_partOf_122 : decode cX3_partOf 122 = .ok (.ireturn, 1) := by decide +kernel
theorem dX3_sample_0 : decode cX3_sample 0 = .ok (.iload_n 1, 1) := by decide +kernel
theorem dX3_sample_1 : decode cX3_sample 1 = .ok (.invokestatic 33, 3) := by decide +kernel
theorem dX3_sample_4 : decode cX3_sample 4 = .ok (.ifCond .eq 16, 3) := by decide +kernel
theorem dX3_sample_7 : decode cX3_sample 7 = .ok (.iload_n 2, 1) := by decide +kernel
theorem dX3_sample_8 : decode cX3_sample 8 = .ok (.iconst 0, 1) := by decide +kernel
theorem dX3_sample_9 : decode cX3_sample 9 = .ok (.iconst 1, 1) := by decide +kernel
theorem dX3_sample_10 : decode cX3_sample 10 = .ok (.invokestatic 37, 3) := by decide +kernel
theorem dX3_sample_13 : decode cX3_sample 13 = .ok (.ifCond .eq 7, 3) := by decide +kernel
theorem dX3_sample_16 : decode cX3_sample 16 = .ok (.iload_n 3, 1) := by decide +kernel
theorem dX3_sample_17 : decode cX3_sample 17 = .ok (.ifCond .ge 6, 3) := by decide +kernel
theorem dX3_sample_20 : decode cX3_sample 20 = .ok (.ldc 41, 2) := by decide +kernel
theorem dX3_sample_22 : decode cX3_sample 22 = .ok (.ireturn, 1) := by decide +kernel
theorem dX3_sample_23 : decode cX3_sample 23 = .ok (.aload_n 0, 1) := by decide +kernel
theorem dX3_sample_24 : decode cX3_sample 24 = .ok (.iload_n 1, 1) := by decide +kernel
theorem dX3_sample_25 : decode cX3_sample 25 = .ok (.invokevirtual 42, 3) := by decide +kernel
theorem dX3_sample_28 : decode cX3_sample 28 = .ok (.astore 4, 2) := by decide +kernel
theorem dX3_sample_30 : decode cX3_sample 30 = .ok (.iload_n 3, 1) := by decide +kernel
theorem dX3_sample_31 : decode cX3_sample 31 = .ok (.iload_n 2, 1) := by decide +kernel
theorem dX3_sample_32 : decode cX3_sample 32 = .ok (.iconst 1, 1) := by decide +kernel
theorem dX3_sample_33 : decode cX3_sample 33 = .ok (.if_icmp .ne 11, 3) := by decide +kernel
theorem dX3_sample_36 : decode cX3_sample 36 = .ok (.aload 4, 2) := by decide +kernel
theorem dX3_sample_38 : decode cX3_sample 38 = .ok (.invokevirtual 100, 3) := by decide +kernel
theorem dX3_sample_41 : decode cX3_sample 41 = .ok (.goto 8, 3) := by decide +kernel
theorem dX3_sample_44 : decode cX3_sample 44 = .ok (.aload 4, 2) := by decide +kernel
theorem dX3_sample_46 : decode cX3_sample 46 = .ok (.getfield 51, 3) := by decide +kernel
theorem dX3_sample_49 : decode cX3_sample 49 = .ok (.invokestatic 97, 3) := by decide +kernel
theorem dX3_sample_52 : decode cX3_sample 52 = .ok (.if_icmp .lt 6, 3) := by decide +kernel
theorem dX3_sample_55 : decode cX3_sample 55 = .ok (.ldc 109, 2) := by decide +kernel
theorem dX3_sample_57 : decode cX3_sample 57 = .ok (.ireturn, 1) := by decide +kernel
theorem dX3_sample_58 : decode cX3_sample 58 = .ok (.iconst 4, 1) := by decide +kernel
theorem dX3_sample_59 : decode cX3_sample 59 = .ok (.iload_n 3, 1) := by decide +kernel
theorem dX3_sample_60 : decode cX3_sample 60 = .ok (.imul, 1) := by decide +kernel
theorem dX3_sample_61 : decode cX3_sample 61 = .ok (.istore 5, 2) := by decide +kernel
theorem dX3_sample_63 : decode cX3_sample 63 = .ok (.iload_n 2, 1) := by decide +kernel
theorem dX3_sample_64 : decode cX3_sample 64 = .ok (.iconst 1, 1) := by decide +kernel
theorem dX3_sample_65 : decode cX3_sample 65 = .ok (.if_icmp .ne 13, 3) := by decide +kernel
theorem dX3_sample_68 : decode cX3_sample 68 = .ok (.aload 4, 2) := by decide +kernel
theorem dX3_sample_70 : decode cX3_sample 70 = .ok (.iload 5, 2) := by decide +kernel
theorem dX3_sample_72 : decode cX3_sample 72 = .ok (.invokevirtual 125, 3) := by decide +kernel
theorem dX3_sample_75 : decode cX3_sample 75 = .ok (.goto 10, 3) := by decide +kernel
theorem dX3_sample_78 : decode cX3_sample 78 = .ok (.aload 4, 2) := by decide +kernel
theorem dX3_sample_80 : decode cX3_sample 80 = .ok (.iload 5, 2) := by decide +kernel
theorem dX3_sample_82 : decode cX3_sample 82 = .ok (.invokevirtual 119, 3) := by decide +kernel
theorem dX3_sample_85 : decode cX3_sample 85 = .ok (.ireturn, 1) := by decide +kernel
theorem dX3_lowerBits_0 : decode cX3_lowerBits 0 = .ok (.iload_n 1, 1) := by decide +kernel
theorem dX3_lowerBits_1 : decode cX3_lowerBits 1 = .ok (.invokestatic 33, 3) := by decide +kernel
theorem dX3_lowerBits_4 : decode cX3_lowerBits 4 = .ok (.ifCond .eq 7, 3) := by decide +kernel
theorem dX3_lowerBits_7 : decode cX3_lowerBits 7 = .ok (.iload_n 2, 1) := by decide +kernel
theorem dX3_lowerBits_8 : decode cX3_lowerBits 8 = .ok (.ifCond .ge 7, 3) := by decide +kernel
theorem dX3_lowerBits_11 : decode cX3_lowerBits 11 = .ok (.ldc2_w 128, 3) := by decide +kernel
theorem dX3_lowerBits_14 : decode cX3_lowerBits 14 = .ok (.lreturn, 1) := by decide +kernel
theorem dX3_lowerBits_15 : decode cX3_lowerBits 15 = .ok (.aload_n 0, 1) := by decide +kernel
theorem dX3_lowerBits_16 : decode cX3_lowerBits 16 = .ok (.iload_n 1, 1) := by decide +kernel
theorem dX3_lowerBits_17 : decode cX3_lowerBits 17 = .ok (.invokevirtual 42, 3) := by decide +kernel
theorem dX3_lowerBits_20 : decode cX3_lowerBits 20 = .ok (.astore_n 3, 1) := by decide +kernel
theorem dX3_lowerBits_21 : decode cX3_lowerBits 21 = .ok (.ldc2_w 130, 3) := by decide +kernel
theorem dX3_lowerBits_24 : decode cX3_lowerBits 24 = .ok (.iload_n 2, 1) := by decide +kernel
theorem dX3_lowerBits_25 : decode cX3_lowerBits 25 = .ok (.i2l, 1) := by decide +kernel
theorem dX3_lowerBits_26 : decode cX3_lowerBits 26 = .ok (.lmul, 1) := by decide +kernel
theorem dX3_lowerBits_27 : decode cX3_lowerBits 27 = .ok (.aload_n 3, 1) := by decide +kernel
theorem dX3_lowerBits_28 : decode cX3_lowerBits 28 = .ok (.getfield 51, 3) := by decide +kernel
theorem dX3_lowerBits_31 : decode cX3_lowerBits 31 = .ok (.aload_n 3, 1) := by decide +kernel
theorem dX3_lowerBits_32 : decode cX3_lowerBits 32 = .ok (.invokevirtual 87, 3) := by decide +kernel
theorem dX3_lowerBits_35 : decode cX3_lowerBits 35 = .ok (.imul, 1) := by decide +kernel
theorem dX3_lowerBits_36 : decode cX3_lowerBits 36 = .ok (.i2l, 1) := by decide +kernel
theorem dX3_lowerBits_37 : decode cX3_lowerBits 37 = .ok (.lcmp, 1) := by decide +kernel
theorem dX3_lowerBits_38 : decode cX3_lowerBits 38 = .ok (.ifCond .lt 7, 3) := by decide +kernel
theorem dX3_lowerBits_41 : decode cX3_lowerBits 41 = .ok (.ldc2_w 132, 3) := by decide +kernel
theorem dX3_lowerBits_44 : decode cX3_lowerBits 44 = .ok (.lreturn, 1) := by decide +kernel
theorem dX3_lowerBits_45 : decode cX3_lowerBits 45 = .ok (.aload_n 3, 1) := by decide +kernel
theorem dX3_lowerBits_46 : decode cX3_lowerBits 46 = .ok (.bipush 32, 2) := by decide +kernel
theorem dX3_lowerBits_48 : decode cX3_lowerBits 48 = .ok (.iload_n 2, 1) := by decide +kernel
theorem dX3_lowerBits_49 : decode cX3_lowerBits 49 = .ok (.imul, 1) := by decide +kernel
theorem dX3_lowerBits_50 : decode cX3_lowerBits 50 = .ok (.invokevirtual 134, 3) := by decide +kernel
theorem dX3_lowerBits_53 : decode cX3_lowerBits 53 = .ok (.lreturn, 1) := by decide +kernel
theorem dX3_next_0 : decode cX3_next 0 = .ok (.iload_n 1, 1) := by decide +kernel
theorem dX3_next_1 : decode cX3_next 1 = .ok (.invokestatic 33, 3) := by decide +kernel
theorem dX3_next_4 : decode cX3_next 4 = .ok (.ifCond .eq 23, 3) := by decide +kernel
theorem dX3_next_7 : decode cX3_next 7 = .ok (.iload_n 2, 1) := by decide +kernel
theorem dX3_next_8 : decode cX3_next 8 = .ok (.iconst 0, 1) := by decide +kernel
theorem dX3_next_9 : decode cX3_next 9 = .ok (.sipush 4095, 3) := by decide +kernel
theorem dX3_next_12 : decode cX3_next 12 = .ok (.invokestatic 37, 3) := by decide +kernel
theorem dX3_next_15 : decode cX3_next 15 = .ok (.ifCond .eq 12, 3) := by decide +kernel
theorem dX3_next_18 : decode cX3_next 18 = .ok (.iload_n 3, 1) := by decide +kernel
theorem dX3_next_19 : decode cX3_next 19 = .ok (.iconst 0, 1) := by decide +kernel
theorem dX3_next_20 : decode cX3_next 20 = .ok (.iconst 2, 1) := by decide +kernel
theorem dX3_next_21 : decode cX3_next 21 = .ok (.invokestatic 37, 3) := by decide +kernel
theorem dX3_next_24 : decode cX3_next 24 = .ok (.ifCond .ne 6, 3) := by decide +kernel
theorem dX3_next_27 : decode cX3_next 27 = .ok (.ldc 41, 2) := by decide +kernel
theorem dX3_next_29 : decode cX3_next 29 = .ok (.ireturn, 1) := by decide +kernel
theorem dX3_next_30 : decode cX3_next 30 = .ok (.aload_n 0, 1) := by decide +kernel
theorem dX3_next_31 : decode cX3_next 31 = .ok (.iload_n 1, 1) := by decide +kernel
theorem dX3_next_32 : decode cX3_next 32 = .ok (.invokevirtual 42, 3) := by decide +kernel
theorem dX3_next_35 : decode cX3_next 35 = .ok (.astore 4, 2) := by decide +kernel
theorem dX3_next_37 : decode cX3_next 37 = .ok (.iload_n 2, 1) := by decide +kernel
theorem dX3_next_38 : decode cX3_next 38 = .ok (.aload 4, 2) := by decide +kernel
theorem dX3_next_40 : decode cX3_next 40 = .ok (.getfield 46, 3) := by decide +kernel
theorem dX3_next_43 : decode cX3_next 43 = .ok (.if_icmp .lt 6, 3) := by decide +kernel
theorem dX3_next_46 : decode cX3_next 46 = .ok (.ldc 109, 2) := by decide +kernel
theorem dX3_next_48 : decode cX3_next 48 = .ok (.ireturn, 1) := by decide +kernel
theorem dX3_next_49 : decode cX3_next 49 = .ok (.iload_n 3, 1) := by decide +kernel
theorem dX3_next_50 : decode cX3_next 50 = .ok (.iconst 2, 1) := by decide +kernel
theorem dX3_next_51 : decode cX3_next 51 = .ok (.if_icmp .ne 10, 3) := by decide +kernel
theorem dX3_next_54 : decode cX3_next 54 = .ok (.aload 4, 2) := by decide +kernel
theorem dX3_next_56 : decode cX3_next 56 = .ok (.iload_n 2, 1) := by decide +kernel
theorem dX3_next_57 : decode cX3_next 57 = .ok (.invokevirtual 138, 3) := by decide +kernel
theorem dX3_next_60 : decode cX3_next 60 = .ok (.ireturn, 1) := by decide +kernel
theorem dX3_next_61 : decode cX3_next 61 = .ok (.aload 4, 2) := by decide +kernel
theorem dX3_next_63 : decode cX3_next 63 = .ok (.iload_n 2, 1) := by decide +kernel
theorem dX3_next_64 : decode cX3_next 64 = .ok (.invokevirtual 65, 3) := by decide +kernel
theorem dX3_next_67 : decode cX3_next 67 = .ok (.istore 5, 2) := by decide +kernel
theorem dX3_next_69 : decode cX3_next 69 = .ok (.iload 5, 2) := by decide +kernel
theorem dX3_next_71 : decode cX3_next 71 = .ok (.aload 4, 2) := by decide +kernel
theorem dX3_next_73 : decode cX3_next 73 = .ok (.getfield 51, 3) := by decide +kernel
theorem dX3_next_76 : decode cX3_next 76 = .ok (.if_icmp .lt 6, 3) := by decide +kernel
theorem dX3_next_79 : decode cX3_next 79 = .ok (.ldc 109, 2) := by decide +kernel
theorem dX3_next_81 : decode cX3_next 81 = .ok (.ireturn, 1) := by decide +kernel
theorem dX3_next_82 : decode cX3_next 82 = .ok (.iload_n 3, 1) := by decide +kernel
theorem dX3_next_83 : decode cX3_next 83 = .ok (.ifCond .ne 13, 3) := by decide +kernel
theorem dX3_next_86 : decode cX3_next 86 = .ok (.aload 4, 2) := by decide +kernel
theorem dX3_next_88 : decode cX3_next 88 = .ok (.iload 5, 2) := by decide +kernel
theorem dX3_next_90 : decode cX3_next 90 = .ok (.invokevirtual 75, 3) := by decide +kernel
theorem dX3_next_93 : decode cX3_next 93 = .ok (.goto 5, 3) := by decide +kernel
theorem dX3_next_96 : decode cX3_next 96 = .ok (.iload 5, 2) := by decide +kernel
theorem dX3_next_98 : decode cX3_next 98 = .ok (.ireturn, 1) := by decide +kernel
theorem dX3_below_0 : decode cX3_below 0 = .ok (.iload_n 1, 1) := by decide +kernel
theorem dX3_below_1 : decode cX3_below 1 = .ok (.invokestatic 33, 3) := by decide +kernel
theorem dX3_below_4 : decode cX3_below 4 = .ok (.ifCond .eq 14, 3) := by decide +kernel
theorem dX3_below_7 : decode cX3_below 7 = .ok (.iload_n 2, 1) := by decide +kernel
theorem dX3_below_8 : decode cX3_below 8 = .ok (.iconst 0, 1) := by decide +kernel
theorem dX3_below_9 : decode cX3_below 9 = .ok (.sipush 4096, 3) := by decide +kernel
theorem dX3_below_12 : decode cX3_below 12 = .ok (.invokestatic 37, 3) := by decide +kernel
theorem dX3_below_15 : decode cX3_below 15 = .ok (.ifCond .ne 6, 3) := by decide +kernel
theorem dX3_below_18 : decode cX3_below 18 = .ok (.ldc 41, 2) := by decide +kernel
theorem dX3_below_20 : decode cX3_below 20 = .ok (.ireturn, 1) := by decide +kernel
theorem dX3_below_21 : decode cX3_below 21 = .ok (.aload_n 0, 1) := by decide +kernel
theorem dX3_below_22 : decode cX3_below 22 = .ok (.iload_n 1, 1) := by decide +kernel
theorem dX3_below_23 : decode cX3_below 23 = .ok (.invokevirtual 42, 3) := by decide +kernel
theorem dX3_below_26 : decode cX3_below 26 = .ok (.iload_n 2, 1) := by decide +kernel
theorem dX3_below_27 : decode cX3_below 27 = .ok (.invokevirtual 65, 3) := by decide +kernel
theorem dX3_below_30 : decode cX3_below 30 = .ok (.ireturn, 1) := by decide +kernel
theorem dX3_common_0 : decode cX3_common 0 = .ok (.iload_n 1, 1) := by decide +kernel
theorem dX3_common_1 : decode cX3_common 1 = .ok (.tableswitch 68 0 4 #[35, 40, 45, 58, 63], 35) := by decide +kernel
theorem dX3_common_36 : decode cX3_common 36 = .ok (.aload_n 0, 1) := by decide +kernel
theorem dX3_common_37 : decode cX3_common 37 = .ok (.invokevirtual 141, 3) := by decide +kernel
theorem dX3_common_40 : decode cX3_common 40 = .ok (.ireturn, 1) := by decide +kernel
theorem dX3_common_41 : decode cX3_common 41 = .ok (.aload_n 0, 1) := by decide +kernel
theorem dX3_common_42 : decode cX3_common 42 = .ok (.invokevirtual 144, 3) := by decide +kernel
theorem dX3_common_45 : decode cX3_common 45 = .ok (.ireturn, 1) := by decide +kernel
theorem dX3_common_46 : decode cX3_common 46 = .ok (.aload_n 0, 1) := by decide +kernel
theorem dX3_common_47 : decode cX3_common 47 = .ok (.getfield 12, 3) := by decide +kernel
theorem dX3_common_50 : decode cX3_common 50 = .ok (.invokevirtual 103, 3) := by decide +kernel
theorem dX3_common_53 : decode cX3_common 53 = .ok (.aload_n 0, 1) := by decide +kernel
theorem dX3_common_54 : decode cX3_common 54 = .ok (.invokevirtual 141, 3) := by decide +kernel
theorem dX3_common_57 : decode cX3_common 57 = .ok (.isub, 1) := by decide +kernel
theorem dX3_common_58 : decode cX3_common 58 = .ok (.ireturn, 1) := by decide +kernel
theorem dX3_common_59 : decode cX3_common 59 = .ok (.aload_n 0, 1) := by decide +kernel
theorem dX3_common_60 : decode cX3_common 60 = .ok (.invokevirtual 147, 3) := by decide +kernel
theorem dX3_common_63 : decode cX3_common 63 = .ok (.ireturn, 1) := by decide +kernel
theorem dX3_common_64 : decode cX3_common 64 = .ok (.aload_n 0, 1) := by decide +kernel
theorem dX3_common_65 : decode cX3_common 65 = .ok (.invokevirtual 150, 3) := by decide +kernel
theorem dX3_common_68 : decode cX3_common 68 = .ok (.ireturn, 1) := by decide +kernel
theorem dX3_common_69 : decode cX3_common 69 = .ok (.ldc 41, 2) := by decide +kernel
theorem dX3_common_71 : decode cX3_common 71 = .ok (.ireturn, 1) := by decide +kernel
theorem dX3_perNumber_0 : decode cX3_perNumber 0 = .ok (.iload_n 1, 1) := by decide +kernel
theorem dX3_perNumber_1 : decode cX3_perNumber 1 = .ok (.invokestatic 33, 3) := by decide +kernel
theorem dX3_perNumber_4 : decode cX3_perNumber 4 = .ok (.ifCond .ne 6, 3) := by decide +kernel
theorem dX3_perNumber_7 : decode cX3_perNumber 7 = .ok (.ldc 41, 2) := by decide +kernel
theorem dX3_perNumber_9 : decode cX3_perNumber 9 = .ok (.ireturn, 1) := by decide +kernel
theorem dX3_perNumber_10 : decode cX3_perNumber 10 = .ok (.aload_n 0, 1) := by decide +kernel
theorem dX3_perNumber_11 : decode cX3_perNumber 11 = .ok (.iload_n 1, 1) := by decide +kernel
theorem dX3_perNumber_12 : decode cX3_perNumber 12 = .ok (.invokevirtual 42, 3) := by decide +kernel
theorem dX3_perNumber_15 : decode cX3_perNumber 15 = .ok (.astore_n 2, 1) := by decide +kernel
theorem dX3_perNumber_16 : decode cX3_perNumber 16 = .ok (.aload_n 2, 1) := by decide +kernel
theorem dX3_perNumber_17 : decode cX3_perNumber 17 = .ok (.getfield 51, 3) := by decide +kernel
theorem dX3_perNumber_20 : decode cX3_perNumber 20 = .ok (.iconst 1, 1) := by decide +kernel
theorem dX3_perNumber_21 : decode cX3_perNumber 21 = .ok (.if_icmp .ge 6, 3) := by decide +kernel
theorem dX3_perNumber_24 : decode cX3_perNumber 24 = .ok (.ldc 109, 2) := by decide +kernel
theorem dX3_perNumber_26 : decode cX3_perNumber 26 = .ok (.ireturn, 1) := by decide +kernel
theorem dX3_perNumber_27 : decode cX3_perNumber 27 = .ok (.aload_n 2, 1) := by decide +kernel
theorem dX3_perNumber_28 : decode cX3_perNumber 28 = .ok (.invokevirtual 94, 3) := by decide +kernel
theorem dX3_perNumber_31 : decode cX3_perNumber 31 = .ok (.i2f, 1) := by decide +kernel
theorem dX3_perNumber_32 : decode cX3_perNumber 32 = .ok (.aload_n 2, 1) := by decide +kernel
theorem dX3_perNumber_33 : decode cX3_perNumber 33 = .ok (.getfield 51, 3) := by decide +kernel
theorem dX3_perNumber_36 : decode cX3_perNumber 36 = .ok (.i2f, 1) := by decide +kernel
theorem dX3_perNumber_37 : decode cX3_perNumber 37 = .ok (.fdiv, 1) := by decide +kernel
theorem dX3_perNumber_38 : decode cX3_perNumber 38 = .ok (.invokestatic 153, 3) := by decide +kernel
theorem dX3_perNumber_41 : decode cX3_perNumber 41 = .ok (.ireturn, 1) := by decide +kernel
theorem dX3_bestBound_0 : decode cX3_bestBound 0 = .ok (.iload_n 1, 1) := by decide +kernel
theorem dX3_bestBound_1 : decode cX3_bestBound 1 = .ok (.invokestatic 33, 3) := by decide +kernel
theorem dX3_bestBound_4 : decode cX3_bestBound 4 = .ok (.ifCond .eq 12, 3) := by decide +kernel
theorem dX3_bestBound_7 : decode cX3_bestBound 7 = .ok (.iload_n 2, 1) := by decide +kernel
theorem dX3_bestBound_8 : decode cX3_bestBound 8 = .ok (.iconst 0, 1) := by decide +kernel
theorem dX3_bestBound_9 : decode cX3_bestBound 9 = .ok (.iconst 1, 1) := by decide +kernel
theorem dX3_bestBound_10 : decode cX3_bestBound 10 = .ok (.invokestatic 37, 3) := by decide +kernel
theorem dX3_bestBound_13 : decode cX3_bestBound 13 = .ok (.ifCond .ne 6, 3) := by decide +kernel
theorem dX3_bestBound_16 : decode cX3_bestBound 16 = .ok (.ldc 41, 2) := by decide +kernel
theorem dX3_bestBound_18 : decode cX3_bestBound 18 = .ok (.ireturn, 1) := by decide +kernel
theorem dX3_bestBound_19 : decode cX3_bestBound 19 = .ok (.aload_n 0, 1) := by decide +kernel
theorem dX3_bestBound_20 : decode cX3_bestBound 20 = .ok (.iload_n 1, 1) := by decide +kernel
theorem dX3_bestBound_21 : decode cX3_bestBound 21 = .ok (.invokevirtual 42, 3) := by decide +kernel
theorem dX3_bestBound_24 : decode cX3_bestBound 24 = .ok (.astore_n 3, 1) := by decide +kernel
theorem dX3_bestBound_25 : decode cX3_bestBound 25 = .ok (.aload_n 3, 1) := by decide +kernel
theorem dX3_bestBound_26 : decode cX3_bestBound 26 = .ok (.getfield 51, 3) := by decide +kernel
theorem dX3_bestBound_29 : decode cX3_bestBound 29 = .ok (.iconst 1, 1) := by decide +kernel
theorem dX3_bestBound_30 : decode cX3_bestBound 30 = .ok (.if_icmp .ge 6, 3) := by decide +kernel
theorem dX3_bestBound_33 : decode cX3_bestBound 33 = .ok (.ldc 109, 2) := by decide +kernel
theorem dX3_bestBound_35 : decode cX3_bestBound 35 = .ok (.ireturn, 1) := by decide +kernel
theorem dX3_bestBound_36 : decode cX3_bestBound 36 = .ok (.aload_n 3, 1) := by decide +kernel
theorem dX3_bestBound_37 : decode cX3_bestBound 37 = .ok (.invokestatic 157, 3) := by decide +kernel
theorem dX3_bestBound_40 : decode cX3_bestBound 40 = .ok (.istore 4, 2) := by decide +kernel
theorem dX3_bestBound_42 : decode cX3_bestBound 42 = .ok (.iload_n 2, 1) := by decide +kernel
theorem dX3_bestBound_43 : decode cX3_bestBound 43 = .ok (.ifCond .ne 8, 3) := by decide +kernel
theorem dX3_bestBound_46 : decode cX3_bestBound 46 = .ok (.iload 4, 2) := by decide +kernel
theorem dX3_bestBound_48 : decode cX3_bestBound 48 = .ok (.goto 12, 3) := by decide +kernel
theorem dX3_bestBound_51 : decode cX3_bestBound 51 = .ok (.aload_n 3, 1) := by decide +kernel
theorem dX3_bestBound_52 : decode cX3_bestBound 52 = .ok (.getfield 51, 3) := by decide +kernel
theorem dX3_bestBound_55 : decode cX3_bestBound 55 = .ok (.iload 4, 2) := by decide +kernel
theorem dX3_bestBound_57 : decode cX3_bestBound 57 = .ok (.invokestatic 161, 3) := by decide +kernel
theorem dX3_bestBound_60 : decode cX3_bestBound 60 = .ok (.ireturn, 1) := by decide +kernel
theorem dX3_gapOf_0 : decode cX3_gapOf 0 = .ok (.iload_n 1, 1) := by decide +kernel
theorem dX3_gapOf_1 : decode cX3_gapOf 1 = .ok (.invokestatic 33, 3) := by decide +kernel
theorem dX3_gapOf_4 : decode cX3_gapOf 4 = .ok (.ifCond .eq 16, 3) := by decide +kernel
theorem dX3_gapOf_7 : decode cX3_gapOf 7 = .ok (.iload_n 2, 1) := by decide +kernel
theorem dX3_gapOf_8 : decode cX3_gapOf 8 = .ok (.ifCond .lt 12, 3) := by decide +kernel
theorem dX3_gapOf_11 : decode cX3_gapOf 11 = .ok (.iload_n 3, 1) := by decide +kernel
theorem dX3_gapOf_12 : decode cX3_gapOf 12 = .ok (.iconst 0, 1) := by decide +kernel
theorem dX3_gapOf_13 : decode cX3_gapOf 13 = .ok (.iconst 1, 1) := by decide +kernel
theorem dX3_gapOf_14 : decode cX3_gapOf 14 = .ok (.invokestatic 37, 3) := by decide +kernel
theorem dX3_gapOf_17 : decode cX3_gapOf 17 = .ok (.ifCond .ne 6, 3) := by decide +kernel
theorem dX3_gapOf_20 : decode cX3_gapOf 20 = .ok (.ldc 41, 2) := by decide +kernel
theorem dX3_gapOf_22 : decode cX3_gapOf 22 = .ok (.ireturn, 1) := by decide +kernel
theorem dX3_gapOf_23 : decode cX3_gapOf 23 = .ok (.aload_n 0, 1) := by decide +kernel
theorem dX3_gapOf_24 : decode cX3_gapOf 24 = .ok (.iload_n 1, 1) := by decide +kernel
theorem dX3_gapOf_25 : decode cX3_gapOf 25 = .ok (.invokevirtual 42, 3) := by decide +kernel
theorem dX3_gapOf_28 : decode cX3_gapOf 28 = .ok (.astore 4, 2) := by decide +kernel
theorem dX3_gapOf_30 : decode cX3_gapOf 30 = .ok (.aload 4, 2) := by decide +kernel
theorem dX3_gapOf_32 : decode cX3_gapOf 32 = .ok (.iload_n 2, 1) := by decide +kernel
theorem dX3_gapOf_33 : decode cX3_gapOf 33 = .ok (.invokevirtual 164, 3) := by decide +kernel
theorem dX3_gapOf_36 : decode cX3_gapOf 36 = .ok (.istore 5, 2) := by decide +kernel
theorem dX3_gapOf_38 : decode cX3_gapOf 38 = .ok (.iload 5, 2) := by decide +kernel
theorem dX3_gapOf_40 : decode cX3_gapOf 40 = .ok (.ifCond .ge 6, 3) := by decide +kernel
theorem dX3_gapOf_43 : decode cX3_gapOf 43 = .ok (.ldc 109, 2) := by decide +kernel
theorem dX3_gapOf_45 : decode cX3_gapOf 45 = .ok (.ireturn, 1) := by decide +kernel
theorem dX3_gapOf_46 : decode cX3_gapOf 46 = .ok (.iload_n 3, 1) := by decide +kernel
theorem dX3_gapOf_47 : decode cX3_gapOf 47 = .ok (.ifCond .ne 8, 3) := by decide +kernel
theorem dX3_gapOf_50 : decode cX3_gapOf 50 = .ok (.iload 5, 2) := by decide +kernel
theorem dX3_gapOf_52 : decode cX3_gapOf 52 = .ok (.goto 10, 3) := by decide +kernel
theorem dX3_gapOf_55 : decode cX3_gapOf 55 = .ok (.aload 4, 2) := by decide +kernel
theorem dX3_gapOf_57 : decode cX3_gapOf 57 = .ok (.iload 5, 2) := by decide +kernel
theorem dX3_gapOf_59 : decode cX3_gapOf 59 = .ok (.invokevirtual 167, 3) := by decide +kernel
theorem dX3_gapOf_62 : decode cX3_gapOf 62 = .ok (.ireturn, 1) := by decide +kernel
theorem dX3_count_0 : decode cX3_count 0 = .ok (.iload_n 1, 1) := by decide +kernel
theorem dX3_count_1 : decode cX3_count 1 = .ok (.tableswitch 79 0 3 #[31, 47, 63, 71], 31) := by decide +kernel
theorem dX3_count_32 : decode cX3_count 32 = .ok (.aload_n 0, 1) := by decide +kernel
theorem dX3_count_33 : decode cX3_count 33 = .ok (.getfield 12, 3) := by decide +kernel
theorem dX3_count_36 : decode cX3_count 36 = .ok (.getfield 51, 3) := by decide +kernel
theorem dX3_count_39 : decode cX3_count 39 = .ok (.aload_n 0, 1) := by decide +kernel
theorem dX3_count_40 : decode cX3_count 40 = .ok (.getfield 16, 3) := by decide +kernel
theorem dX3_count_43 : decode cX3_count 43 = .ok (.getfield 51, 3) := by decide +kernel
theorem dX3_count_46 : decode cX3_count 46 = .ok (.iadd, 1) := by decide +kernel
theorem dX3_count_47 : decode cX3_count 47 = .ok (.ireturn, 1) := by decide +kernel
theorem dX3_count_48 : decode cX3_count 48 = .ok (.aload_n 0, 1) := by decide +kernel
theorem dX3_count_49 : decode cX3_count 49 = .ok (.getfield 12, 3) := by decide +kernel
theorem dX3_count_52 : decode cX3_count 52 = .ok (.invokevirtual 94, 3) := by decide +kernel
theorem dX3_count_55 : decode cX3_count 55 = .ok (.aload_n 0, 1) := by decide +kernel
theorem dX3_count_56 : decode cX3_count 56 = .ok (.getfield 16, 3) := by decide +kernel
theorem dX3_count_59 : decode cX3_count 59 = .ok (.invokevirtual 94, 3) := by decide +kernel
theorem dX3_count_62 : decode cX3_count 62 = .ok (.iadd, 1) := by decide +kernel
theorem dX3_count_63 : decode cX3_count 63 = .ok (.ireturn, 1) := by decide +kernel
theorem dX3_count_64 : decode cX3_count 64 = .ok (.aload_n 0, 1) := by decide +kernel
theorem dX3_count_65 : decode cX3_count 65 = .ok (.getfield 22, 3) := by decide +kernel
theorem dX3_count_68 : decode cX3_count 68 = .ok (.getfield 170, 3) := by decide +kernel
theorem dX3_count_71 : decode cX3_count 71 = .ok (.ireturn, 1) := by decide +kernel
theorem dX3_count_72 : decode cX3_count 72 = .ok (.aload_n 0, 1) := by decide +kernel
theorem dX3_count_73 : decode cX3_count 73 = .ok (.getfield 29, 3) := by decide +kernel
theorem dX3_count_76 : decode cX3_count 76 = .ok (.getfield 171, 3) := by decide +kernel
theorem dX3_count_79 : decode cX3_count 79 = .ok (.ireturn, 1) := by decide +kernel
theorem dX3_count_80 : decode cX3_count 80 = .ok (.ldc 41, 2) := by decide +kernel
theorem dX3_count_82 : decode cX3_count 82 = .ok (.ireturn, 1) := by decide +kernel
theorem dX3_undo_0 : decode cX3_undo 0 = .ok (.aload_n 0, 1) := by decide +kernel
theorem dX3_undo_1 : decode cX3_undo 1 = .ok (.getfield 22, 3) := by decide +kernel
theorem dX3_undo_4 : decode cX3_undo 4 = .ok (.getfield 170, 3) := by decide +kernel
theorem dX3_undo_7 : decode cX3_undo 7 = .ok (.iconst 1, 1) := by decide +kernel
theorem dX3_undo_8 : decode cX3_undo 8 = .ok (.if_icmp .ge 6, 3) := by decide +kernel
theorem dX3_undo_11 : decode cX3_undo 11 = .ok (.ldc 50, 2) := by decide +kernel
theorem dX3_undo_13 : decode cX3_undo 13 = .ok (.ireturn, 1) := by decide +kernel
theorem dX3_undo_14 : decode cX3_undo 14 = .ok (.aload_n 0, 1) := by decide +kernel
theorem dX3_undo_15 : decode cX3_undo 15 = .ok (.getfield 22, 3) := by decide +kernel
theorem dX3_undo_18 : decode cX3_undo 18 = .ok (.aload_n 0, 1) := by decide +kernel
theorem dX3_undo_19 : decode cX3_undo 19 = .ok (.getfield 12, 3) := by decide +kernel
theorem dX3_undo_22 : decode cX3_undo 22 = .ok (.aload_n 0, 1) := by decide +kernel
theorem dX3_undo_23 : decode cX3_undo 23 = .ok (.getfield 16, 3) := by decide +kernel
theorem dX3_undo_26 : decode cX3_undo 26 = .ok (.invokevirtual 174, 3) := by decide +kernel
theorem dX3_undo_29 : decode cX3_undo 29 = .ok (.aload_n 0, 1) := by decide +kernel
theorem dX3_undo_30 : decode cX3_undo 30 = .ok (.getfield 22, 3) := by decide +kernel
theorem dX3_undo_33 : decode cX3_undo 33 = .ok (.getfield 170, 3) := by decide +kernel
theorem dX3_undo_36 : decode cX3_undo 36 = .ok (.ireturn, 1) := by decide +kernel
theorem dX3_type_0 : decode cX3_type 0 = .ok (.iload_n 1, 1) := by decide +kernel
theorem dX3_type_1 : decode cX3_type 1 = .ok (.bipush 32, 2) := by decide +kernel
theorem dX3_type_3 : decode cX3_type 3 = .ok (.bipush 126, 2) := by decide +kernel
theorem dX3_type_5 : decode cX3_type 5 = .ok (.invokestatic 37, 3) := by decide +kernel
theorem dX3_type_8 : decode cX3_type 8 = .ok (.ifCond .ne 6, 3) := by decide +kernel
theorem dX3_type_11 : decode cX3_type 11 = .ok (.ldc 41, 2) := by decide +kernel
theorem dX3_type_13 : decode cX3_type 13 = .ok (.ireturn, 1) := by decide +kernel
theorem dX3_type_14 : decode cX3_type 14 = .ok (.aload_n 0, 1) := by decide +kernel
theorem dX3_type_15 : decode cX3_type 15 = .ok (.getfield 29, 3) := by decide +kernel
theorem dX3_type_18 : decode cX3_type 18 = .ok (.getfield 171, 3) := by decide +kernel
theorem dX3_type_21 : decode cX3_type 21 = .ok (.bipush 60, 2) := by decide +kernel
theorem dX3_type_23 : decode cX3_type 23 = .ok (.if_icmp .lt 6, 3) := by decide +kernel
theorem dX3_type_26 : decode cX3_type 26 = .ok (.ldc 54, 2) := by decide +kernel
theorem dX3_type_28 : decode cX3_type 28 = .ok (.ireturn, 1) := by decide +kernel
theorem dX3_type_29 : decode cX3_type 29 = .ok (.aload_n 0, 1) := by decide +kernel
theorem dX3_type_30 : decode cX3_type 30 = .ok (.getfield 29, 3) := by decide +kernel
theorem dX3_type_33 : decode cX3_type 33 = .ok (.iload_n 1, 1) := by decide +kernel
theorem dX3_type_34 : decode cX3_type 34 = .ok (.invokevirtual 178, 3) := by decide +kernel
theorem dX3_type_37 : decode cX3_type 37 = .ok (.aload_n 0, 1) := by decide +kernel
theorem dX3_type_38 : decode cX3_type 38 = .ok (.getfield 29, 3) := by decide +kernel
theorem dX3_type_41 : decode cX3_type 41 = .ok (.getfield 171, 3) := by decide +kernel
theorem dX3_type_44 : decode cX3_type 44 = .ok (.ireturn, 1) := by decide +kernel
theorem dX3_clearText_0 : decode cX3_clearText 0 = .ok (.aload_n 0, 1) := by decide +kernel
theorem dX3_clearText_1 : decode cX3_clearText 1 = .ok (.getfield 29, 3) := by decide +kernel
theorem dX3_clearText_4 : decode cX3_clearText 4 = .ok (.getfield 171, 3) := by decide +kernel
theorem dX3_clearText_7 : decode cX3_clearText 7 = .ok (.istore_n 1, 1) := by decide +kernel
theorem dX3_clearText_8 : decode cX3_clearText 8 = .ok (.aload_n 0, 1) := by decide +kernel
theorem dX3_clearText_9 : decode cX3_clearText 9 = .ok (.getfield 29, 3) := by decide +kernel
theorem dX3_clearText_12 : decode cX3_clearText 12 = .ok (.iconst 0, 1) := by decide +kernel
theorem dX3_clearText_13 : decode cX3_clearText 13 = .ok (.putfield 171, 3) := by decide +kernel
theorem dX3_clearText_16 : decode cX3_clearText 16 = .ok (.iload_n 1, 1) := by decide +kernel
theorem dX3_clearText_17 : decode cX3_clearText 17 = .ok (.ireturn, 1) := by decide +kernel
theorem dX3_fault_0 : decode cX3_fault 0 = .ok (.iload_n 1, 1) := by decide +kernel
theorem dX3_fault_1 : decode cX3_fault 1 = .ok (.invokestatic 33, 3) := by decide +kernel
theorem dX3_fault_4 : decode cX3_fault 4 = .ok (.ifCond .eq 12, 3) := by decide +kernel
theorem dX3_fault_7 : decode cX3_fault 7 = .ok (.iload_n 2, 1) := by decide +kernel
theorem dX3_fault_8 : decode cX3_fault 8 = .ok (.iconst 0, 1) := by decide +kernel
theorem dX3_fault_9 : decode cX3_fault 9 = .ok (.iconst 1, 1) := by decide +kernel
theorem dX3_fault_10 : decode cX3_fault 10 = .ok (.invokestatic 37, 3) := by decide +kernel
theorem dX3_fault_13 : decode cX3_fault 13 = .ok (.ifCond .ne 6, 3) := by decide +kernel
theorem dX3_fault_16 : decode cX3_fault 16 = .ok (.ldc 41, 2) := by decide +kernel
theorem dX3_fault_18 : decode cX3_fault 18 = .ok (.ireturn, 1) := by decide +kernel
theorem dX3_fault_19 : decode cX3_fault 19 = .ok (.aload_n 0, 1) := by decide +kernel
theorem dX3_fault_20 : decode cX3_fault 20 = .ok (.getfield 29, 3) := by decide +kernel
theorem dX3_fault_23 : decode cX3_fault 23 = .ok (.aload_n 0, 1) := by decide +kernel
theorem dX3_fault_24 : decode cX3_fault 24 = .ok (.iload_n 1, 1) := by decide +kernel
theorem dX3_fault_25 : decode cX3_fault 25 = .ok (.invokevirtual 42, 3) := by decide +kernel
theorem dX3_fault_28 : decode cX3_fault 28 = .ok (.getfield 46, 3) := by decide +kernel
theorem dX3_fault_31 : decode cX3_fault 31 = .ok (.invokevirtual 182, 3) := by decide +kernel
theorem dX3_fault_34 : decode cX3_fault 34 = .ok (.istore_n 3, 1) := by decide +kernel
theorem dX3_fault_35 : decode cX3_fault 35 = .ok (.iload_n 3, 1) := by decide +kernel
theorem dX3_fault_36 : decode cX3_fault 36 = .ok (.iconst (-1), 1) := by decide +kernel
theorem dX3_fault_37 : decode cX3_fault 37 = .ok (.if_icmp .ne 6, 3) := by decide +kernel
theorem dX3_fault_40 : decode cX3_fault 40 = .ok (.ldc 109, 2) := by decide +kernel
theorem dX3_fault_42 : decode cX3_fault 42 = .ok (.ireturn, 1) := by decide +kernel
theorem dX3_fault_43 : decode cX3_fault 43 = .ok (.iload_n 2, 1) := by decide +kernel
theorem dX3_fault_44 : decode cX3_fault 44 = .ok (.ifCond .ne 9, 3) := by decide +kernel
theorem dX3_fault_47 : decode cX3_fault 47 = .ok (.iload_n 3, 1) := by decide +kernel
theorem dX3_fault_48 : decode cX3_fault 48 = .ok (.iconst 4, 1) := by decide +kernel
theorem dX3_fault_49 : decode cX3_fault 49 = .ok (.idiv, 1) := by decide +kernel
theorem dX3_fault_50 : decode cX3_fault 50 = .ok (.goto 6, 3) := by decide +kernel
theorem dX3_fault_53 : decode cX3_fault 53 = .ok (.iload_n 3, 1) := by decide +kernel
theorem dX3_fault_54 : decode cX3_fault 54 = .ok (.iconst 4, 1) := by decide +kernel
theorem dX3_fault_55 : decode cX3_fault 55 = .ok (.irem, 1) := by decide +kernel
theorem dX3_fault_56 : decode cX3_fault 56 = .ok (.ireturn, 1) := by decide +kernel
theorem dX3_read_0 : decode cX3_read 0 = .ok (.iload_n 1, 1) := by decide +kernel
theorem dX3_read_1 : decode cX3_read 1 = .ok (.invokestatic 33, 3) := by decide +kernel
theorem dX3_read_4 : decode cX3_read 4 = .ok (.ifCond .ne 6, 3) := by decide +kernel
theorem dX3_read_7 : decode cX3_read 7 = .ok (.ldc 41, 2) := by decide +kernel
theorem dX3_read_9 : decode cX3_read 9 = .ok (.ireturn, 1) := by decide +kernel
theorem dX3_read_10 : decode cX3_read 10 = .ok (.aload_n 0, 1) := by decide +kernel
theorem dX3_read_11 : decode cX3_read 11 = .ok (.iload_n 1, 1) := by decide +kernel
theorem dX3_read_12 : decode cX3_read 12 = .ok (.invokevirtual 42, 3) := by decide +kernel
theorem dX3_read_15 : decode cX3_read 15 = .ok (.astore_n 2, 1) := by decide +kernel
theorem dX3_read_16 : decode cX3_read 16 = .ok (.aload_n 0, 1) := by decide +kernel
theorem dX3_read_17 : decode cX3_read 17 = .ok (.getfield 29, 3) := by decide +kernel
theorem dX3_read_20 : decode cX3_read 20 = .ok (.aload_n 2, 1) := by decide +kernel
theorem dX3_read_21 : decode cX3_read 21 = .ok (.getfield 46, 3) := by decide +kernel
theorem dX3_read_24 : decode cX3_read 24 = .ok (.invokevirtual 182, 3) := by decide +kernel
theorem dX3_read_27 : decode cX3_read 27 = .ok (.iconst (-1), 1) := by decide +kernel
theorem dX3_read_28 : decode cX3_read 28 = .ok (.if_icmp .eq 6, 3) := by decide +kernel
theorem dX3_read_31 : decode cX3_read 31 = .ok (.ldc 50, 2) := by decide +kernel
theorem dX3_read_33 : decode cX3_read 33 = .ok (.ireturn, 1) := by decide +kernel
theorem dX3_read_34 : decode cX3_read 34 = .ok (.aload_n 0, 1) := by decide +kernel
theorem dX3_read_35 : decode cX3_read 35 = .ok (.invokevirtual 55, 3) := by decide +kernel
theorem dX3_read_38 : decode cX3_read 38 = .ok (.aload_n 0, 1) := by decide +kernel
theorem dX3_read_39 : decode cX3_read 39 = .ok (.getfield 29, 3) := by decide +kernel
theorem dX3_read_42 : decode cX3_read 42 = .ok (.aload_n 2, 1) := by decide +kernel
theorem dX3_read_43 : decode cX3_read 43 = .ok (.invokevirtual 185, 3) := by decide +kernel
theorem dX3_read_46 : decode cX3_read 46 = .ok (.aload_n 2, 1) := by decide +kernel
theorem dX3_read_47 : decode cX3_read 47 = .ok (.getfield 51, 3) := by decide +kernel
theorem dX3_read_50 : decode cX3_read 50 = .ok (.ireturn, 1) := by decide +kernel
theorem dX3_isWithin_0 : decode cX3_isWithin 0 = .ok (.iload_n 0, 1) := by decide +kernel
theorem dX3_isWithin_1 : decode cX3_isWithin 1 = .ok (.iload_n 1, 1) := by decide +kernel
theorem dX3_isWithin_2 : decode cX3_isWithin 2 = .ok (.if_icmp .lt 12, 3) := by decide +kernel
theorem dX3_isWithin_5 : decode cX3_isWithin 5 = .ok (.iload_n 0, 1) := by decide +kernel
theorem dX3_isWithin_6 : decode cX3_isWithin 6 = .ok (.iload_n 2, 1) := by decide +kernel
theorem dX3_isWithin_7 : decode cX3_isWithin 7 = .ok (.if_icmp .gt 7, 3) := by decide +kernel
theorem dX3_isWithin_10 : decode cX3_isWithin 10 = .ok (.iconst 1, 1) := by decide +kernel
theorem dX3_isWithin_11 : decode cX3_isWithin 11 = .ok (.goto 4, 3) := by decide +kernel
theorem dX3_isWithin_14 : decode cX3_isWithin 14 = .ok (.iconst 0, 1) := by decide +kernel
theorem dX3_isWithin_15 : decode cX3_isWithin 15 = .ok (.ireturn, 1) := by decide +kernel
theorem dX3_isRow_0 : decode cX3_isRow 0 = .ok (.iload_n 0, 1) := by decide +kernel
theorem dX3_isRow_1 : decode cX3_isRow 1 = .ok (.iconst 0, 1) := by decide +kernel
theorem dX3_isRow_2 : decode cX3_isRow 2 = .ok (.iconst 1, 1) := by decide +kernel
theorem dX3_isRow_3 : decode cX3_isRow 3 = .ok (.invokestatic 37, 3) := by decide +kernel
theorem dX3_isRow_6 : decode cX3_isRow 6 = .ok (.ireturn, 1) := by decide +kernel
theorem dX3_rowAt_0 : decode cX3_rowAt 0 = .ok (.iload_n 1, 1) := by decide +kernel
theorem dX3_rowAt_1 : decode cX3_rowAt 1 = .ok (.ifCond .ne 10, 3) := by decide +kernel
theorem dX3_rowAt_4 : decode cX3_rowAt 4 = .ok (.aload_n 0, 1) := by decide +kernel
theorem dX3_rowAt_5 : decode cX3_rowAt 5 = .ok (.getfield 12, 3) := by decide +kernel
theorem dX3_rowAt_8 : decode cX3_rowAt 8 = .ok (.goto 7, 3) := by decide +kernel
theorem dX3_rowAt_11 : decode cX3_rowAt 11 = .ok (.aload_n 0, 1) := by decide +kernel
theorem dX3_rowAt_12 : decode cX3_rowAt 12 = .ok (.getfield 16, 3) := by decide +kernel
theorem dX3_rowAt_15 : decode cX3_rowAt 15 = .ok (.areturn, 1) := by decide +kernel
theorem dX3_remember_0 : decode cX3_remember 0 = .ok (.aload_n 0, 1) := by decide +kernel
theorem dX3_remember_1 : decode cX3_remember 1 = .ok (.getfield 22, 3) := by decide +kernel
theorem dX3_remember_4 : decode cX3_remember 4 = .ok (.aload_n 0, 1) := by decide +kernel
theorem dX3_remember_5 : decode cX3_remember 5 = .ok (.getfield 12, 3) := by decide +kernel
theorem dX3_remember_8 : decode cX3_remember 8 = .ok (.aload_n 0, 1) := by decide +kernel
theorem dX3_remember_9 : decode cX3_remember 9 = .ok (.getfield 16, 3) := by decide +kernel
theorem dX3_remember_12 : decode cX3_remember 12 = .ok (.invokevirtual 189, 3) := by decide +kernel
theorem dX3_remember_15 : decode cX3_remember 15 = .ok (.return_, 1) := by decide +kernel
theorem dX3_samplesOf_0 : decode cX3_samplesOf 0 = .ok (.iload_n 0, 1) := by decide +kernel
theorem dX3_samplesOf_1 : decode cX3_samplesOf 1 = .ok (.iconst 4, 1) := by decide +kernel
theorem dX3_samplesOf_2 : decode cX3_samplesOf 2 = .ok (.iadd, 1) := by decide +kernel
theorem dX3_samplesOf_3 : decode cX3_samplesOf 3 = .ok (.iconst 1, 1) := by decide +kernel
theorem dX3_samplesOf_4 : decode cX3_samplesOf 4 = .ok (.isub, 1) := by decide +kernel
theorem dX3_samplesOf_5 : decode cX3_samplesOf 5 = .ok (.iconst 4, 1) := by decide +kernel
theorem dX3_samplesOf_6 : decode cX3_samplesOf 6 = .ok (.idiv, 1) := by decide +kernel
theorem dX3_samplesOf_7 : decode cX3_samplesOf 7 = .ok (.ireturn, 1) := by decide +kernel
theorem dX3_sampledAhead_0 : decode cX3_sampledAhead 0 = .ok (.iload_n 0, 1) := by decide +kernel
theorem dX3_sampledAhead_1 : decode cX3_sampledAhead 1 = .ok (.iload_n 0, 1) := by decide +kernel
theorem dX3_sampledAhead_2 : decode cX3_sampledAhead 2 = .ok (.iconst 4, 1) := by decide +kernel
theorem dX3_sampledAhead_3 : decode cX3_sampledAhead 3 = .ok (.irem, 1) := by decide +kernel
theorem dX3_sampledAhead_4 : decode cX3_sampledAhead 4 = .ok (.isub, 1) := by decide +kernel
theorem dX3_sampledAhead_5 : decode cX3_sampledAhead 5 = .ok (.ireturn, 1) := by decide +kernel
theorem dX3_widthFor_0 : decode cX3_widthFor 0 = .ok (.iload_n 0, 1) := by decide +kernel
theorem dX3_widthFor_1 : decode cX3_widthFor 1 = .ok (.iconst 1, 1) := by decide +kernel
theorem dX3_widthFor_2 : decode cX3_widthFor 2 = .ok (.if_icmp .ge 5, 3) := by decide +kernel
theorem dX3_widthFor_5 : decode cX3_widthFor 5 = .ok (.iconst 0, 1) := by decide +kernel
theorem dX3_widthFor_6 : decode cX3_widthFor 6 = .ok (.ireturn, 1) := by decide +kernel
theorem dX3_widthFor_7 : decode cX3_widthFor 7 = .ok (.iload_n 1, 1) := by decide +kernel
theorem dX3_widthFor_8 : decode cX3_widthFor 8 = .ok (.iload_n 0, 1) := by decide +kernel
theorem dX3_widthFor_9 : decode cX3_widthFor 9 = .ok (.idiv, 1) := by decide +kernel
theorem dX3_widthFor_10 : decode cX3_widthFor 10 = .ok (.istore_n 2, 1) := by decide +kernel
theorem dX3_widthFor_11 : decode cX3_widthFor 11 = .ok (.iconst 0, 1) := by decide +kernel
theorem dX3_widthFor_12 : decode cX3_widthFor 12 = .ok (.istore_n 3, 1) := by decide +kernel
theorem dX3_widthFor_13 : decode cX3_widthFor 13 = .ok (.iload_n 3, 1) := by decide +kernel
theorem dX3_widthFor_14 : decode cX3_widthFor 14 = .ok (.bipush 12, 2) := by decide +kernel
theorem dX3_widthFor_16 : decode cX3_widthFor 16 = .ok (.if_icmp .ge 16, 3) := by decide +kernel
theorem dX3_widthFor_19 : decode cX3_widthFor 19 = .ok (.iconst 2, 1) := by decide +kernel
theorem dX3_widthFor_20 : decode cX3_widthFor 20 = .ok (.iload_n 3, 1) := by decide +kernel
theorem dX3_widthFor_21 : decode cX3_widthFor 21 = .ok (.ishl, 1) := by decide +kernel
theorem dX3_widthFor_22 : decode cX3_widthFor 22 = .ok (.iload_n 2, 1) := by decide +kernel
theorem dX3_widthFor_23 : decode cX3_widthFor 23 = .ok (.if_icmp .gt 9, 3) := by decide +kernel
theorem dX3_widthFor_26 : decode cX3_widthFor 26 = .ok (.iinc 3 1, 3) := by decide +kernel
theorem dX3_widthFor_29 : decode cX3_widthFor 29 = .ok (.goto (-16), 3) := by decide +kernel
theorem dX3_widthFor_32 : decode cX3_widthFor 32 = .ok (.iload_n 3, 1) := by decide +kernel
theorem dX3_widthFor_33 : decode cX3_widthFor 33 = .ok (.ireturn, 1) := by decide +kernel
theorem dX3_zerosFor_0 : decode cX3_zerosFor 0 = .ok (.iload_n 1, 1) := by decide +kernel
theorem dX3_zerosFor_1 : decode cX3_zerosFor 1 = .ok (.iconst 1, 1) := by decide +kernel
theorem dX3_zerosFor_2 : decode cX3_zerosFor 2 = .ok (.isub, 1) := by decide +kernel
theorem dX3_zerosFor_3 : decode cX3_zerosFor 3 = .ok (.iload_n 0, 1) := by decide +kernel
theorem dX3_zerosFor_4 : decode cX3_zerosFor 4 = .ok (.iload_n 1, 1) := by decide +kernel
theorem dX3_zerosFor_5 : decode cX3_zerosFor 5 = .ok (.invokestatic 192, 3) := by decide +kernel
theorem dX3_zerosFor_8 : decode cX3_zerosFor 8 = .ok (.ishr, 1) := by decide +kernel
theorem dX3_zerosFor_9 : decode cX3_zerosFor 9 = .ok (.istore_n 2, 1) := by decide +kernel
theorem dX3_zerosFor_10 : decode cX3_zerosFor 10 = .ok (.iload_n 0, 1) := by decide +kernel
theorem dX3_zerosFor_11 : decode cX3_zerosFor 11 = .ok (.iconst 1, 1) := by decide +kernel
theorem dX3_zerosFor_12 : decode cX3_zerosFor 12 = .ok (.if_icmp .ge 7, 3) := by decide +kernel
theorem dX3_zerosFor_15 : decode cX3_zerosFor 15 = .ok (.iload_n 2, 1) := by decide +kernel
theorem dX3_zerosFor_16 : decode cX3_zerosFor 16 = .ok (.goto 6, 3) := by decide +kernel
theorem dX3_zerosFor_19 : decode cX3_zerosFor 19 = .ok (.iload_n 2, 1) := by decide +kernel
theorem dX3_zerosFor_20 : decode cX3_zerosFor 20 = .ok (.iconst 1, 1) := by decide +kernel
theorem dX3_zerosFor_21 : decode cX3_zerosFor 21 = .ok (.iadd, 1) := by decide +kernel
theorem dX3_zerosFor_22 : decode cX3_zerosFor 22 = .ok (.ireturn, 1) := by decide +kernel
theorem dX3_bitsFor_0 : decode cX3_bitsFor 0 = .ok (.iload_n 0, 1) := by decide +kernel
theorem dX3_bitsFor_1 : decode cX3_bitsFor 1 = .ok (.iload_n 0, 1) := by decide +kernel
theorem dX3_bitsFor_2 : decode cX3_bitsFor 2 = .ok (.iload_n 1, 1) := by decide +kernel
theorem dX3_bitsFor_3 : decode cX3_bitsFor 3 = .ok (.invokestatic 195, 3) := by decide +kernel
theorem dX3_bitsFor_6 : decode cX3_bitsFor 6 = .ok (.iadd, 1) := by decide +kernel
theorem dX3_bitsFor_7 : decode cX3_bitsFor 7 = .ok (.iload_n 0, 1) := by decide +kernel
theorem dX3_bitsFor_8 : decode cX3_bitsFor 8 = .ok (.iload_n 0, 1) := by decide +kernel
theorem dX3_bitsFor_9 : decode cX3_bitsFor 9 = .ok (.iload_n 1, 1) := by decide +kernel
theorem dX3_bitsFor_10 : decode cX3_bitsFor 10 = .ok (.invokestatic 192, 3) := by decide +kernel
theorem dX3_bitsFor_13 : decode cX3_bitsFor 13 = .ok (.imul, 1) := by decide +kernel
theorem dX3_bitsFor_14 : decode cX3_bitsFor 14 = .ok (.iadd, 1) := by decide +kernel
theorem dX3_bitsFor_15 : decode cX3_bitsFor 15 = .ok (.ireturn, 1) := by decide +kernel
theorem dX3_lowestBestBound_0 : decode cX3_lowestBestBound 0 = .ok (.iconst 2, 1) := by decide +kernel
theorem dX3_lowestBestBound_1 : decode cX3_lowestBestBound 1 = .ok (.aload_n 0, 1) := by decide +kernel
theorem dX3_lowestBestBound_2 : decode cX3_lowestBestBound 2 = .ok (.aload_n 0, 1) := by decide +kernel
theorem dX3_lowestBestBound_3 : decode cX3_lowestBestBound 3 = .ok (.getfield 51, 3) := by decide +kernel
theorem dX3_lowestBestBound_6 : decode cX3_lowestBestBound 6 = .ok (.iconst 1, 1) := by decide +kernel
theorem dX3_lowestBestBound_7 : decode cX3_lowestBestBound 7 = .ok (.isub, 1) := by decide +kernel
theorem dX3_lowestBestBound_8 : decode cX3_lowestBestBound 8 = .ok (.invokevirtual 75, 3) := by decide +kernel
theorem dX3_lowestBestBound_11 : decode cX3_lowestBestBound 11 = .ok (.iconst 1, 1) := by decide +kernel
theorem dX3_lowestBestBound_12 : decode cX3_lowestBestBound 12 = .ok (.iadd, 1) := by decide +kernel
theorem dX3_lowestBestBound_13 : decode cX3_lowestBestBound 13 = .ok (.invokestatic 81, 3) := by decide +kernel
theorem dX3_lowestBestBound_16 : decode cX3_lowestBestBound 16 = .ok (.ireturn, 1) := by decide +kernel
theorem dX3_bitsOfFloat_0 : decode cX3_bitsOfFloat 0 = .ok (.fload_n 0, 1) := by decide +kernel
theorem dX3_bitsOfFloat_1 : decode cX3_bitsOfFloat 1 = .ok (.fstore_n 1, 1) := by decide +kernel
theorem dX3_bitsOfFloat_2 : decode cX3_bitsOfFloat 2 = .ok (.iconst 0, 1) := by decide +kernel
theorem dX3_bitsOfFloat_3 : decode cX3_bitsOfFloat 3 = .ok (.istore_n 2, 1) := by decide +kernel
theorem dX3_bitsOfFloat_4 : decode cX3_bitsOfFloat 4 = .ok (.iload_n 2, 1) := by decide +kernel
theorem dX3_bitsOfFloat_5 : decode cX3_bitsOfFloat 5 = .ok (.bipush 127, 2) := by decide +kernel
theorem dX3_bitsOfFloat_7 : decode cX3_bitsOfFloat 7 = .ok (.if_icmp .ge 19, 3) := by decide +kernel
theorem dX3_bitsOfFloat_10 : decode cX3_bitsOfFloat 10 = .ok (.fload_n 1, 1) := by decide +kernel
theorem dX3_bitsOfFloat_11 : decode cX3_bitsOfFloat 11 = .ok (.fconst 2, 1) := by decide +kernel
theorem dX3_bitsOfFloat_12 : decode cX3_bitsOfFloat 12 = .ok (.fcmp .l, 1) := by decide +kernel
theorem dX3_bitsOfFloat_13 : decode cX3_bitsOfFloat 13 = .ok (.ifCond .lt 13, 3) := by decide +kernel
theorem dX3_bitsOfFloat_16 : decode cX3_bitsOfFloat 16 = .ok (.fload_n 1, 1) := by decide +kernel
theorem dX3_bitsOfFloat_17 : decode cX3_bitsOfFloat 17 = .ok (.fconst 2, 1) := by decide +kernel
theorem dX3_bitsOfFloat_18 : decode cX3_bitsOfFloat 18 = .ok (.fdiv, 1) := by decide +kernel
theorem dX3_bitsOfFloat_19 : decode cX3_bitsOfFloat 19 = .ok (.fstore_n 1, 1) := by decide +kernel
theorem dX3_bitsOfFloat_20 : decode cX3_bitsOfFloat 20 = .ok (.iinc 2 1, 3) := by decide +kernel
theorem dX3_bitsOfFloat_23 : decode cX3_bitsOfFloat 23 = .ok (.goto (-19), 3) := by decide +kernel
theorem dX3_bitsOfFloat_26 : decode cX3_bitsOfFloat 26 = .ok (.bipush 127, 2) := by decide +kernel
theorem dX3_bitsOfFloat_28 : decode cX3_bitsOfFloat 28 = .ok (.iload_n 2, 1) := by decide +kernel
theorem dX3_bitsOfFloat_29 : decode cX3_bitsOfFloat 29 = .ok (.iadd, 1) := by decide +kernel
theorem dX3_bitsOfFloat_30 : decode cX3_bitsOfFloat 30 = .ok (.ldc 198, 2) := by decide +kernel
theorem dX3_bitsOfFloat_32 : decode cX3_bitsOfFloat 32 = .ok (.imul, 1) := by decide +kernel
theorem dX3_bitsOfFloat_33 : decode cX3_bitsOfFloat 33 = .ok (.fload_n 1, 1) := by decide +kernel
theorem dX3_bitsOfFloat_34 : decode cX3_bitsOfFloat 34 = .ok (.fconst 1, 1) := by decide +kernel
theorem dX3_bitsOfFloat_35 : decode cX3_bitsOfFloat 35 = .ok (.fsub, 1) := by decide +kernel
theorem dX3_bitsOfFloat_36 : decode cX3_bitsOfFloat 36 = .ok (.ldc 199, 2) := by decide +kernel
theorem dX3_bitsOfFloat_38 : decode cX3_bitsOfFloat 38 = .ok (.fmul, 1) := by decide +kernel
theorem dX3_bitsOfFloat_39 : decode cX3_bitsOfFloat 39 = .ok (.f2i, 1) := by decide +kernel
theorem dX3_bitsOfFloat_40 : decode cX3_bitsOfFloat 40 = .ok (.iadd, 1) := by decide +kernel
theorem dX3_bitsOfFloat_41 : decode cX3_bitsOfFloat 41 = .ok (.ireturn, 1) := by decide +kernel
theorem dX3_joinedSize_0 : decode cX3_joinedSize 0 = .ok (.iload_n 1, 1) := by decide +kernel
theorem dX3_joinedSize_1 : decode cX3_joinedSize 1 = .ok (.ifCond .eq 24, 3) := by decide +kernel
theorem dX3_joinedSize_4 : decode cX3_joinedSize 4 = .ok (.aload_n 0, 1) := by decide +kernel
theorem dX3_joinedSize_5 : decode cX3_joinedSize 5 = .ok (.getfield 12, 3) := by decide +kernel
theorem dX3_joinedSize_8 : decode cX3_joinedSize 8 = .ok (.invokevirtual 103, 3) := by decide +kernel
theorem dX3_joinedSize_11 : decode cX3_joinedSize 11 = .ok (.aload_n 0, 1) := by decide +kernel
theorem dX3_joinedSize_12 : decode cX3_joinedSize 12 = .ok (.getfield 16, 3) := by decide +kernel
theorem dX3_joinedSize_15 : decode cX3_joinedSize 15 = .ok (.invokevirtual 103, 3) := by decide +kernel
theorem dX3_joinedSize_18 : decode cX3_joinedSize 18 = .ok (.iadd, 1) := by decide +kernel
theorem dX3_joinedSize_19 : decode cX3_joinedSize 19 = .ok (.aload_n 0, 1) := by decide +kernel
theorem dX3_joinedSize_20 : decode cX3_joinedSize 20 = .ok (.invokevirtual 141, 3) := by decide +kernel
theorem dX3_joinedSize_23 : decode cX3_joinedSize 23 = .ok (.isub, 1) := by decide +kernel
theorem dX3_joinedSize_24 : decode cX3_joinedSize 24 = .ok (.ireturn, 1) := by decide +kernel
theorem dX3_joinedSize_25 : decode cX3_joinedSize 25 = .ok (.aload_n 0, 1) := by decide +kernel
theorem dX3_joinedSize_26 : decode cX3_joinedSize 26 = .ok (.getfield 12, 3) := by decide +kernel
theorem dX3_joinedSize_29 : decode cX3_joinedSize 29 = .ok (.getfield 51, 3) := by decide +kernel
theorem dX3_joinedSize_32 : decode cX3_joinedSize 32 = .ok (.aload_n 0, 1) := by decide +kernel
theorem dX3_joinedSize_33 : decode cX3_joinedSize 33 = .ok (.getfield 16, 3) := by decide +kernel
theorem dX3_joinedSize_36 : decode cX3_joinedSize 36 = .ok (.getfield 51, 3) := by decide +kernel
theorem dX3_joinedSize_39 : decode cX3_joinedSize 39 = .ok (.iadd, 1) := by decide +kernel
theorem dX3_joinedSize_40 : decode cX3_joinedSize 40 = .ok (.ireturn, 1) := by decide +kernel
theorem dX3_commonUnlike_0 : decode cX3_commonUnlike 0 = .ok (.iconst 0, 1) := by decide +kernel
theorem dX3_commonUnlike_1 : decode cX3_commonUnlike 1 = .ok (.istore_n 1, 1) := by decide +kernel
theorem dX3_commonUnlike_2 : decode cX3_commonUnlike 2 = .ok (.iconst 0, 1) := by decide +kernel
theorem dX3_commonUnlike_3 : decode cX3_commonUnlike 3 = .ok (.istore_n 2, 1) := by decide +kernel
theorem dX3_commonUnlike_4 : decode cX3_commonUnlike 4 = .ok (.iload_n 2, 1) := by decide +kernel
theorem dX3_commonUnlike_5 : decode cX3_commonUnlike 5 = .ok (.aload_n 0, 1) := by decide +kernel
theorem dX3_commonUnlike_6 : decode cX3_commonUnlike 6 = .ok (.getfield 12, 3) := by decide +kernel
theorem dX3_commonUnlike_9 : decode cX3_commonUnlike 9 = .ok (.getfield 51, 3) := by decide +kernel
theorem dX3_commonUnlike_12 : decode cX3_commonUnlike 12 = .ok (.if_icmp .ge 41, 3) := by decide +kernel
theorem dX3_commonUnlike_15 : decode cX3_commonUnlike 15 = .ok (.aload_n 0, 1) := by decide +kernel
theorem dX3_commonUnlike_16 : decode cX3_commonUnlike 16 = .ok (.getfield 12, 3) := by decide +kernel
theorem dX3_commonUnlike_19 : decode cX3_commonUnlike 19 = .ok (.iload_n 2, 1) := by decide +kernel
theorem dX3_commonUnlike_20 : decode cX3_commonUnlike 20 = .ok (.invokevirtual 200, 3) := by decide +kernel
theorem dX3_commonUnlike_23 : decode cX3_commonUnlike 23 = .ok (.ifCond .eq 24, 3) := by decide +kernel
theorem dX3_commonUnlike_26 : decode cX3_commonUnlike 26 = .ok (.aload_n 0, 1) := by decide +kernel
theorem dX3_commonUnlike_27 : decode cX3_commonUnlike 27 = .ok (.getfield 16, 3) := by decide +kernel
theorem dX3_commonUnlike_30 : decode cX3_commonUnlike 30 = .ok (.aload_n 0, 1) := by decide +kernel
theorem dX3_commonUnlike_31 : decode cX3_commonUnlike 31 = .ok (.getfield 12, 3) := by decide +kernel
theorem dX3_commonUnlike_34 : decode cX3_commonUnlike 34 = .ok (.iload_n 2, 1) := by decide +kernel
theorem dX3_commonUnlike_35 : decode cX3_commonUnlike 35 = .ok (.invokevirtual 75, 3) := by decide +kernel
theorem dX3_commonUnlike_38 : decode cX3_commonUnlike 38 = .ok (.invokevirtual 78, 3) := by decide +kernel
theorem dX3_commonUnlike_41 : decode cX3_commonUnlike 41 = .ok (.ifCond .eq 6, 3) := by decide +kernel
theorem dX3_commonUnlike_44 : decode cX3_commonUnlike 44 = .ok (.iinc 1 1, 3) := by decide +kernel
theorem dX3_commonUnlike_47 : decode cX3_commonUnlike 47 = .ok (.iinc 2 1, 3) := by decide +kernel
theorem dX3_commonUnlike_50 : decode cX3_commonUnlike 50 = .ok (.goto (-46), 3) := by decide +kernel
theorem dX3_commonUnlike_53 : decode cX3_commonUnlike 53 = .ok (.iload_n 1, 1) := by decide +kernel
theorem dX3_commonUnlike_54 : decode cX3_commonUnlike 54 = .ok (.ireturn, 1) := by decide +kernel
theorem dX3_commonRepeated_0 : decode cX3_commonRepeated 0 = .ok (.iconst 0, 1) := by decide +kernel
theorem dX3_commonRepeated_1 : decode cX3_commonRepeated 1 = .ok (.istore_n 1, 1) := by decide +kernel
theorem dX3_commonRepeated_2 : decode cX3_commonRepeated 2 = .ok (.iconst 0, 1) := by decide +kernel
theorem dX3_commonRepeated_3 : decode cX3_commonRepeated 3 = .ok (.istore_n 2, 1) := by decide +kernel
theorem dX3_commonRepeated_4 : decode cX3_commonRepeated 4 = .ok (.iload_n 2, 1) := by decide +kernel
theorem dX3_commonRepeated_5 : decode cX3_commonRepeated 5 = .ok (.aload_n 0, 1) := by decide +kernel
theorem dX3_commonRepeated_6 : decode cX3_commonRepeated 6 = .ok (.getfield 12, 3) := by decide +kernel
theorem dX3_commonRepeated_9 : decode cX3_commonRepeated 9 = .ok (.getfield 51, 3) := by decide +kernel
theorem dX3_commonRepeated_12 : decode cX3_commonRepeated 12 = .ok (.if_icmp .ge 51, 3) := by decide +kernel
theorem dX3_commonRepeated_15 : decode cX3_commonRepeated 15 = .ok (.aload_n 0, 1) := by decide +kernel
theorem dX3_commonRepeated_16 : decode cX3_commonRepeated 16 = .ok (.getfield 12, 3) := by decide +kernel
theorem dX3_commonRepeated_19 : decode cX3_commonRepeated 19 = .ok (.iload_n 2, 1) := by decide +kernel
theorem dX3_commonRepeated_20 : decode cX3_commonRepeated 20 = .ok (.invokevirtual 75, 3) := by decide +kernel
theorem dX3_commonRepeated_23 : decode cX3_commonRepeated 23 = .ok (.istore_n 3, 1) := by decide +kernel
theorem dX3_commonRepeated_24 : decode cX3_commonRepeated 24 = .ok (.aload_n 0, 1) := by decide +kernel
theorem dX3_commonRepeated_25 : decode cX3_commonRepeated 25 = .ok (.getfield 12, 3) := by decide +kernel
theorem dX3_commonRepeated_28 : decode cX3_commonRepeated 28 = .ok (.iload_n 2, 1) := by decide +kernel
theorem dX3_commonRepeated_29 : decode cX3_commonRepeated 29 = .ok (.invokevirtual 200, 3) := by decide +kernel
theorem dX3_commonRepeated_32 : decode cX3_commonRepeated 32 = .ok (.ifCond .eq 25, 3) := by decide +kernel
theorem dX3_commonRepeated_35 : decode cX3_commonRepeated 35 = .ok (.iload_n 1, 1) := by decide +kernel
theorem dX3_commonRepeated_36 : decode cX3_commonRepeated 36 = .ok (.aload_n 0, 1) := by decide +kernel
theorem dX3_commonRepeated_37 : decode cX3_commonRepeated 37 = .ok (.getfield 12, 3) := by decide +kernel
theorem dX3_commonRepeated_40 : decode cX3_commonRepeated 40 = .ok (.iload_n 3, 1) := by decide +kernel
theorem dX3_commonRepeated_41 : decode cX3_commonRepeated 41 = .ok (.invokevirtual 203, 3) := by decide +kernel
theorem dX3_commonRepeated_44 : decode cX3_commonRepeated 44 = .ok (.aload_n 0, 1) := by decide +kernel
theorem dX3_commonRepeated_45 : decode cX3_commonRepeated 45 = .ok (.getfield 16, 3) := by decide +kernel
theorem dX3_commonRepeated_48 : decode cX3_commonRepeated 48 = .ok (.iload_n 3, 1) := by decide +kernel
theorem dX3_commonRepeated_49 : decode cX3_commonRepeated 49 = .ok (.invokevirtual 203, 3) := by decide +kernel
theorem dX3_commonRepeated_52 : decode cX3_commonRepeated 52 = .ok (.invokestatic 206, 3) := by decide +kernel
theorem dX3_commonRepeated_55 : decode cX3_commonRepeated 55 = .ok (.iadd, 1) := by decide +kernel
theorem dX3_commonRepeated_56 : decode cX3_commonRepeated 56 = .ok (.istore_n 1, 1) := by decide +kernel
theorem dX3_commonRepeated_57 : decode cX3_commonRepeated 57 = .ok (.iinc 2 1, 3) := by decide +kernel
theorem dX3_commonRepeated_60 : decode cX3_commonRepeated 60 = .ok (.goto (-56), 3) := by decide +kernel
theorem dX3_commonRepeated_63 : decode cX3_commonRepeated 63 = .ok (.iload_n 1, 1) := by decide +kernel
theorem dX3_commonRepeated_64 : decode cX3_commonRepeated 64 = .ok (.ireturn, 1) := by decide +kernel
theorem dX3_leastCommon_0 : decode cX3_leastCommon 0 = .ok (.iconst 0, 1) := by decide +kernel
theorem dX3_leastCommon_1 : decode cX3_leastCommon 1 = .ok (.istore_n 1, 1) := by decide +kernel
theorem dX3_leastCommon_2 : decode cX3_leastCommon 2 = .ok (.iload_n 1, 1) := by decide +kernel
theorem dX3_leastCommon_3 : decode cX3_leastCommon 3 = .ok (.aload_n 0, 1) := by decide +kernel
theorem dX3_leastCommon_4 : decode cX3_leastCommon 4 = .ok (.getfield 12, 3) := by decide +kernel
theorem dX3_leastCommon_7 : decode cX3_leastCommon 7 = .ok (.getfield 51, 3) := by decide +kernel
theorem dX3_leastCommon_10 : decode cX3_leastCommon 10 = .ok (.if_icmp .ge 31, 3) := by decide +kernel
theorem dX3_leastCommon_13 : decode cX3_leastCommon 13 = .ok (.aload_n 0, 1) := by decide +kernel
theorem dX3_leastCommon_14 : decode cX3_leastCommon 14 = .ok (.getfield 12, 3) := by decide +kernel
theorem dX3_leastCommon_17 : decode cX3_leastCommon 17 = .ok (.iload_n 1, 1) := by decide +kernel
theorem dX3_leastCommon_18 : decode cX3_leastCommon 18 = .ok (.invokevirtual 75, 3) := by decide +kernel
theorem dX3_leastCommon_21 : decode cX3_leastCommon 21 = .ok (.istore_n 2, 1) := by decide +kernel
theorem dX3_leastCommon_22 : decode cX3_leastCommon 22 = .ok (.aload_n 0, 1) := by decide +kernel
theorem dX3_leastCommon_23 : decode cX3_leastCommon 23 = .ok (.getfield 16, 3) := by decide +kernel
theorem dX3_leastCommon_26 : decode cX3_leastCommon 26 = .ok (.iload_n 2, 1) := by decide +kernel
theorem dX3_leastCommon_27 : decode cX3_leastCommon 27 = .ok (.invokevirtual 78, 3) := by decide +kernel
theorem dX3_leastCommon_30 : decode cX3_leastCommon 30 = .ok (.ifCond .eq 5, 3) := by decide +kernel
theorem dX3_leastCommon_33 : decode cX3_leastCommon 33 = .ok (.iload_n 2, 1) := by decide +kernel
theorem dX3_leastCommon_34 : decode cX3_leastCommon 34 = .ok (.ireturn, 1) := by decide +kernel
theorem dX3_leastCommon_35 : decode cX3_leastCommon 35 = .ok (.iinc 1 1, 3) := by decide +kernel
theorem dX3_leastCommon_38 : decode cX3_leastCommon 38 = .ok (.goto (-36), 3) := by decide +kernel
theorem dX3_leastCommon_41 : decode cX3_leastCommon 41 = .ok (.ldc 109, 2) := by decide +kernel
theorem dX3_leastCommon_43 : decode cX3_leastCommon 43 = .ok (.ireturn, 1) := by decide +kernel
theorem dX3_leastDifference_0 : decode cX3_leastDifference 0 = .ok (.aload_n 0, 1) := by decide +kernel
theorem dX3_leastDifference_1 : decode cX3_leastDifference 1 = .ok (.getfield 12, 3) := by decide +kernel
theorem dX3_leastDifference_4 : decode cX3_leastDifference 4 = .ok (.getfield 51, 3) := by decide +kernel
theorem dX3_leastDifference_7 : decode cX3_leastDifference 7 = .ok (.iconst 1, 1) := by decide +kernel
theorem dX3_leastDifference_8 : decode cX3_leastDifference 8 = .ok (.if_icmp .lt 14, 3) := by decide +kernel
theorem dX3_leastDifference_11 : decode cX3_leastDifference 11 = .ok (.aload_n 0, 1) := by decide +kernel
theorem dX3_leastDifference_12 : decode cX3_leastDifference 12 = .ok (.getfield 16, 3) := by decide +kernel
theorem dX3_leastDifference_15 : decode cX3_leastDifference 15 = .ok (.getfield 51, 3) := by decide +kernel
theorem dX3_leastDifference_18 : decode cX3_leastDifference 18 = .ok (.iconst 1, 1) := by decide +kernel
theorem dX3_leastDifference_19 : decode cX3_leastDifference 19 = .ok (.if_icmp .ge 6, 3) := by decide +kernel
theorem dX3_leastDifference_22 : decode cX3_leastDifference 22 = .ok (.ldc 109, 2) := by decide +kernel
theorem dX3_leastDifference_24 : decode cX3_leastDifference 24 = .ok (.ireturn, 1) := by decide +kernel
theorem dX3_leastDifference_25 : decode cX3_leastDifference 25 = .ok (.sipush 4095, 3) := by decide +kernel
theorem dX3_leastDifference_28 : decode cX3_leastDifference 28 = .ok (.istore_n 1, 1) := by decide +kernel
theorem dX3_leastDifference_29 : decode cX3_leastDifference 29 = .ok (.iconst 0, 1) := by decide +kernel
theorem dX3_leastDifference_30 : decode cX3_leastDifference 30 = .ok (.istore_n 2, 1) := by decide +kernel
theorem dX3_leastDifference_31 : decode cX3_leastDifference 31 = .ok (.iload_n 2, 1) := by decide +kernel
theorem dX3_leastDifference_32 : decode cX3_leastDifference 32 = .ok (.aload_n 0, 1) := by decide +kernel
theorem dX3_leastDifference_33 : decode cX3_leastDifference 33 = .ok (.getfield 12, 3) := by decide +kernel
theorem dX3_leastDifference_36 : decode cX3_leastDifference 36 = .ok (.getfield 51, 3) := by decide +kernel
theorem dX3_leastDifference_39 : decode cX3_leastDifference 39 = .ok (.if_icmp .ge 53, 3) := by decide +kernel
theorem dX3_leastDifference_42 : decode cX3_leastDifference 42 = .ok (.iconst 0, 1) := by decide +kernel
theorem dX3_leastDifference_43 : decode cX3_leastDifference 43 = .ok (.istore_n 3, 1) := by decide +kernel
theorem dX3_leastDifference_44 : decode cX3_leastDifference 44 = .ok (.iload_n 3, 1) := by decide +kernel
theorem dX3_leastDifference_45 : decode cX3_leastDifference 45 = .ok (.aload_n 0, 1) := by decide +kernel
theorem dX3_leastDifference_46 : decode cX3_leastDifference 46 = .ok (.getfield 16, 3) := by decide +kernel
theorem dX3_leastDifference_49 : decode cX3_leastDifference 49 = .ok (.getfield 51, 3) := by decide +kernel
theorem dX3_leastDifference_52 : decode cX3_leastDifference 52 = .ok (.if_icmp .ge 34, 3) := by decide +kernel
theorem dX3_leastDifference_55 : decode cX3_leastDifference 55 = .ok (.iload_n 1, 1) := by decide +kernel
theorem dX3_leastDifference_56 : decode cX3_leastDifference 56 = .ok (.aload_n 0, 1) := by decide +kernel
theorem dX3_leastDifference_57 : decode cX3_leastDifference 57 = .ok (.getfield 12, 3) := by decide +kernel
theorem dX3_leastDifference_60 : decode cX3_leastDifference 60 = .ok (.iload_n 2, 1) := by decide +kernel
theorem dX3_leastDifference_61 : decode cX3_leastDifference 61 = .ok (.invokevirtual 75, 3) := by decide +kernel
theorem dX3_leastDifference_64 : decode cX3_leastDifference 64 = .ok (.aload_n 0, 1) := by decide +kernel
theorem dX3_leastDifference_65 : decode cX3_leastDifference 65 = .ok (.getfield 16, 3) := by decide +kernel
theorem dX3_leastDifference_68 : decode cX3_leastDifference 68 = .ok (.iload_n 3, 1) := by decide +kernel
theorem dX3_leastDifference_69 : decode cX3_leastDifference 69 = .ok (.invokevirtual 75, 3) := by decide +kernel
theorem dX3_leastDifference_72 : decode cX3_leastDifference 72 = .ok (.isub, 1) := by decide +kernel
theorem dX3_leastDifference_73 : decode cX3_leastDifference 73 = .ok (.invokestatic 209, 3) := by decide +kernel
theorem dX3_leastDifference_76 : decode cX3_leastDifference 76 = .ok (.invokestatic 206, 3) := by decide +kernel
theorem dX3_leastDifference_79 : decode cX3_leastDifference 79 = .ok (.istore_n 1, 1) := by decide +kernel
theorem dX3_leastDifference_80 : decode cX3_leastDifference 80 = .ok (.iinc 3 1, 3) := by decide +kernel
theorem dX3_leastDifference_83 : decode cX3_leastDifference 83 = .ok (.goto (-39), 3) := by decide +kernel
theorem dX3_leastDifference_86 : decode cX3_leastDifference 86 = .ok (.iinc 2 1, 3) := by decide +kernel
theorem dX3_leastDifference_89 : decode cX3_leastDifference 89 = .ok (.goto (-58), 3) := by decide +kernel
theorem dX3_leastDifference_92 : decode cX3_leastDifference 92 = .ok (.iload_n 1, 1) := by decide +kernel
theorem dX3_leastDifference_93 : decode cX3_leastDifference 93 = .ok (.ireturn, 1) := by decide +kernel
theorem dX4_init_0 : decode cX4_init 0 = .ok (.aload_n 0, 1) := by decide +kernel
theorem dX4_init_1 : decode cX4_init 1 = .ok (.invokespecial 1, 3) := by decide +kernel
theorem dX4_init_4 : decode cX4_init 4 = .ok (.aload_n 0, 1) := by decide +kernel
theorem dX4_init_5 : decode cX4_init 5 = .ok (.bipush 84, 2) := by decide +kernel
theorem dX4_init_7 : decode cX4_init 7 = .ok (.newarray .int, 2) := by decide +kernel
theorem dX4_init_9 : decode cX4_init 9 = .ok (.putfield 7, 3) := by decide +kernel
theorem dX4_init_12 : decode cX4_init 12 = .ok (.aload_n 0, 1) := by decide +kernel
theorem dX4_init_13 : decode cX4_init 13 = .ok (.sipush 336, 3) := by decide +kernel
theorem dX4_init_16 : decode cX4_init 16 = .ok (.newarray .int, 2) := by decide +kernel
theorem dX4_init_18 : decode cX4_init 18 = .ok (.putfield 13, 3) := by decide +kernel
theorem dX4_init_21 : decode cX4_init 21 = .ok (.aload_n 0, 1) := by decide +kernel
theorem dX4_init_22 : decode cX4_init 22 = .ok (.bipush 84, 2) := by decide +kernel
theorem dX4_init_24 : decode cX4_init 24 = .ok (.newarray .int, 2) := by decide +kernel
theorem dX4_init_26 : decode cX4_init 26 = .ok (.putfield 16, 3) := by decide +kernel
theorem dX4_init_29 : decode cX4_init 29 = .ok (.aload_n 0, 1) := by decide +kernel
theorem dX4_init_30 : decode cX4_init 30 = .ok (.bipush 60, 2) := by decide +kernel
theorem dX4_init_32 : decode cX4_init 32 = .ok (.newarray .char, 2) := by decide +kernel
theorem dX4_init_34 : decode cX4_init 34 = .ok (.putfield 19, 3) := by decide +kernel
theorem dX4_init_37 : decode cX4_init 37 = .ok (.aload_n 0, 1) := by decide +kernel
theorem dX4_init_38 : decode cX4_init 38 = .ok (.bipush 41, 2) := by decide +kernel
theorem dX4_init_40 : decode cX4_init 40 = .ok (.newarray .int, 2) := by decide +kernel
theorem dX4_init_42 : decode cX4_init 42 = .ok (.putfield 23, 3) := by decide +kernel
theorem dX4_init_45 : decode cX4_init 45 = .ok (.aload_n 0, 1) := by decide +kernel
theorem dX4_init_46 : decode cX4_init 46 = .ok (.sipush 4200, 3) := by decide +kernel
theorem dX4_init_49 : decode cX4_init 49 = .ok (.newarray .int, 2) := by decide +kernel
theorem dX4_init_51 : decode cX4_init 51 = .ok (.putfield 26, 3) := by decide +kernel
theorem dX4_init_54 : decode cX4_init 54 = .ok (.aload_n 0, 1) := by decide +kernel
theorem dX4_init_55 : decode cX4_init 55 = .ok (.sipush 4200, 3) := by decide +kernel
theorem dX4_init_58 : decode cX4_init 58 = .ok (.newarray .int, 2) := by decide +kernel
theorem dX4_init_60 : decode cX4_init 60 = .ok (.putfield 29, 3) := by decide +kernel
theorem dX4_init_63 : decode cX4_init 63 = .ok (.aload_n 0, 1) := by decide +kernel
theorem dX4_init_64 : decode cX4_init 64 = .ok (.bipush 80, 2) := by decide +kernel
theorem dX4_init_66 : decode cX4_init 66 = .ok (.newarray .int, 2) := by decide +kernel
theorem dX4_init_68 : decode cX4_init 68 = .ok (.putfield 32, 3) := by decide +kernel
theorem dX4_init_71 : decode cX4_init 71 = .ok (.aload_n 0, 1) := by decide +kernel
theorem dX4_init_72 : decode cX4_init 72 = .ok (.getfield 7, 3) := by decide +kernel
theorem dX4_init_75 : decode cX4_init 75 = .ok (.iconst 1, 1) := by decide +kernel
theorem dX4_init_76 : decode cX4_init 76 = .ok (.sipush 1024, 3) := by decide +kernel
theorem dX4_init_79 : decode cX4_init 79 = .ok (.iastore, 1) := by decide +kernel
theorem dX4_init_80 : decode cX4_init 80 = .ok (.aload_n 0, 1) := by decide +kernel
theorem dX4_init_81 : decode cX4_init 81 = .ok (.getfield 7, 3) := by decide +kernel
theorem dX4_init_84 : decode cX4_init 84 = .ok (.bipush 43, 2) := by decide +kernel
theorem dX4_init_86 : decode cX4_init 86 = .ok (.sipush 1024, 3) := by decide +kernel
theorem dX4_init_89 : decode cX4_init 89 = .ok (.iastore, 1) := by decide +kernel
theorem dX4_init_90 : decode cX4_init 90 = .ok (.return_, 1) := by decide +kernel
theorem dX4_in_0 : decode cX4_in 0 = .ok (.iload_n 0, 1) := by decide +kernel
theorem dX4_in_1 : decode cX4_in 1 = .ok (.iload_n 1, 1) := by decide +kernel
theorem dX4_in_2 : decode cX4_in 2 = .ok (.if_icmp .lt 12, 3) := by decide +kernel
theorem dX4_in_5 : decode cX4_in 5 = .ok (.iload_n 0, 1) := by decide +kernel
theorem dX4_in_6 : decode cX4_in 6 = .ok (.iload_n 2, 1) := by decide +kernel
theorem dX4_in_7 : decode cX4_in 7 = .ok (.if_icmp .gt 7, 3) := by decide +kernel
theorem dX4_in_10 : decode cX4_in 10 = .ok (.iconst 1, 1) := by decide +kernel
theorem dX4_in_11 : decode cX4_in 11 = .ok (.goto 4, 3) := by decide +kernel
theorem dX4_in_14 : decode cX4_in 14 = .ok (.iconst 0, 1) := by decide +kernel
theorem dX4_in_15 : decode cX4_in 15 = .ok (.ireturn, 1) := by decide +kernel
theorem dX4_many_0 : decode cX4_many 0 = .ok (.aload_n 0, 1) := by decide +kernel
theorem dX4_many_1 : decode cX4_many 1 = .ok (.getfield 7, 3) := by decide +kernel
theorem dX4_many_4 : decode cX4_many 4 = .ok (.bipush 42, 2) := by decide +kernel
theorem dX4_many_6 : decode cX4_many 6 = .ok (.iload_n 1, 1) := by decide +kernel
theorem dX4_many_7 : decode cX4_many 7 = .ok (.imul, 1) := by decide +kernel
theorem dX4_many_8 : decode cX4_many 8 = .ok (.iaload, 1) := by decide +kernel
theorem dX4_many_9 : decode cX4_many 9 = .ok (.ireturn, 1) := by decide +kernel
theorem dX4_number_0 : decode cX4_number 0 = .ok (.aload_n 0, 1) := by decide +kernel
theorem dX4_number_1 : decode cX4_number 1 = .ok (.getfield 7, 3) := by decide +kernel
theorem dX4_number_4 : decode cX4_number 4 = .ok (.bipush 42, 2) := by decide +kernel
theorem dX4_number_6 : decode cX4_number 6 = .ok (.iload_n 1, 1) := by decide +kernel
theorem dX4_number_7 : decode cX4_number 7 = .ok (.imul, 1) := by decide +kernel
theorem dX4_number_8 : decode cX4_number 8 = .ok (.iconst 2, 1) := by decide +kernel
theorem dX4_number_9 : decode cX4_number 9 = .ok (.iadd, 1) := by decide +kernel
theorem dX4_number_10 : decode cX4_number 10 = .ok (.iload_n 2, 1) := by decide +kernel
theorem dX4_number_11 : decode cX4_number 11 = .ok (.iadd, 1) := by decide +kernel
theorem dX4_number_12 : decode cX4_number 12 = .ok (.iaload, 1) := by decide +kernel
theorem dX4_number_13 : decode cX4_number 13 = .ok (.ireturn, 1) := by decide +kernel
theorem dX4_keeps_0 : decode cX4_keeps 0 = .ok (.iconst 0, 1) := by decide +kernel
theorem dX4_keeps_1 : decode cX4_keeps 1 = .ok (.istore_n 1, 1) := by decide +kernel
theorem dX4_keeps_2 : decode cX4_keeps 2 = .ok (.iload_n 1, 1) := by decide +kernel
theorem dX4_keeps_3 : decode cX4_keeps 3 = .ok (.bipush 84, 2) := by decide +kernel
theorem dX4_keeps_5 : decode cX4_keeps 5 = .ok (.if_icmp .ge 21, 3) := by decide +kernel
theorem dX4_keeps_8 : decode cX4_keeps 8 = .ok (.aload_n 0, 1) := by decide +kernel
theorem dX4_keeps_9 : decode cX4_keeps 9 = .ok (.getfield 16, 3) := by decide +kernel
theorem dX4_keeps_12 : decode cX4_keeps 12 = .ok (.iload_n 1, 1) := by decide +kernel
theorem dX4_keeps_13 : decode cX4_keeps 13 = .ok (.aload_n 0, 1) := by decide +kernel
theorem dX4_keeps_14 : decode cX4_keeps 14 = .ok (.getfield 7, 3) := by decide +kernel
theorem dX4_keeps_17 : decode cX4_keeps 17 = .ok (.iload_n 1, 1) := by decide +kernel
theorem dX4_keeps_18 : decode cX4_keeps 18 = .ok (.iaload, 1) := by decide +kernel
theorem dX4_keeps_19 : decode cX4_keeps 19 = .ok (.iastore, 1) := by decide +kernel
theorem dX4_keeps_20 : decode cX4_keeps 20 = .ok (.iinc 1 1, 3) := by decide +kernel
theorem dX4_keeps_23 : decode cX4_keeps 23 = .ok (.goto (-21), 3) := by decide +kernel
theorem dX4_keeps_26 : decode cX4_keeps 26 = .ok (.return_, 1) := by decide +kernel
theorem dX4_acted_0 : decode cX4_acted 0 = .ok (.iload_n 1, 1) := by decide +kernel
theorem dX4_acted_1 : decode cX4_acted 1 = .ok (.ldc 35, 2) := by decide +kernel
theorem dX4_acted_3 : decode cX4_acted 3 = .ok (.if_icmp .le 95, 3) := by decide +kernel
theorem dX4_acted_6 : decode cX4_acted 6 = .ok (.aload_n 0, 1) := by decide +kernel
theorem dX4_acted_7 : decode cX4_acted 7 = .ok (.getfield 36, 3) := by decide +kernel
theorem dX4_acted_10 : decode cX4_acted 10 = .ok (.iconst 4, 1) := by decide +kernel
theorem dX4_acted_11 : decode cX4_acted 11 = .ok (.if_icmp .ne 43, 3) := by decide +kernel
theorem dX4_acted_14 : decode cX4_acted 14 = .ok (.iconst 0, 1) := by decide +kernel
theorem dX4_acted_15 : decode cX4_acted 15 = .ok (.istore_n 2, 1) := by decide +kernel
theorem dX4_acted_16 : decode cX4_acted 16 = .ok (.iload_n 2, 1) := by decide +kernel
theorem dX4_acted_17 : decode cX4_acted 17 = .ok (.sipush 252, 3) := by decide +kernel
theorem dX4_acted_20 : decode cX4_acted 20 = .ok (.if_icmp .ge 24, 3) := by decide +kernel
theorem dX4_acted_23 : decode cX4_acted 23 = .ok (.aload_n 0, 1) := by decide +kernel
theorem dX4_acted_24 : decode cX4_acted 24 = .ok (.getfield 13, 3) := by decide +kernel
theorem dX4_acted_27 : decode cX4_acted 27 = .ok (.iload_n 2, 1) := by decide +kernel
theorem dX4_acted_28 : decode cX4_acted 28 = .ok (.aload_n 0, 1) := by decide +kernel
theorem dX4_acted_29 : decode cX4_acted 29 = .ok (.getfield 13, 3) := by decide +kernel
theorem dX4_acted_32 : decode cX4_acted 32 = .ok (.iload_n 2, 1) := by decide +kernel
theorem dX4_acted_33 : decode cX4_acted 33 = .ok (.bipush 84, 2) := by decide +kernel
theorem dX4_acted_35 : decode cX4_acted 35 = .ok (.iadd, 1) := by decide +kernel
theorem dX4_acted_36 : decode cX4_acted 36 = .ok (.iaload, 1) := by decide +kernel
theorem dX4_acted_37 : decode cX4_acted 37 = .ok (.iastore, 1) := by decide +kernel
theorem dX4_acted_38 : decode cX4_acted 38 = .ok (.iinc 2 1, 3) := by decide +kernel
theorem dX4_acted_41 : decode cX4_acted 41 = .ok (.goto (-25), 3) := by decide +kernel
theorem dX4_acted_44 : decode cX4_acted 44 = .ok (.aload_n 0, 1) := by decide +kernel
theorem dX4_acted_45 : decode cX4_acted 45 = .ok (.dup, 1) := by decide +kernel
theorem dX4_acted_46 : decode cX4_acted 46 = .ok (.getfield 36, 3) := by decide +kernel
theorem dX4_acted_49 : decode cX4_acted 49 = .ok (.iconst 1, 1) := by decide +kernel
theorem dX4_acted_50 : decode cX4_acted 50 = .ok (.isub, 1) := by decide +kernel
theorem dX4_acted_51 : decode cX4_acted 51 = .ok (.putfield 36, 3) := by decide +kernel
theorem dX4_acted_54 : decode cX4_acted 54 = .ok (.iconst 0, 1) := by decide +kernel
theorem dX4_acted_55 : decode cX4_acted 55 = .ok (.istore_n 2, 1) := by decide +kernel
theorem dX4_acted_56 : decode cX4_acted 56 = .ok (.iload_n 2, 1) := by decide +kernel
theorem dX4_acted_57 : decode cX4_acted 57 = .ok (.bipush 84, 2) := by decide +kernel
theorem dX4_acted_59 : decode cX4_acted 59 = .ok (.if_icmp .ge 29, 3) := by decide +kernel
theorem dX4_acted_62 : decode cX4_acted 62 = .ok (.aload_n 0, 1) := by decide +kernel
theorem dX4_acted_63 : decode cX4_acted 63 = .ok (.getfield 13, 3) := by decide +kernel
theorem dX4_acted_66 : decode cX4_acted 66 = .ok (.bipush 84, 2) := by decide +kernel
theorem dX4_acted_68 : decode cX4_acted 68 = .ok (.aload_n 0, 1) := by decide +kernel
theorem dX4_acted_69 : decode cX4_acted 69 = .ok (.getfield 36, 3) := by decide +kernel
theorem dX4_acted_72 : decode cX4_acted 72 = .ok (.imul, 1) := by decide +kernel
theorem dX4_acted_73 : decode cX4_acted 73 = .ok (.iload_n 2, 1) := by decide +kernel
theorem dX4_acted_74 : decode cX4_acted 74 = .ok (.iadd, 1) := by decide +kernel
theorem dX4_acted_75 : decode cX4_acted 75 = .ok (.aload_n 0, 1) := by decide +kernel
theorem dX4_acted_76 : decode cX4_acted 76 = .ok (.getfield 16, 3) := by decide +kernel
theorem dX4_acted_79 : decode cX4_acted 79 = .ok (.iload_n 2, 1) := by decide +kernel
theorem dX4_acted_80 : decode cX4_acted 80 = .ok (.iaload, 1) := by decide +kernel
theorem dX4_acted_81 : decode cX4_acted 81 = .ok (.iastore, 1) := by decide +kernel
theorem dX4_acted_82 : decode cX4_acted 82 = .ok (.iinc 2 1, 3) := by decide +kernel
theorem dX4_acted_85 : decode cX4_acted 85 = .ok (.goto (-29), 3) := by decide +kernel
theorem dX4_acted_88 : decode cX4_acted 88 = .ok (.aload_n 0, 1) := by decide +kernel
theorem dX4_acted_89 : decode cX4_acted 89 = .ok (.dup, 1) := by decide +kernel
theorem dX4_acted_90 : decode cX4_acted 90 = .ok (.getfield 36, 3) := by decide +kernel
theorem dX4_acted_93 : decode cX4_acted 93 = .ok (.iconst 1, 1) := by decide +kernel
theorem dX4_acted_94 : decode cX4_acted 94 = .ok (.iadd, 1) := by decide +kernel
theorem dX4_acted_95 : decode cX4_acted 95 = .ok (.putfield 36, 3) := by decide +kernel
theorem dX4_acted_98 : decode cX4_acted 98 = .ok (.iload_n 1, 1) := by decide +kernel
theorem dX4_acted_99 : decode cX4_acted 99 = .ok (.ireturn, 1) := by decide +kernel
theorem dX4_less_0 : decode cX4_less 0 = .ok (.iconst 0, 1) := by decide +kernel
theorem dX4_less_1 : decode cX4_less 1 = .ok (.istore_n 3, 1) := by decide +kernel
theorem dX4_less_2 : decode cX4_less 2 = .ok (.iload_n 3, 1) := by decide +kernel
theorem dX4_less_3 : decode cX4_less 3 = .ok (.aload_n 0, 1) := by decide +kernel
theorem dX4_less_4 : decode cX4_less 4 = .ok (.iload_n 1, 1) := by decide +kernel
theorem dX4_less_5 : decode cX4_less 5 = .ok (.invokevirtual 40, 3) := by decide +kernel
theorem dX4_less_8 : decode cX4_less 8 = .ok (.if_icmp .ge 19, 3) := by decide +kernel
theorem dX4_less_11 : decode cX4_less 11 = .ok (.aload_n 0, 1) := by decide +kernel
theorem dX4_less_12 : decode cX4_less 12 = .ok (.iload_n 1, 1) := by decide +kernel
theorem dX4_less_13 : decode cX4_less 13 = .ok (.iload_n 3, 1) := by decide +kernel
theorem dX4_less_14 : decode cX4_less 14 = .ok (.invokevirtual 44, 3) := by decide +kernel
theorem dX4_less_17 : decode cX4_less 17 = .ok (.iload_n 2, 1) := by decide +kernel
theorem dX4_less_18 : decode cX4_less 18 = .ok (.if_icmp .ge 9, 3) := by decide +kernel
theorem dX4_less_21 : decode cX4_less 21 = .ok (.iinc 3 1, 3) := by decide +kernel
theorem dX4_less_24 : decode cX4_less 24 = .ok (.goto (-22), 3) := by decide +kernel
theorem dX4_less_27 : decode cX4_less 27 = .ok (.iload_n 3, 1) := by decide +kernel
theorem dX4_less_28 : decode cX4_less 28 = .ok (.ireturn, 1) := by decide +kernel
theorem dX4_add_0 : decode cX4_add 0 = .ok (.iload_n 1, 1) := by decide +kernel
theorem dX4_add_1 : decode cX4_add 1 = .ok (.iconst 0, 1) := by decide +kernel
theorem dX4_add_2 : decode cX4_add 2 = .ok (.iconst 1, 1) := by decide +kernel
theorem dX4_add_3 : decode cX4_add 3 = .ok (.invokestatic 48, 3) := by decide +kernel
theorem dX4_add_6 : decode cX4_add 6 = .ok (.ifCond .eq 14, 3) := by decide +kernel
theorem dX4_add_9 : decode cX4_add 9 = .ok (.iload_n 2, 1) := by decide +kernel
theorem dX4_add_10 : decode cX4_add 10 = .ok (.iconst 0, 1) := by decide +kernel
theorem dX4_add_11 : decode cX4_add 11 = .ok (.sipush 4095, 3) := by decide +kernel
theorem dX4_add_14 : decode cX4_add 14 = .ok (.invokestatic 48, 3) := by decide +kernel
theorem dX4_add_17 : decode cX4_add 17 = .ok (.ifCond .ne 6, 3) := by decide +kernel
theorem dX4_add_20 : decode cX4_add 20 = .ok (.ldc 35, 2) := by decide +kernel
theorem dX4_add_22 : decode cX4_add 22 = .ok (.ireturn, 1) := by decide +kernel
theorem dX4_add_23 : decode cX4_add 23 = .ok (.iload_n 2, 1) := by decide +kernel
theorem dX4_add_24 : decode cX4_add 24 = .ok (.aload_n 0, 1) := by decide +kernel
theorem dX4_add_25 : decode cX4_add 25 = .ok (.getfield 7, 3) := by decide +kernel
theorem dX4_add_28 : decode cX4_add 28 = .ok (.bipush 42, 2) := by decide +kernel
theorem dX4_add_30 : decode cX4_add 30 = .ok (.iload_n 1, 1) := by decide +kernel
theorem dX4_add_31 : decode cX4_add 31 = .ok (.imul, 1) := by decide +kernel
theorem dX4_add_32 : decode cX4_add 32 = .ok (.iconst 1, 1) := by decide +kernel
theorem dX4_add_33 : decode cX4_add 33 = .ok (.iadd, 1) := by decide +kernel
theorem dX4_add_34 : decode cX4_add 34 = .ok (.iaload, 1) := by decide +kernel
theorem dX4_add_35 : decode cX4_add 35 = .ok (.if_icmp .lt 6, 3) := by decide +kernel
theorem dX4_add_38 : decode cX4_add 38 = .ok (.ldc 52, 2) := by decide +kernel
theorem dX4_add_40 : decode cX4_add 40 = .ok (.ireturn, 1) := by decide +kernel
theorem dX4_add_41 : decode cX4_add 41 = .ok (.aload_n 0, 1) := by decide +kernel
theorem dX4_add_42 : decode cX4_add 42 = .ok (.iload_n 1, 1) := by decide +kernel
theorem dX4_add_43 : decode cX4_add 43 = .ok (.invokevirtual 40, 3) := by decide +kernel
theorem dX4_add_46 : decode cX4_add 46 = .ok (.bipush 40, 2) := by decide +kernel
theorem dX4_add_48 : decode cX4_add 48 = .ok (.if_icmp .ne 6, 3) := by decide +kernel
theorem dX4_add_51 : decode cX4_add 51 = .ok (.ldc 53, 2) := by decide +kernel
theorem dX4_add_53 : decode cX4_add 53 = .ok (.ireturn, 1) := by decide +kernel
theorem dX4_add_54 : decode cX4_add 54 = .ok (.aload_n 0, 1) := by decide +kernel
theorem dX4_add_55 : decode cX4_add 55 = .ok (.invokevirtual 54, 3) := by decide +kernel
theorem dX4_add_58 : decode cX4_add 58 = .ok (.aload_n 0, 1) := by decide +kernel
theorem dX4_add_59 : decode cX4_add 59 = .ok (.iload_n 1, 1) := by decide +kernel
theorem dX4_add_60 : decode cX4_add 60 = .ok (.iload_n 2, 1) := by decide +kernel
theorem dX4_add_61 : decode cX4_add 61 = .ok (.iconst 1, 1) := by decide +kernel
theorem dX4_add_62 : decode cX4_add 62 = .ok (.iadd, 1) := by decide +kernel
theorem dX4_add_63 : decode cX4_add 63 = .ok (.invokevirtual 57, 3) := by decide +kernel
theorem dX4_add_66 : decode cX4_add 66 = .ok (.istore_n 3, 1) := by decide +kernel
theorem dX4_add_67 : decode cX4_add 67 = .ok (.aload_n 0, 1) := by decide +kernel
theorem dX4_add_68 : decode cX4_add 68 = .ok (.iload_n 1, 1) := by decide +kernel
theorem dX4_add_69 : decode cX4_add 69 = .ok (.invokevirtual 40, 3) := by decide +kernel
theorem dX4_add_72 : decode cX4_add 72 = .ok (.istore 4, 2) := by decide +kernel
theorem dX4_add_74 : decode cX4_add 74 = .ok (.iload 4, 2) := by decide +kernel
theorem dX4_add_76 : decode cX4_add 76 = .ok (.iload_n 3, 1) := by decide +kernel
theorem dX4_add_77 : decode cX4_add 77 = .ok (.if_icmp .le 32, 3) := by decide +kernel
theorem dX4_add_80 : decode cX4_add 80 = .ok (.aload_n 0, 1) := by decide +kernel
theorem dX4_add_81 : decode cX4_add 81 = .ok (.getfield 7, 3) := by decide +kernel
theorem dX4_add_84 : decode cX4_add 84 = .ok (.bipush 42, 2) := by decide +kernel
theorem dX4_add_86 : decode cX4_add 86 = .ok (.iload_n 1, 1) := by decide +kernel
theorem dX4_add_87 : decode cX4_add 87 = .ok (.imul, 1) := by decide +kernel
theorem dX4_add_88 : decode cX4_add 88 = .ok (.iconst 2, 1) := by decide +kernel
theorem dX4_add_89 : decode cX4_add 89 = .ok (.iadd, 1) := by decide +kernel
theorem dX4_add_90 : decode cX4_add 90 = .ok (.iload 4, 2) := by decide +kernel
theorem dX4_add_92 : decode cX4_add 92 = .ok (.iadd, 1) := by decide +kernel
theorem dX4_add_93 : decode cX4_add 93 = .ok (.aload_n 0, 1) := by decide +kernel
theorem dX4_add_94 : decode cX4_add 94 = .ok (.iload_n 1, 1) := by decide +kernel
theorem dX4_add_95 : decode cX4_add 95 = .ok (.iload 4, 2) := by decide +kernel
theorem dX4_add_97 : decode cX4_add 97 = .ok (.iconst 1, 1) := by decide +kernel
theorem dX4_add_98 : decode cX4_add 98 = .ok (.isub, 1) := by decide +kernel
theorem dX4_add_99 : decode cX4_add 99 = .ok (.invokevirtual 44, 3) := by decide +kernel
theorem dX4_add_102 : decode cX4_add 102 = .ok (.iastore, 1) := by decide +kernel
theorem dX4_add_103 : decode cX4_add 103 = .ok (.iinc 4 (-1), 3) := by decide +kernel
theorem dX4_add_106 : decode cX4_add 106 = .ok (.goto (-32), 3) := by decide +kernel
theorem dX4_add_109 : decode cX4_add 109 = .ok (.aload_n 0, 1) := by decide +kernel
theorem dX4_add_110 : decode cX4_add 110 = .ok (.getfield 7, 3) := by decide +kernel
theorem dX4_add_113 : decode cX4_add 113 = .ok (.bipush 42, 2) := by decide +kernel
theorem dX4_add_115 : decode cX4_add 115 = .ok (.iload_n 1, 1) := by decide +kernel
theorem dX4_add_116 : decode cX4_add 116 = .ok (.imul, 1) := by decide +kernel
theorem dX4_add_117 : decode cX4_add 117 = .ok (.iconst 2, 1) := by decide +kernel
theorem dX4_add_118 : decode cX4_add 118 = .ok (.iadd, 1) := by decide +kernel
theorem dX4_add_119 : decode cX4_add 119 = .ok (.iload_n 3, 1) := by decide +kernel
theorem dX4_add_120 : decode cX4_add 120 = .ok (.iadd, 1) := by decide +kernel
theorem dX4_add_121 : decode cX4_add 121 = .ok (.iload_n 2, 1) := by decide +kernel
theorem dX4_add_122 : decode cX4_add 122 = .ok (.iastore, 1) := by decide +kernel
theorem dX4_add_123 : decode cX4_add 123 = .ok (.aload_n 0, 1) := by decide +kernel
theorem dX4_add_124 : decode cX4_add 124 = .ok (.getfield 7, 3) := by decide +kernel
theorem dX4_add_127 : decode cX4_add 127 = .ok (.bipush 42, 2) := by decide +kernel
theorem dX4_add_129 : decode cX4_add 129 = .ok (.iload_n 1, 1) := by decide +kernel
theorem dX4_add_130 : decode cX4_add 130 = .ok (.imul, 1) := by decide +kernel
theorem dX4_add_131 : decode cX4_add 131 = .ok (.dup2, 1) := by decide +kernel
theorem dX4_add_132 : decode cX4_add 132 = .ok (.iaload, 1) := by decide +kernel
theorem dX4_add_133 : decode cX4_add 133 = .ok (.iconst 1, 1) := by decide +kernel
theorem dX4_add_134 : decode cX4_add 134 = .ok (.iadd, 1) := by decide +kernel
theorem dX4_add_135 : decode cX4_add 135 = .ok (.iastore, 1) := by decide +kernel
theorem dX4_add_136 : decode cX4_add 136 = .ok (.aload_n 0, 1) := by decide +kernel
theorem dX4_add_137 : decode cX4_add 137 = .ok (.iload_n 3, 1) := by decide +kernel
theorem dX4_add_138 : decode cX4_add 138 = .ok (.invokevirtual 60, 3) := by decide +kernel
theorem dX4_add_141 : decode cX4_add 141 = .ok (.ireturn, 1) := by decide +kernel
theorem dX4_drop_0 : decode cX4_drop 0 = .ok (.iload_n 1, 1) := by decide +kernel
theorem dX4_drop_1 : decode cX4_drop 1 = .ok (.iconst 0, 1) := by decide +kernel
theorem dX4_drop_2 : decode cX4_drop 2 = .ok (.iconst 1, 1) := by decide +kernel
theorem dX4_drop_3 : decode cX4_drop 3 = .ok (.invokestatic 48, 3) := by decide +kernel
theorem dX4_drop_6 : decode cX4_drop 6 = .ok (.ifCond .eq 7, 3) := by decide +kernel
theorem dX4_drop_9 : decode cX4_drop 9 = .ok (.iload_n 2, 1) := by decide +kernel
theorem dX4_drop_10 : decode cX4_drop 10 = .ok (.ifCond .ge 6, 3) := by decide +kernel
theorem dX4_drop_13 : decode cX4_drop 13 = .ok (.ldc 35, 2) := by decide +kernel
theorem dX4_drop_15 : decode cX4_drop 15 = .ok (.ireturn, 1) := by decide +kernel
theorem dX4_drop_16 : decode cX4_drop 16 = .ok (.iload_n 2, 1) := by decide +kernel
theorem dX4_drop_17 : decode cX4_drop 17 = .ok (.aload_n 0, 1) := by decide +kernel
theorem dX4_drop_18 : decode cX4_drop 18 = .ok (.iload_n 1, 1) := by decide +kernel
theorem dX4_drop_19 : decode cX4_drop 19 = .ok (.invokevirtual 40, 3) := by decide +kernel
theorem dX4_drop_22 : decode cX4_drop 22 = .ok (.if_icmp .lt 6, 3) := by decide +kernel
theorem dX4_drop_25 : decode cX4_drop 25 = .ok (.ldc 52, 2) := by decide +kernel
theorem dX4_drop_27 : decode cX4_drop 27 = .ok (.ireturn, 1) := by decide +kernel
theorem dX4_drop_28 : decode cX4_drop 28 = .ok (.aload_n 0, 1) := by decide +kernel
theorem dX4_drop_29 : decode cX4_drop 29 = .ok (.invokevirtual 54, 3) := by decide +kernel
theorem dX4_drop_32 : decode cX4_drop 32 = .ok (.aload_n 0, 1) := by decide +kernel
theorem dX4_drop_33 : decode cX4_drop 33 = .ok (.iload_n 1, 1) := by decide +kernel
theorem dX4_drop_34 : decode cX4_drop 34 = .ok (.iload_n 2, 1) := by decide +kernel
theorem dX4_drop_35 : decode cX4_drop 35 = .ok (.invokevirtual 44, 3) := by decide +kernel
theorem dX4_drop_38 : decode cX4_drop 38 = .ok (.istore_n 3, 1) := by decide +kernel
theorem dX4_drop_39 : decode cX4_drop 39 = .ok (.aload_n 0, 1) := by decide +kernel
theorem dX4_drop_40 : decode cX4_drop 40 = .ok (.getfield 7, 3) := by decide +kernel
theorem dX4_drop_43 : decode cX4_drop 43 = .ok (.bipush 42, 2) := by decide +kernel
theorem dX4_drop_45 : decode cX4_drop 45 = .ok (.iload_n 1, 1) := by decide +kernel
theorem dX4_drop_46 : decode cX4_drop 46 = .ok (.imul, 1) := by decide +kernel
theorem dX4_drop_47 : decode cX4_drop 47 = .ok (.dup2, 1) := by decide +kernel
theorem dX4_drop_48 : decode cX4_drop 48 = .ok (.iaload, 1) := by decide +kernel
theorem dX4_drop_49 : decode cX4_drop 49 = .ok (.iconst 1, 1) := by decide +kernel
theorem dX4_drop_50 : decode cX4_drop 50 = .ok (.isub, 1) := by decide +kernel
theorem dX4_drop_51 : decode cX4_drop 51 = .ok (.iastore, 1) := by decide +kernel
theorem dX4_drop_52 : decode cX4_drop 52 = .ok (.iload_n 2, 1) := by decide +kernel
theorem dX4_drop_53 : decode cX4_drop 53 = .ok (.istore 4, 2) := by decide +kernel
theorem dX4_drop_55 : decode cX4_drop 55 = .ok (.iload 4, 2) := by decide +kernel
theorem dX4_drop_57 : decode cX4_drop 57 = .ok (.aload_n 0, 1) := by decide +kernel
theorem dX4_drop_58 : decode cX4_drop 58 = .ok (.iload_n 1, 1) := by decide +kernel
theorem dX4_drop_59 : decode cX4_drop 59 = .ok (.invokevirtual 40, 3) := by decide +kernel
theorem dX4_drop_62 : decode cX4_drop 62 = .ok (.if_icmp .ge 32, 3) := by decide +kernel
theorem dX4_drop_65 : decode cX4_drop 65 = .ok (.aload_n 0, 1) := by decide +kernel
theorem dX4_drop_66 : decode cX4_drop 66 = .ok (.getfield 7, 3) := by decide +kernel
theorem dX4_drop_69 : decode cX4_drop 69 = .ok (.bipush 42, 2) := by decide +kernel
theorem dX4_drop_71 : decode cX4_drop 71 = .ok (.iload_n 1, 1) := by decide +kernel
theorem dX4_drop_72 : decode cX4_drop 72 = .ok (.imul, 1) := by decide +kernel
theorem dX4_drop_73 : decode cX4_drop 73 = .ok (.iconst 2, 1) := by decide +kernel
theorem dX4_drop_74 : decode cX4_drop 74 = .ok (.iadd, 1) := by decide +kernel
theorem dX4_drop_75 : decode cX4_drop 75 = .ok (.iload 4, 2) := by decide +kernel
theorem dX4_drop_77 : decode cX4_drop 77 = .ok (.iadd, 1) := by decide +kernel
theorem dX4_drop_78 : decode cX4_drop 78 = .ok (.aload_n 0, 1) := by decide +kernel
theorem dX4_drop_79 : decode cX4_drop 79 = .ok (.iload_n 1, 1) := by decide +kernel
theorem dX4_drop_80 : decode cX4_drop 80 = .ok (.iload 4, 2) := by decide +kernel
theorem dX4_drop_82 : decode cX4_drop 82 = .ok (.iconst 1, 1) := by decide +kernel
theorem dX4_drop_83 : decode cX4_drop 83 = .ok (.iadd, 1) := by decide +kernel
theorem dX4_drop_84 : decode cX4_drop 84 = .ok (.invokevirtual 44, 3) := by decide +kernel
theorem dX4_drop_87 : decode cX4_drop 87 = .ok (.iastore, 1) := by decide +kernel
theorem dX4_drop_88 : decode cX4_drop 88 = .ok (.iinc 4 1, 3) := by decide +kernel
theorem dX4_drop_91 : decode cX4_drop 91 = .ok (.goto (-36), 3) := by decide +kernel
theorem dX4_drop_94 : decode cX4_drop 94 = .ok (.aload_n 0, 1) := by decide +kernel
theorem dX4_drop_95 : decode cX4_drop 95 = .ok (.iload_n 3, 1) := by decide +kernel
theorem dX4_drop_96 : decode cX4_drop 96 = .ok (.invokevirtual 60, 3) := by decide +kernel
theorem dX4_drop_99 : decode cX4_drop 99 = .ok (.ireturn, 1) := by decide +kernel
theorem dX4_bound_0 : decode cX4_bound 0 = .ok (.iload_n 1, 1) := by decide +kernel
theorem dX4_bound_1 : decode cX4_bound 1 = .ok (.iconst 0, 1) := by decide +kernel
theorem dX4_bound_2 : decode cX4_bound 2 = .ok (.iconst 1, 1) := by decide +kernel
theorem dX4_bound_3 : decode cX4_bound 3 = .ok (.invokestatic 48, 3) := by decide +kernel
theorem dX4_bound_6 : decode cX4_bound 6 = .ok (.ifCond .eq 14, 3) := by decide +kernel
theorem dX4_bound_9 : decode cX4_bound 9 = .ok (.iload_n 2, 1) := by decide +kernel
theorem dX4_bound_10 : decode cX4_bound 10 = .ok (.iconst 2, 1) := by decide +kernel
theorem dX4_bound_11 : decode cX4_bound 11 = .ok (.sipush 4096, 3) := by decide +kernel
theorem dX4_bound_14 : decode cX4_bound 14 = .ok (.invokestatic 48, 3) := by decide +kernel
theorem dX4_bound_17 : decode cX4_bound 17 = .ok (.ifCond .ne 6, 3) := by decide +kernel
theorem dX4_bound_20 : decode cX4_bound 20 = .ok (.ldc 35, 2) := by decide +kernel
theorem dX4_bound_22 : decode cX4_bound 22 = .ok (.ireturn, 1) := by decide +kernel
theorem dX4_bound_23 : decode cX4_bound 23 = .ok (.aload_n 0, 1) := by decide +kernel
theorem dX4_bound_24 : decode cX4_bound 24 = .ok (.iload_n 1, 1) := by decide +kernel
theorem dX4_bound_25 : decode cX4_bound 25 = .ok (.invokevirtual 40, 3) := by decide +kernel
theorem dX4_bound_28 : decode cX4_bound 28 = .ok (.ifCond .le 22, 3) := by decide +kernel
theorem dX4_bound_31 : decode cX4_bound 31 = .ok (.aload_n 0, 1) := by decide +kernel
theorem dX4_bound_32 : decode cX4_bound 32 = .ok (.iload_n 1, 1) := by decide +kernel
theorem dX4_bound_33 : decode cX4_bound 33 = .ok (.aload_n 0, 1) := by decide +kernel
theorem dX4_bound_34 : decode cX4_bound 34 = .ok (.iload_n 1, 1) := by decide +kernel
theorem dX4_bound_35 : decode cX4_bound 35 = .ok (.invokevirtual 40, 3) := by decide +kernel
theorem dX4_bound_38 : decode cX4_bound 38 = .ok (.iconst 1, 1) := by decide +kernel
theorem dX4_bound_39 : decode cX4_bound 39 = .ok (.isub, 1) := by decide +kernel
theorem dX4_bound_40 : decode cX4_bound 40 = .ok (.invokevirtual 44, 3) := by decide +kernel
theorem dX4_bound_43 : decode cX4_bound 43 = .ok (.iload_n 2, 1) := by decide +kernel
theorem dX4_bound_44 : decode cX4_bound 44 = .ok (.if_icmp .lt 6, 3) := by decide +kernel
theorem dX4_bound_47 : decode cX4_bound 47 = .ok (.ldc 52, 2) := by decide +kernel
theorem dX4_bound_49 : decode cX4_bound 49 = .ok (.ireturn, 1) := by decide +kernel
theorem dX4_bound_50 : decode cX4_bound 50 = .ok (.aload_n 0, 1) := by decide +kernel
theorem dX4_bound_51 : decode cX4_bound 51 = .ok (.invokevirtual 54, 3) := by decide +kernel
theorem dX4_bound_54 : decode cX4_bound 54 = .ok (.aload_n 0, 1) := by decide +kernel
theorem dX4_bound_55 : decode cX4_bound 55 = .ok (.getfield 7, 3) := by decide +kernel
theorem dX4_bound_58 : decode cX4_bound 58 = .ok (.bipush 42, 2) := by decide +kernel
theorem dX4_bound_60 : decode cX4_bound 60 = .ok (.iload_n 1, 1) := by decide +kernel
theorem dX4_bound_61 : decode cX4_bound 61 = .ok (.imul, 1) := by decide +kernel
theorem dX4_bound_62 : decode cX4_bound 62 = .ok (.iconst 1, 1) := by decide +kernel
theorem dX4_bound_63 : decode cX4_bound 63 = .ok (.iadd, 1) := by decide +kernel
theorem dX4_bound_64 : decode cX4_bound 64 = .ok (.iaload, 1) := by decide +kernel
theorem dX4_bound_65 : decode cX4_bound 65 = .ok (.istore_n 3, 1) := by decide +kernel
theorem dX4_bound_66 : decode cX4_bound 66 = .ok (.aload_n 0, 1) := by decide +kernel
theorem dX4_bound_67 : decode cX4_bound 67 = .ok (.getfield 7, 3) := by decide +kernel
theorem dX4_bound_70 : decode cX4_bound 70 = .ok (.bipush 42, 2) := by decide +kernel
theorem dX4_bound_72 : decode cX4_bound 72 = .ok (.iload_n 1, 1) := by decide +kernel
theorem dX4_bound_73 : decode cX4_bound 73 = .ok (.imul, 1) := by decide +kernel
theorem dX4_bound_74 : decode cX4_bound 74 = .ok (.iconst 1, 1) := by decide +kernel
theorem dX4_bound_75 : decode cX4_bound 75 = .ok (.iadd, 1) := by decide +kernel
theorem dX4_bound_76 : decode cX4_bound 76 = .ok (.iload_n 2, 1) := by decide +kernel
theorem dX4_bound_77 : decode cX4_bound 77 = .ok (.iastore, 1) := by decide +kernel
theorem dX4_bound_78 : decode cX4_bound 78 = .ok (.aload_n 0, 1) := by decide +kernel
theorem dX4_bound_79 : decode cX4_bound 79 = .ok (.iload_n 3, 1) := by decide +kernel
theorem dX4_bound_80 : decode cX4_bound 80 = .ok (.invokevirtual 60, 3) := by decide +kernel
theorem dX4_bound_83 : decode cX4_bound 83 = .ok (.ireturn, 1) := by decide +kernel
theorem dX4_join_0 : decode cX4_join 0 = .ok (.iload_n 1, 1) := by decide +kernel
theorem dX4_join_1 : decode cX4_join 1 = .ok (.iconst 0, 1) := by decide +kernel
theorem dX4_join_2 : decode cX4_join 2 = .ok (.iconst 1, 1) := by decide +kernel
theorem dX4_join_3 : decode cX4_join 3 = .ok (.invokestatic 48, 3) := by decide +kernel
theorem dX4_join_6 : decode cX4_join 6 = .ok (.ifCond .ne 6, 3) := by decide +kernel
theorem dX4_join_9 : decode cX4_join 9 = .ok (.ldc 35, 2) := by decide +kernel
theorem dX4_join_11 : decode cX4_join 11 = .ok (.ireturn, 1) := by decide +kernel
theorem dX4_join_12 : decode cX4_join 12 = .ok (.iconst 0, 1) := by decide +kernel
theorem dX4_join_13 : decode cX4_join 13 = .ok (.istore_n 2, 1) := by decide +kernel
theorem dX4_join_14 : decode cX4_join 14 = .ok (.iconst 0, 1) := by decide +kernel
theorem dX4_join_15 : decode cX4_join 15 = .ok (.istore_n 3, 1) := by decide +kernel
theorem dX4_join_16 : decode cX4_join 16 = .ok (.iconst 0, 1) := by decide +kernel
theorem dX4_join_17 : decode cX4_join 17 = .ok (.istore 4, 2) := by decide +kernel
theorem dX4_join_19 : decode cX4_join 19 = .ok (.iload_n 3, 1) := by decide +kernel
theorem dX4_join_20 : decode cX4_join 20 = .ok (.aload_n 0, 1) := by decide +kernel
theorem dX4_join_21 : decode cX4_join 21 = .ok (.iconst 0, 1) := by decide +kernel
theorem dX4_join_22 : decode cX4_join 22 = .ok (.invokevirtual 40, 3) := by decide +kernel
theorem dX4_join_25 : decode cX4_join 25 = .ok (.if_icmp .lt 13, 3) := by decide +kernel
theorem dX4_join_28 : decode cX4_join 28 = .ok (.iload 4, 2) := by decide +kernel
theorem dX4_join_30 : decode cX4_join 30 = .ok (.aload_n 0, 1) := by decide +kernel
theorem dX4_join_31 : decode cX4_join 31 = .ok (.iconst 1, 1) := by decide +kernel
theorem dX4_join_32 : decode cX4_join 32 = .ok (.invokevirtual 40, 3) := by decide +kernel
theorem dX4_join_35 : decode cX4_join 35 = .ok (.if_icmp .ge 131, 3) := by decide +kernel
theorem dX4_join_38 : decode cX4_join 38 = .ok (.iload 4, 2) := by decide +kernel
theorem dX4_join_40 : decode cX4_join 40 = .ok (.aload_n 0, 1) := by decide +kernel
theorem dX4_join_41 : decode cX4_join 41 = .ok (.iconst 1, 1) := by decide +kernel
theorem dX4_join_42 : decode cX4_join 42 = .ok (.invokevirtual 40, 3) := by decide +kernel
theorem dX4_join_45 : decode cX4_join 45 = .ok (.if_icmp .eq 28, 3) := by decide +kernel
theorem dX4_join_48 : decode cX4_join 48 = .ok (.iload_n 3, 1) := by decide +kernel
theorem dX4_join_49 : decode cX4_join 49 = .ok (.aload_n 0, 1) := by decide +kernel
theorem dX4_join_50 : decode cX4_join 50 = .ok (.iconst 0, 1) := by decide +kernel
theorem dX4_join_51 : decode cX4_join 51 = .ok (.invokevirtual 40, 3) := by decide +kernel
theorem dX4_join_54 : decode cX4_join 54 = .ok (.if_icmp .ge 23, 3) := by decide +kernel
theorem dX4_join_57 : decode cX4_join 57 = .ok (.aload_n 0, 1) := by decide +kernel
theorem dX4_join_58 : decode cX4_join 58 = .ok (.iconst 0, 1) := by decide +kernel
theorem dX4_join_59 : decode cX4_join 59 = .ok (.iload_n 3, 1) := by decide +kernel
theorem dX4_join_60 : decode cX4_join 60 = .ok (.invokevirtual 44, 3) := by decide +kernel
theorem dX4_join_63 : decode cX4_join 63 = .ok (.aload_n 0, 1) := by decide +kernel
theorem dX4_join_64 : decode cX4_join 64 = .ok (.iconst 1, 1) := by decide +kernel
theorem dX4_join_65 : decode cX4_join 65 = .ok (.iload 4, 2) := by decide +kernel
theorem dX4_join_67 : decode cX4_join 67 = .ok (.invokevirtual 44, 3) := by decide +kernel
theorem dX4_join_70 : decode cX4_join 70 = .ok (.if_icmp .gt 7, 3) := by decide +kernel
theorem dX4_join_73 : decode cX4_join 73 = .ok (.iconst 1, 1) := by decide +kernel
theorem dX4_join_74 : decode cX4_join 74 = .ok (.goto 4, 3) := by decide +kernel
theorem dX4_join_77 : decode cX4_join 77 = .ok (.iconst 0, 1) := by decide +kernel
theorem dX4_join_78 : decode cX4_join 78 = .ok (.istore 5, 2) := by decide +kernel
theorem dX4_join_80 : decode cX4_join 80 = .ok (.iload 5, 2) := by decide +kernel
theorem dX4_join_82 : decode cX4_join 82 = .ok (.ifCond .eq 12, 3) := by decide +kernel
theorem dX4_join_85 : decode cX4_join 85 = .ok (.aload_n 0, 1) := by decide +kernel
theorem dX4_join_86 : decode cX4_join 86 = .ok (.iconst 0, 1) := by decide +kernel
theorem dX4_join_87 : decode cX4_join 87 = .ok (.iload_n 3, 1) := by decide +kernel
theorem dX4_join_88 : decode cX4_join 88 = .ok (.invokevirtual 44, 3) := by decide +kernel
theorem dX4_join_91 : decode cX4_join 91 = .ok (.goto 10, 3) := by decide +kernel
theorem dX4_join_94 : decode cX4_join 94 = .ok (.aload_n 0, 1) := by decide +kernel
theorem dX4_join_95 : decode cX4_join 95 = .ok (.iconst 1, 1) := by decide +kernel
theorem dX4_join_96 : decode cX4_join 96 = .ok (.iload 4, 2) := by decide +kernel
theorem dX4_join_98 : decode cX4_join 98 = .ok (.invokevirtual 44, 3) := by decide +kernel
theorem dX4_join_101 : decode cX4_join 101 = .ok (.istore 6, 2) := by decide +kernel
theorem dX4_join_103 : decode cX4_join 103 = .ok (.iload_n 3, 1) := by decide +kernel
theorem dX4_join_104 : decode cX4_join 104 = .ok (.iload 5, 2) := by decide +kernel
theorem dX4_join_106 : decode cX4_join 106 = .ok (.ifCond .eq 7, 3) := by decide +kernel
theorem dX4_join_109 : decode cX4_join 109 = .ok (.iconst 1, 1) := by decide +kernel
theorem dX4_join_110 : decode cX4_join 110 = .ok (.goto 4, 3) := by decide +kernel
theorem dX4_join_113 : decode cX4_join 113 = .ok (.iconst 0, 1) := by decide +kernel
theorem dX4_join_114 : decode cX4_join 114 = .ok (.iadd, 1) := by decide +kernel
theorem dX4_join_115 : decode cX4_join 115 = .ok (.istore_n 3, 1) := by decide +kernel
theorem dX4_join_116 : decode cX4_join 116 = .ok (.iload 4, 2) := by decide +kernel
theorem dX4_join_118 : decode cX4_join 118 = .ok (.iload 5, 2) := by decide +kernel
theorem dX4_join_120 : decode cX4_join 120 = .ok (.ifCond .eq 7, 3) := by decide +kernel
theorem dX4_join_123 : decode cX4_join 123 = .ok (.iconst 0, 1) := by decide +kernel
theorem dX4_join_124 : decode cX4_join 124 = .ok (.goto 4, 3) := by decide +kernel
theorem dX4_join_127 : decode cX4_join 127 = .ok (.iconst 1, 1) := by decide +kernel
theorem dX4_join_128 : decode cX4_join 128 = .ok (.iadd, 1) := by decide +kernel
theorem dX4_join_129 : decode cX4_join 129 = .ok (.istore 4, 2) := by decide +kernel
theorem dX4_join_131 : decode cX4_join 131 = .ok (.iload_n 1, 1) := by decide +kernel
theorem dX4_join_132 : decode cX4_join 132 = .ok (.ifCond .eq 20, 3) := by decide +kernel
theorem dX4_join_135 : decode cX4_join 135 = .ok (.iload_n 2, 1) := by decide +kernel
theorem dX4_join_136 : decode cX4_join 136 = .ok (.ifCond .eq 16, 3) := by decide +kernel
theorem dX4_join_139 : decode cX4_join 139 = .ok (.aload_n 0, 1) := by decide +kernel
theorem dX4_join_140 : decode cX4_join 140 = .ok (.getfield 32, 3) := by decide +kernel
theorem dX4_join_143 : decode cX4_join 143 = .ok (.iload_n 2, 1) := by decide +kernel
theorem dX4_join_144 : decode cX4_join 144 = .ok (.iconst 1, 1) := by decide +kernel
theorem dX4_join_145 : decode cX4_join 145 = .ok (.isub, 1) := by decide +kernel
theorem dX4_join_146 : decode cX4_join 146 = .ok (.iaload, 1) := by decide +kernel
theorem dX4_join_147 : decode cX4_join 147 = .ok (.iload 6, 2) := by decide +kernel
theorem dX4_join_149 : decode cX4_join 149 = .ok (.if_icmp .eq 14, 3) := by decide +kernel
theorem dX4_join_152 : decode cX4_join 152 = .ok (.aload_n 0, 1) := by decide +kernel
theorem dX4_join_153 : decode cX4_join 153 = .ok (.getfield 32, 3) := by decide +kernel
theorem dX4_join_156 : decode cX4_join 156 = .ok (.iload_n 2, 1) := by decide +kernel
theorem dX4_join_157 : decode cX4_join 157 = .ok (.iload 6, 2) := by decide +kernel
theorem dX4_join_159 : decode cX4_join 159 = .ok (.iastore, 1) := by decide +kernel
theorem dX4_join_160 : decode cX4_join 160 = .ok (.iinc 2 1, 3) := by decide +kernel
theorem dX4_join_163 : decode cX4_join 163 = .ok (.goto (-144), 3) := by decide +kernel
theorem dX4_join_166 : decode cX4_join 166 = .ok (.iload_n 2, 1) := by decide +kernel
theorem dX4_join_167 : decode cX4_join 167 = .ok (.bipush 40, 2) := by decide +kernel
theorem dX4_join_169 : decode cX4_join 169 = .ok (.if_icmp .le 6, 3) := by decide +kernel
theorem dX4_join_172 : decode cX4_join 172 = .ok (.ldc 53, 2) := by decide +kernel
theorem dX4_join_174 : decode cX4_join 174 = .ok (.ireturn, 1) := by decide +kernel
theorem dX4_join_175 : decode cX4_join 175 = .ok (.aload_n 0, 1) := by decide +kernel
theorem dX4_join_176 : decode cX4_join 176 = .ok (.invokevirtual 54, 3) := by decide +kernel
theorem dX4_join_179 : decode cX4_join 179 = .ok (.aload_n 0, 1) := by decide +kernel
theorem dX4_join_180 : decode cX4_join 180 = .ok (.getfield 7, 3) := by decide +kernel
theorem dX4_join_183 : decode cX4_join 183 = .ok (.iconst 0, 1) := by decide +kernel
theorem dX4_join_184 : decode cX4_join 184 = .ok (.iload_n 2, 1) := by decide +kernel
theorem dX4_join_185 : decode cX4_join 185 = .ok (.iastore, 1) := by decide +kernel
theorem dX4_join_186 : decode cX4_join 186 = .ok (.iconst 0, 1) := by decide +kernel
theorem dX4_join_187 : decode cX4_join 187 = .ok (.istore 5, 2) := by decide +kernel
theorem dX4_join_189 : decode cX4_join 189 = .ok (.iload 5, 2) := by decide +kernel
theorem dX4_join_191 : decode cX4_join 191 = .ok (.iload_n 2, 1) := by decide +kernel
theorem dX4_join_192 : decode cX4_join 192 = .ok (.if_icmp .ge 25, 3) := by decide +kernel
theorem dX4_join_195 : decode cX4_join 195 = .ok (.aload_n 0, 1) := by decide +kernel
theorem dX4_join_196 : decode cX4_join 196 = .ok (.getfield 7, 3) := by decide +kernel
theorem dX4_join_199 : decode cX4_join 199 = .ok (.iconst 2, 1) := by decide +kernel
theorem dX4_join_200 : decode cX4_join 200 = .ok (.iload 5, 2) := by decide +kernel
theorem dX4_join_202 : decode cX4_join 202 = .ok (.iadd, 1) := by decide +kernel
theorem dX4_join_203 : decode cX4_join 203 = .ok (.aload_n 0, 1) := by decide +kernel
theorem dX4_join_204 : decode cX4_join 204 = .ok (.getfield 32, 3) := by decide +kernel
theorem dX4_join_207 : decode cX4_join 207 = .ok (.iload 5, 2) := by decide +kernel
theorem dX4_join_209 : decode cX4_join 209 = .ok (.iaload, 1) := by decide +kernel
theorem dX4_join_210 : decode cX4_join 210 = .ok (.iastore, 1) := by decide +kernel
theorem dX4_join_211 : decode cX4_join 211 = .ok (.iinc 5 1, 3) := by decide +kernel
theorem dX4_join_214 : decode cX4_join 214 = .ok (.goto (-25), 3) := by decide +kernel
theorem dX4_join_217 : decode cX4_join 217 = .ok (.aload_n 0, 1) := by decide +kernel
theorem dX4_join_218 : decode cX4_join 218 = .ok (.getfield 7, 3) := by decide +kernel
theorem dX4_join_221 : decode cX4_join 221 = .ok (.iconst 1, 1) := by decide +kernel
theorem dX4_join_222 : decode cX4_join 222 = .ok (.aload_n 0, 1) := by decide +kernel
theorem dX4_join_223 : decode cX4_join 223 = .ok (.getfield 7, 3) := by decide +kernel
theorem dX4_join_226 : decode cX4_join 226 = .ok (.bipush 43, 2) := by decide +kernel
theorem dX4_join_228 : decode cX4_join 228 = .ok (.iaload, 1) := by decide +kernel
theorem dX4_join_229 : decode cX4_join 229 = .ok (.aload_n 0, 1) := by decide +kernel
theorem dX4_join_230 : decode cX4_join 230 = .ok (.getfield 7, 3) := by decide +kernel
theorem dX4_join_233 : decode cX4_join 233 = .ok (.iconst 1, 1) := by decide +kernel
theorem dX4_join_234 : decode cX4_join 234 = .ok (.iaload, 1) := by decide +kernel
theorem dX4_join_235 : decode cX4_join 235 = .ok (.if_icmp .le 13, 3) := by decide +kernel
theorem dX4_join_238 : decode cX4_join 238 = .ok (.aload_n 0, 1) := by decide +kernel
theorem dX4_join_239 : decode cX4_join 239 = .ok (.getfield 7, 3) := by decide +kernel
theorem dX4_join_242 : decode cX4_join 242 = .ok (.bipush 43, 2) := by decide +kernel
theorem dX4_join_244 : decode cX4_join 244 = .ok (.iaload, 1) := by decide +kernel
theorem dX4_join_245 : decode cX4_join 245 = .ok (.goto 9, 3) := by decide +kernel
theorem dX4_join_248 : decode cX4_join 248 = .ok (.aload_n 0, 1) := by decide +kernel
theorem dX4_join_249 : decode cX4_join 249 = .ok (.getfield 7, 3) := by decide +kernel
theorem dX4_join_252 : decode cX4_join 252 = .ok (.iconst 1, 1) := by decide +kernel
theorem dX4_join_253 : decode cX4_join 253 = .ok (.iaload, 1) := by decide +kernel
theorem dX4_join_254 : decode cX4_join 254 = .ok (.iastore, 1) := by decide +kernel
theorem dX4_join_255 : decode cX4_join 255 = .ok (.aload_n 0, 1) := by decide +kernel
theorem dX4_join_256 : decode cX4_join 256 = .ok (.iload_n 2, 1) := by decide +kernel
theorem dX4_join_257 : decode cX4_join 257 = .ok (.invokevirtual 60, 3) := by decide +kernel
theorem dX4_join_260 : decode cX4_join 260 = .ok (.ireturn, 1) := by decide +kernel
theorem dX4_exchange_0 : decode cX4_exchange 0 = .ok (.aload_n 0, 1) := by decide +kernel
theorem dX4_exchange_1 : decode cX4_exchange 1 = .ok (.invokevirtual 54, 3) := by decide +kernel
theorem dX4_exchange_4 : decode cX4_exchange 4 = .ok (.iconst 0, 1) := by decide +kernel
theorem dX4_exchange_5 : decode cX4_exchange 5 = .ok (.istore_n 1, 1) := by decide +kernel
theorem dX4_exchange_6 : decode cX4_exchange 6 = .ok (.iload_n 1, 1) := by decide +kernel
theorem dX4_exchange_7 : decode cX4_exchange 7 = .ok (.bipush 42, 2) := by decide +kernel
theorem dX4_exchange_9 : decode cX4_exchange 9 = .ok (.if_icmp .ge 39, 3) := by decide +kernel
theorem dX4_exchange_12 : decode cX4_exchange 12 = .ok (.aload_n 0, 1) := by decide +kernel
theorem dX4_exchange_13 : decode cX4_exchange 13 = .ok (.getfield 7, 3) := by decide +kernel
theorem dX4_exchange_16 : decode cX4_exchange 16 = .ok (.iload_n 1, 1) := by decide +kernel
theorem dX4_exchange_17 : decode cX4_exchange 17 = .ok (.aload_n 0, 1) := by decide +kernel
theorem dX4_exchange_18 : decode cX4_exchange 18 = .ok (.getfield 16, 3) := by decide +kernel
theorem dX4_exchange_21 : decode cX4_exchange 21 = .ok (.bipush 42, 2) := by decide +kernel
theorem dX4_exchange_23 : decode cX4_exchange 23 = .ok (.iload_n 1, 1) := by decide +kernel
theorem dX4_exchange_24 : decode cX4_exchange 24 = .ok (.iadd, 1) := by decide +kernel
theorem dX4_exchange_25 : decode cX4_exchange 25 = .ok (.iaload, 1) := by decide +kernel
theorem dX4_exchange_26 : decode cX4_exchange 26 = .ok (.iastore, 1) := by decide +kernel
theorem dX4_exchange_27 : decode cX4_exchange 27 = .ok (.aload_n 0, 1) := by decide +kernel
theorem dX4_exchange_28 : decode cX4_exchange 28 = .ok (.getfield 7, 3) := by decide +kernel
theorem dX4_exchange_31 : decode cX4_exchange 31 = .ok (.bipush 42, 2) := by decide +kernel
theorem dX4_exchange_33 : decode cX4_exchange 33 = .ok (.iload_n 1, 1) := by decide +kernel
theorem dX4_exchange_34 : decode cX4_exchange 34 = .ok (.iadd, 1) := by decide +kernel
theorem dX4_exchange_35 : decode cX4_exchange 35 = .ok (.aload_n 0, 1) := by decide +kernel
theorem dX4_exchange_36 : decode cX4_exchange 36 = .ok (.getfield 16, 3) := by decide +kernel
theorem dX4_exchange_39 : decode cX4_exchange 39 = .ok (.iload_n 1, 1) := by decide +kernel
theorem dX4_exchange_40 : decode cX4_exchange 40 = .ok (.iaload, 1) := by decide +kernel
theorem dX4_exchange_41 : decode cX4_exchange 41 = .ok (.iastore, 1) := by decide +kernel
theorem dX4_exchange_42 : decode cX4_exchange 42 = .ok (.iinc 1 1, 3) := by decide +kernel
theorem dX4_exchange_45 : decode cX4_exchange 45 = .ok (.goto (-39), 3) := by decide +kernel
theorem dX4_exchange_48 : decode cX4_exchange 48 = .ok (.aload_n 0, 1) := by decide +kernel
theorem dX4_exchange_49 : decode cX4_exchange 49 = .ok (.aload_n 0, 1) := by decide +kernel
theorem dX4_exchange_50 : decode cX4_exchange 50 = .ok (.getfield 7, 3) := by decide +kernel
theorem dX4_exchange_53 : decode cX4_exchange 53 = .ok (.iconst 0, 1) := by decide +kernel
theorem dX4_exchange_54 : decode cX4_exchange 54 = .ok (.iaload, 1) := by decide +kernel
theorem dX4_exchange_55 : decode cX4_exchange 55 = .ok (.invokevirtual 60, 3) := by decide +kernel
theorem dX4_exchange_58 : decode cX4_exchange 58 = .ok (.ireturn, 1) := by decide +kernel
theorem dX4_clear_0 : decode cX4_clear 0 = .ok (.iload_n 1, 1) := by decide +kernel
theorem dX4_clear_1 : decode cX4_clear 1 = .ok (.iconst 0, 1) := by decide +kernel
theorem dX4_clear_2 : decode cX4_clear 2 = .ok (.iconst 1, 1) := by decide +kernel
theorem dX4_clear_3 : decode cX4_clear 3 = .ok (.invokestatic 48, 3) := by decide +kernel
theorem dX4_clear_6 : decode cX4_clear 6 = .ok (.ifCond .ne 6, 3) := by decide +kernel
theorem dX4_clear_9 : decode cX4_clear 9 = .ok (.ldc 35, 2) := by decide +kernel
theorem dX4_clear_11 : decode cX4_clear 11 = .ok (.ireturn, 1) := by decide +kernel
theorem dX4_clear_12 : decode cX4_clear 12 = .ok (.aload_n 0, 1) := by decide +kernel
theorem dX4_clear_13 : decode cX4_clear 13 = .ok (.invokevirtual 54, 3) := by decide +kernel
theorem dX4_clear_16 : decode cX4_clear 16 = .ok (.aload_n 0, 1) := by decide +kernel
theorem dX4_clear_17 : decode cX4_clear 17 = .ok (.iload_n 1, 1) := by decide +kernel
theorem dX4_clear_18 : decode cX4_clear 18 = .ok (.invokevirtual 40, 3) := by decide +kernel
theorem dX4_clear_21 : decode cX4_clear 21 = .ok (.istore_n 2, 1) := by decide +kernel
theorem dX4_clear_22 : decode cX4_clear 22 = .ok (.aload_n 0, 1) := by decide +kernel
theorem dX4_clear_23 : decode cX4_clear 23 = .ok (.getfield 7, 3) := by decide +kernel
theorem dX4_clear_26 : decode cX4_clear 26 = .ok (.bipush 42, 2) := by decide +kernel
theorem dX4_clear_28 : decode cX4_clear 28 = .ok (.iload_n 1, 1) := by decide +kernel
theorem dX4_clear_29 : decode cX4_clear 29 = .ok (.imul, 1) := by decide +kernel
theorem dX4_clear_30 : decode cX4_clear 30 = .ok (.iconst 0, 1) := by decide +kernel
theorem dX4_clear_31 : decode cX4_clear 31 = .ok (.iastore, 1) := by decide +kernel
theorem dX4_clear_32 : decode cX4_clear 32 = .ok (.aload_n 0, 1) := by decide +kernel
theorem dX4_clear_33 : decode cX4_clear 33 = .ok (.iload_n 2, 1) := by decide +kernel
theorem dX4_clear_34 : decode cX4_clear 34 = .ok (.invokevirtual 60, 3) := by decide +kernel
theorem dX4_clear_37 : decode cX4_clear 37 = .ok (.ireturn, 1) := by decide +kernel
theorem dX4_widthOf_0 : decode cX4_widthOf 0 = .ok (.iconst 0, 1) := by decide +kernel
theorem dX4_widthOf_1 : decode cX4_widthOf 1 = .ok (.istore_n 2, 1) := by decide +kernel
theorem dX4_widthOf_2 : decode cX4_widthOf 2 = .ok (.iload_n 0, 1) := by decide +kernel
theorem dX4_widthOf_3 : decode cX4_widthOf 3 = .ok (.ifCond .le 18, 3) := by decide +kernel
theorem dX4_widthOf_6 : decode cX4_widthOf 6 = .ok (.iconst 2, 1) := by decide +kernel
theorem dX4_widthOf_7 : decode cX4_widthOf 7 = .ok (.iload_n 2, 1) := by decide +kernel
theorem dX4_widthOf_8 : decode cX4_widthOf 8 = .ok (.ishl, 1) := by decide +kernel
theorem dX4_widthOf_9 : decode cX4_widthOf 9 = .ok (.iload_n 1, 1) := by decide +kernel
theorem dX4_widthOf_10 : decode cX4_widthOf 10 = .ok (.iload_n 0, 1) := by decide +kernel
theorem dX4_widthOf_11 : decode cX4_widthOf 11 = .ok (.idiv, 1) := by decide +kernel
theorem dX4_widthOf_12 : decode cX4_widthOf 12 = .ok (.if_icmp .gt 9, 3) := by decide +kernel
theorem dX4_widthOf_15 : decode cX4_widthOf 15 = .ok (.iinc 2 1, 3) := by decide +kernel
theorem dX4_widthOf_18 : decode cX4_widthOf 18 = .ok (.goto (-16), 3) := by decide +kernel
theorem dX4_widthOf_21 : decode cX4_widthOf 21 = .ok (.iload_n 2, 1) := by decide +kernel
theorem dX4_widthOf_22 : decode cX4_widthOf 22 = .ok (.ireturn, 1) := by decide +kernel
theorem dX4_width_0 : decode cX4_width 0 = .ok (.aload_n 0, 1) := by decide +kernel
theorem dX4_width_1 : decode cX4_width 1 = .ok (.iload_n 1, 1) := by decide +kernel
theorem dX4_width_2 : decode cX4_width 2 = .ok (.invokevirtual 40, 3) := by decide +kernel
theorem dX4_width_5 : decode cX4_width 5 = .ok (.aload_n 0, 1) := by decide +kernel
theorem dX4_width_6 : decode cX4_width 6 = .ok (.getfield 7, 3) := by decide +kernel
theorem dX4_width_9 : decode cX4_width 9 = .ok (.bipush 42, 2) := by decide +kernel
theorem dX4_width_11 : decode cX4_width 11 = .ok (.iload_n 1, 1) := by decide +kernel
theorem dX4_width_12 : decode cX4_width 12 = .ok (.imul, 1) := by decide +kernel
theorem dX4_width_13 : decode cX4_width 13 = .ok (.iconst 1, 1) := by decide +kernel
theorem dX4_width_14 : decode cX4_width 14 = .ok (.iadd, 1) := by decide +kernel
theorem dX4_width_15 : decode cX4_width 15 = .ok (.iaload, 1) := by decide +kernel
theorem dX4_width_16 : decode cX4_width 16 = .ok (.invokestatic 63, 3) := by decide +kernel
theorem dX4_width_19 : decode cX4_width 19 = .ok (.ireturn, 1) := by decide +kernel
theorem dX4_upperBits_0 : decode cX4_upperBits 0 = .ok (.iload_n 1, 1) := by decide +kernel
theorem dX4_upperBits_1 : decode cX4_upperBits 1 = .ok (.iconst 1, 1) := by decide +kernel
theorem dX4_upperBits_2 : decode cX4_upperBits 2 = .ok (.isub, 1) := by decide +kernel
theorem dX4_upperBits_3 : decode cX4_upperBits 3 = .ok (.iload_n 0, 1) := by decide +kernel
theorem dX4_upperBits_4 : decode cX4_upperBits 4 = .ok (.iload_n 1, 1) := by decide +kernel
theorem dX4_upperBits_5 : decode cX4_upperBits 5 = .ok (.invokestatic 63, 3) := by decide +kernel
theorem dX4_upperBits_8 : decode cX4_upperBits 8 = .ok (.ishr, 1) := by decide +kernel
theorem dX4_upperBits_9 : decode cX4_upperBits 9 = .ok (.istore_n 2, 1) := by decide +kernel
theorem dX4_upperBits_10 : decode cX4_upperBits 10 = .ok (.iload_n 0, 1) := by decide +kernel
theorem dX4_upperBits_11 : decode cX4_upperBits 11 = .ok (.ifCond .ne 7, 3) := by decide +kernel
theorem dX4_upperBits_14 : decode cX4_upperBits 14 = .ok (.iload_n 2, 1) := by decide +kernel
theorem dX4_upperBits_15 : decode cX4_upperBits 15 = .ok (.goto 8, 3) := by decide +kernel
theorem dX4_upperBits_18 : decode cX4_upperBits 18 = .ok (.iload_n 0, 1) := by decide +kernel
theorem dX4_upperBits_19 : decode cX4_upperBits 19 = .ok (.iload_n 2, 1) := by decide +kernel
theorem dX4_upperBits_20 : decode cX4_upperBits 20 = .ok (.iadd, 1) := by decide +kernel
theorem dX4_upperBits_21 : decode cX4_upperBits 21 = .ok (.iconst 1, 1) := by decide +kernel
theorem dX4_upperBits_22 : decode cX4_upperBits 22 = .ok (.iadd, 1) := by decide +kernel
theorem dX4_upperBits_23 : decode cX4_upperBits 23 = .ok (.ireturn, 1) := by decide +kernel
theorem dX4_sizeOf_0 : decode cX4_sizeOf 0 = .ok (.iload_n 0, 1) := by decide +kernel
theorem dX4_sizeOf_1 : decode cX4_sizeOf 1 = .ok (.iload_n 1, 1) := by decide +kernel
theorem dX4_sizeOf_2 : decode cX4_sizeOf 2 = .ok (.invokestatic 66, 3) := by decide +kernel
theorem dX4_sizeOf_5 : decode cX4_sizeOf 5 = .ok (.iload_n 0, 1) := by decide +kernel
theorem dX4_sizeOf_6 : decode cX4_sizeOf 6 = .ok (.iload_n 0, 1) := by decide +kernel
theorem dX4_sizeOf_7 : decode cX4_sizeOf 7 = .ok (.iload_n 1, 1) := by decide +kernel
theorem dX4_sizeOf_8 : decode cX4_sizeOf 8 = .ok (.invokestatic 63, 3) := by decide +kernel
theorem dX4_sizeOf_11 : decode cX4_sizeOf 11 = .ok (.imul, 1) := by decide +kernel
theorem dX4_sizeOf_12 : decode cX4_sizeOf 12 = .ok (.iadd, 1) := by decide +kernel
theorem dX4_sizeOf_13 : decode cX4_sizeOf 13 = .ok (.ireturn, 1) := by decide +kernel
theorem dX4_size_0 : decode cX4_size 0 = .ok (.aload_n 0, 1) := by decide +kernel
theorem dX4_size_1 : decode cX4_size 1 = .ok (.iload_n 1, 1) := by decide +kernel
theorem dX4_size_2 : decode cX4_size 2 = .ok (.invokevirtual 40, 3) := by decide +kernel
theorem dX4_size_5 : decode cX4_size 5 = .ok (.aload_n 0, 1) := by decide +kernel
theorem dX4_size_6 : decode cX4_size 6 = .ok (.getfield 7, 3) := by decide +kernel
theorem dX4_size_9 : decode cX4_size 9 = .ok (.bipush 42, 2) := by decide +kernel
theorem dX4_size_11 : decode cX4_size 11 = .ok (.iload_n 1, 1) := by decide +kernel
theorem dX4_size_12 : decode cX4_size 12 = .ok (.imul, 1) := by decide +kernel
theorem dX4_size_13 : decode cX4_size 13 = .ok (.iconst 1, 1) := by decide +kernel
theorem dX4_size_14 : decode cX4_size 14 = .ok (.iadd, 1) := by decide +kernel
theorem dX4_size_15 : decode cX4_size 15 = .ok (.iaload, 1) := by decide +kernel
theorem dX4_size_16 : decode cX4_size 16 = .ok (.invokestatic 69, 3) := by decide +kernel
theorem dX4_size_19 : decode cX4_size 19 = .ok (.ireturn, 1) := by decide +kernel
theorem dX4_placeOf_0 : decode cX4_placeOf 0 = .ok (.aload_n 0, 1) := by decide +kernel
theorem dX4_placeOf_1 : decode cX4_placeOf 1 = .ok (.iload_n 1, 1) := by decide +kernel
theorem dX4_placeOf_2 : decode cX4_placeOf 2 = .ok (.iload_n 2, 1) := by decide +kernel
theorem dX4_placeOf_3 : decode cX4_placeOf 3 = .ok (.invokevirtual 44, 3) := by decide +kernel
theorem dX4_placeOf_6 : decode cX4_placeOf 6 = .ok (.aload_n 0, 1) := by decide +kernel
theorem dX4_placeOf_7 : decode cX4_placeOf 7 = .ok (.iload_n 1, 1) := by decide +kernel
theorem dX4_placeOf_8 : decode cX4_placeOf 8 = .ok (.invokevirtual 72, 3) := by decide +kernel
theorem dX4_placeOf_11 : decode cX4_placeOf 11 = .ok (.ishr, 1) := by decide +kernel
theorem dX4_placeOf_12 : decode cX4_placeOf 12 = .ok (.iload_n 2, 1) := by decide +kernel
theorem dX4_placeOf_13 : decode cX4_placeOf 13 = .ok (.iadd, 1) := by decide +kernel
theorem dX4_placeOf_14 : decode cX4_placeOf 14 = .ok (.ireturn, 1) := by decide +kernel
theorem dX4_lays_0 : decode cX4_lays 0 = .ok (.aload_n 0, 1) := by decide +kernel
theorem dX4_lays_1 : decode cX4_lays 1 = .ok (.aload_n 0, 1) := by decide +kernel
theorem dX4_lays_2 : decode cX4_lays 2 = .ok (.iload_n 1, 1) := by decide +kernel
theorem dX4_lays_3 : decode cX4_lays 3 = .ok (.invokevirtual 40, 3) := by decide +kernel
theorem dX4_lays_6 : decode cX4_lays 6 = .ok (.aload_n 0, 1) := by decide +kernel
theorem dX4_lays_7 : decode cX4_lays 7 = .ok (.getfield 7, 3) := by decide +kernel
theorem dX4_lays_10 : decode cX4_lays 10 = .ok (.bipush 42, 2) := by decide +kernel
theorem dX4_lays_12 : decode cX4_lays 12 = .ok (.iload_n 1, 1) := by decide +kernel
theorem dX4_lays_13 : decode cX4_lays 13 = .ok (.imul, 1) := by decide +kernel
theorem dX4_lays_14 : decode cX4_lays 14 = .ok (.iconst 1, 1) := by decide +kernel
theorem dX4_lays_15 : decode cX4_lays 15 = .ok (.iadd, 1) := by decide +kernel
theorem dX4_lays_16 : decode cX4_lays 16 = .ok (.iaload, 1) := by decide +kernel
theorem dX4_lays_17 : decode cX4_lays 17 = .ok (.invokestatic 66, 3) := by decide +kernel
theorem dX4_lays_20 : decode cX4_lays 20 = .ok (.putfield 75, 3) := by decide +kernel
theorem dX4_lays_23 : decode cX4_lays 23 = .ok (.iconst 0, 1) := by decide +kernel
theorem dX4_lays_24 : decode cX4_lays 24 = .ok (.istore_n 2, 1) := by decide +kernel
theorem dX4_lays_25 : decode cX4_lays 25 = .ok (.iload_n 2, 1) := by decide +kernel
theorem dX4_lays_26 : decode cX4_lays 26 = .ok (.aload_n 0, 1) := by decide +kernel
theorem dX4_lays_27 : decode cX4_lays 27 = .ok (.getfield 75, 3) := by decide +kernel
theorem dX4_lays_30 : decode cX4_lays 30 = .ok (.if_icmp .ge 16, 3) := by decide +kernel
theorem dX4_lays_33 : decode cX4_lays 33 = .ok (.aload_n 0, 1) := by decide +kernel
theorem dX4_lays_34 : decode cX4_lays 34 = .ok (.getfield 26, 3) := by decide +kernel
theorem dX4_lays_37 : decode cX4_lays 37 = .ok (.iload_n 2, 1) := by decide +kernel
theorem dX4_lays_38 : decode cX4_lays 38 = .ok (.iconst 0, 1) := by decide +kernel
theorem dX4_lays_39 : decode cX4_lays 39 = .ok (.iastore, 1) := by decide +kernel
theorem dX4_lays_40 : decode cX4_lays 40 = .ok (.iinc 2 1, 3) := by decide +kernel
theorem dX4_lays_43 : decode cX4_lays 43 = .ok (.goto (-18), 3) := by decide +kernel
theorem dX4_lays_46 : decode cX4_lays 46 = .ok (.iconst 0, 1) := by decide +kernel
theorem dX4_lays_47 : decode cX4_lays 47 = .ok (.istore_n 2, 1) := by decide +kernel
theorem dX4_lays_48 : decode cX4_lays 48 = .ok (.iload_n 2, 1) := by decide +kernel
theorem dX4_lays_49 : decode cX4_lays 49 = .ok (.aload_n 0, 1) := by decide +kernel
theorem dX4_lays_50 : decode cX4_lays 50 = .ok (.iload_n 1, 1) := by decide +kernel
theorem dX4_lays_51 : decode cX4_lays 51 = .ok (.invokevirtual 40, 3) := by decide +kernel
theorem dX4_lays_54 : decode cX4_lays 54 = .ok (.if_icmp .ge 21, 3) := by decide +kernel
theorem dX4_lays_57 : decode cX4_lays 57 = .ok (.aload_n 0, 1) := by decide +kernel
theorem dX4_lays_58 : decode cX4_lays 58 = .ok (.getfield 26, 3) := by decide +kernel
theorem dX4_lays_61 : decode cX4_lays 61 = .ok (.aload_n 0, 1) := by decide +kernel
theorem dX4_lays_62 : decode cX4_lays 62 = .ok (.iload_n 1, 1) := by decide +kernel
theorem dX4_lays_63 : decode cX4_lays 63 = .ok (.iload_n 2, 1) := by decide +kernel
theorem dX4_lays_64 : decode cX4_lays 64 = .ok (.invokevirtual 78, 3) := by decide +kernel
theorem dX4_lays_67 : decode cX4_lays 67 = .ok (.iconst 1, 1) := by decide +kernel
theorem dX4_lays_68 : decode cX4_lays 68 = .ok (.iastore, 1) := by decide +kernel
theorem dX4_lays_69 : decode cX4_lays 69 = .ok (.iinc 2 1, 3) := by decide +kernel
theorem dX4_lays_72 : decode cX4_lays 72 = .ok (.goto (-24), 3) := by decide +kernel
theorem dX4_lays_75 : decode cX4_lays 75 = .ok (.aload_n 0, 1) := by decide +kernel
theorem dX4_lays_76 : decode cX4_lays 76 = .ok (.iconst 0, 1) := by decide +kernel
theorem dX4_lays_77 : decode cX4_lays 77 = .ok (.putfield 81, 3) := by decide +kernel
theorem dX4_lays_80 : decode cX4_lays 80 = .ok (.iconst 0, 1) := by decide +kernel
theorem dX4_lays_81 : decode cX4_lays 81 = .ok (.istore_n 2, 1) := by decide +kernel
theorem dX4_lays_82 : decode cX4_lays 82 = .ok (.iload_n 2, 1) := by decide +kernel
theorem dX4_lays_83 : decode cX4_lays 83 = .ok (.aload_n 0, 1) := by decide +kernel
theorem dX4_lays_84 : decode cX4_lays 84 = .ok (.getfield 75, 3) := by decide +kernel
theorem dX4_lays_87 : decode cX4_lays 87 = .ok (.if_icmp .ge 38, 3) := by decide +kernel
theorem dX4_lays_90 : decode cX4_lays 90 = .ok (.aload_n 0, 1) := by decide +kernel
theorem dX4_lays_91 : decode cX4_lays 91 = .ok (.getfield 26, 3) := by decide +kernel
theorem dX4_lays_94 : decode cX4_lays 94 = .ok (.iload_n 2, 1) := by decide +kernel
theorem dX4_lays_95 : decode cX4_lays 95 = .ok (.iaload, 1) := by decide +kernel
theorem dX4_lays_96 : decode cX4_lays 96 = .ok (.ifCond .ne 23, 3) := by decide +kernel
theorem dX4_lays_99 : decode cX4_lays 99 = .ok (.aload_n 0, 1) := by decide +kernel
theorem dX4_lays_100 : decode cX4_lays 100 = .ok (.getfield 29, 3) := by decide +kernel
theorem dX4_lays_103 : decode cX4_lays 103 = .ok (.aload_n 0, 1) := by decide +kernel
theorem dX4_lays_104 : decode cX4_lays 104 = .ok (.getfield 81, 3) := by decide +kernel
theorem dX4_lays_107 : decode cX4_lays 107 = .ok (.iload_n 2, 1) := by decide +kernel
theorem dX4_lays_108 : decode cX4_lays 108 = .ok (.iastore, 1) := by decide +kernel
theorem dX4_lays_109 : decode cX4_lays 109 = .ok (.aload_n 0, 1) := by decide +kernel
theorem dX4_lays_110 : decode cX4_lays 110 = .ok (.dup, 1) := by decide +kernel
theorem dX4_lays_111 : decode cX4_lays 111 = .ok (.getfield 81, 3) := by decide +kernel
theorem dX4_lays_114 : decode cX4_lays 114 = .ok (.iconst 1, 1) := by decide +kernel
theorem dX4_lays_115 : decode cX4_lays 115 = .ok (.iadd, 1) := by decide +kernel
theorem dX4_lays_116 : decode cX4_lays 116 = .ok (.putfield 81, 3) := by decide +kernel
theorem dX4_lays_119 : decode cX4_lays 119 = .ok (.iinc 2 1, 3) := by decide +kernel
theorem dX4_lays_122 : decode cX4_lays 122 = .ok (.goto (-40), 3) := by decide +kernel
theorem dX4_lays_125 : decode cX4_lays 125 = .ok (.return_, 1) := by decide +kernel
theorem dX4_unlike_0 : decode cX4_unlike 0 = .ok (.iconst 0, 1) := by decide +kernel
theorem dX4_unlike_1 : decode cX4_unlike 1 = .ok (.istore_n 2, 1) := by decide +kernel
theorem dX4_unlike_2 : decode cX4_unlike 2 = .ok (.iconst 0, 1) := by decide +kernel
theorem dX4_unlike_3 : decode cX4_unlike 3 = .ok (.istore_n 3, 1) := by decide +kernel
theorem dX4_unlike_4 : decode cX4_unlike 4 = .ok (.iload_n 3, 1) := by decide +kernel
theorem dX4_unlike_5 : decode cX4_unlike 5 = .ok (.aload_n 0, 1) := by decide +kernel
theorem dX4_unlike_6 : decode cX4_unlike 6 = .ok (.iload_n 1, 1) := by decide +kernel
theorem dX4_unlike_7 : decode cX4_unlike 7 = .ok (.invokevirtual 40, 3) := by decide +kernel
theorem dX4_unlike_10 : decode cX4_unlike 10 = .ok (.if_icmp .ge 38, 3) := by decide +kernel
theorem dX4_unlike_13 : decode cX4_unlike 13 = .ok (.iload_n 2, 1) := by decide +kernel
theorem dX4_unlike_14 : decode cX4_unlike 14 = .ok (.iload_n 3, 1) := by decide +kernel
theorem dX4_unlike_15 : decode cX4_unlike 15 = .ok (.ifCond .eq 20, 3) := by decide +kernel
theorem dX4_unlike_18 : decode cX4_unlike 18 = .ok (.aload_n 0, 1) := by decide +kernel
theorem dX4_unlike_19 : decode cX4_unlike 19 = .ok (.iload_n 1, 1) := by decide +kernel
theorem dX4_unlike_20 : decode cX4_unlike 20 = .ok (.iload_n 3, 1) := by decide +kernel
theorem dX4_unlike_21 : decode cX4_unlike 21 = .ok (.invokevirtual 44, 3) := by decide +kernel
theorem dX4_unlike_24 : decode cX4_unlike 24 = .ok (.aload_n 0, 1) := by decide +kernel
theorem dX4_unlike_25 : decode cX4_unlike 25 = .ok (.iload_n 1, 1) := by decide +kernel
theorem dX4_unlike_26 : decode cX4_unlike 26 = .ok (.iload_n 3, 1) := by decide +kernel
theorem dX4_unlike_27 : decode cX4_unlike 27 = .ok (.iconst 1, 1) := by decide +kernel
theorem dX4_unlike_28 : decode cX4_unlike 28 = .ok (.isub, 1) := by decide +kernel
theorem dX4_unlike_29 : decode cX4_unlike 29 = .ok (.invokevirtual 44, 3) := by decide +kernel
theorem dX4_unlike_32 : decode cX4_unlike 32 = .ok (.if_icmp .eq 7, 3) := by decide +kernel
theorem dX4_unlike_35 : decode cX4_unlike 35 = .ok (.iconst 1, 1) := by decide +kernel
theorem dX4_unlike_36 : decode cX4_unlike 36 = .ok (.goto 4, 3) := by decide +kernel
theorem dX4_unlike_39 : decode cX4_unlike 39 = .ok (.iconst 0, 1) := by decide +kernel
theorem dX4_unlike_40 : decode cX4_unlike 40 = .ok (.iadd, 1) := by decide +kernel
theorem dX4_unlike_41 : decode cX4_unlike 41 = .ok (.istore_n 2, 1) := by decide +kernel
theorem dX4_unlike_42 : decode cX4_unlike 42 = .ok (.iinc 3 1, 3) := by decide +kernel
theorem dX4_unlike_45 : decode cX4_unlike 45 = .ok (.goto (-41), 3) := by decide +kernel
theorem dX4_unlike_48 : decode cX4_unlike 48 = .ok (.iload_n 2, 1) := by decide +kernel
theorem dX4_unlike_49 : decode cX4_unlike 49 = .ok (.ireturn, 1) := by decide +kernel
theorem dX4_greatestGap_0 : decode cX4_greatestGap 0 = .ok (.iconst 0, 1) := by decide +kernel
theorem dX4_greatestGap_1 : decode cX4_greatestGap 1 = .ok (.istore_n 2, 1) := by decide +kernel
theorem dX4_greatestGap_2 : decode cX4_greatestGap 2 = .ok (.iconst 1, 1) := by decide +kernel
theorem dX4_greatestGap_3 : decode cX4_greatestGap 3 = .ok (.istore_n 3, 1) := by decide +kernel
theorem dX4_greatestGap_4 : decode cX4_greatestGap 4 = .ok (.iload_n 3, 1) := by decide +kernel
theorem dX4_greatestGap_5 : decode cX4_greatestGap 5 = .ok (.aload_n 0, 1) := by decide +kernel
theorem dX4_greatestGap_6 : decode cX4_greatestGap 6 = .ok (.iload_n 1, 1) := by decide +kernel
theorem dX4_greatestGap_7 : decode cX4_greatestGap 7 = .ok (.invokevirtual 40, 3) := by decide +kernel
theorem dX4_greatestGap_10 : decode cX4_greatestGap 10 = .ok (.if_icmp .ge 39, 3) := by decide +kernel
theorem dX4_greatestGap_13 : decode cX4_greatestGap 13 = .ok (.aload_n 0, 1) := by decide +kernel
theorem dX4_greatestGap_14 : decode cX4_greatestGap 14 = .ok (.iload_n 1, 1) := by decide +kernel
theorem dX4_greatestGap_15 : decode cX4_greatestGap 15 = .ok (.iload_n 3, 1) := by decide +kernel
theorem dX4_greatestGap_16 : decode cX4_greatestGap 16 = .ok (.invokevirtual 44, 3) := by decide +kernel
theorem dX4_greatestGap_19 : decode cX4_greatestGap 19 = .ok (.aload_n 0, 1) := by decide +kernel
theorem dX4_greatestGap_20 : decode cX4_greatestGap 20 = .ok (.iload_n 1, 1) := by decide +kernel
theorem dX4_greatestGap_21 : decode cX4_greatestGap 21 = .ok (.iload_n 3, 1) := by decide +kernel
theorem dX4_greatestGap_22 : decode cX4_greatestGap 22 = .ok (.iconst 1, 1) := by decide +kernel
theorem dX4_greatestGap_23 : decode cX4_greatestGap 23 = .ok (.isub, 1) := by decide +kernel
theorem dX4_greatestGap_24 : decode cX4_greatestGap 24 = .ok (.invokevirtual 44, 3) := by decide +kernel
theorem dX4_greatestGap_27 : decode cX4_greatestGap 27 = .ok (.isub, 1) := by decide +kernel
theorem dX4_greatestGap_28 : decode cX4_greatestGap 28 = .ok (.istore 4, 2) := by decide +kernel
theorem dX4_greatestGap_30 : decode cX4_greatestGap 30 = .ok (.iload 4, 2) := by decide +kernel
theorem dX4_greatestGap_32 : decode cX4_greatestGap 32 = .ok (.iload_n 2, 1) := by decide +kernel
theorem dX4_greatestGap_33 : decode cX4_greatestGap 33 = .ok (.if_icmp .le 8, 3) := by decide +kernel
theorem dX4_greatestGap_36 : decode cX4_greatestGap 36 = .ok (.iload 4, 2) := by decide +kernel
theorem dX4_greatestGap_38 : decode cX4_greatestGap 38 = .ok (.goto 4, 3) := by decide +kernel
theorem dX4_greatestGap_41 : decode cX4_greatestGap 41 = .ok (.iload_n 2, 1) := by decide +kernel
theorem dX4_greatestGap_42 : decode cX4_greatestGap 42 = .ok (.istore_n 2, 1) := by decide +kernel
theorem dX4_greatestGap_43 : decode cX4_greatestGap 43 = .ok (.iinc 3 1, 3) := by decide +kernel
theorem dX4_greatestGap_46 : decode cX4_greatestGap 46 = .ok (.goto (-42), 3) := by decide +kernel
theorem dX4_greatestGap_49 : decode cX4_greatestGap 49 = .ok (.iload_n 2, 1) := by decide +kernel
theorem dX4_greatestGap_50 : decode cX4_greatestGap 50 = .ok (.ireturn, 1) := by decide +kernel
theorem dX4_rowOf_0 : decode cX4_rowOf 0 = .ok (.iload_n 1, 1) := by decide +kernel
theorem dX4_rowOf_1 : decode cX4_rowOf 1 = .ok (.iconst 0, 1) := by decide +kernel
theorem dX4_rowOf_2 : decode cX4_rowOf 2 = .ok (.iconst 1, 1) := by decide +kernel
theorem dX4_rowOf_3 : decode cX4_rowOf 3 = .ok (.invokestatic 48, 3) := by decide +kernel
theorem dX4_rowOf_6 : decode cX4_rowOf 6 = .ok (.ifCond .eq 13, 3) := by decide +kernel
theorem dX4_rowOf_9 : decode cX4_rowOf 9 = .ok (.iload_n 2, 1) := by decide +kernel
theorem dX4_rowOf_10 : decode cX4_rowOf 10 = .ok (.iconst 0, 1) := by decide +kernel
theorem dX4_rowOf_11 : decode cX4_rowOf 11 = .ok (.bipush 8, 2) := by decide +kernel
theorem dX4_rowOf_13 : decode cX4_rowOf 13 = .ok (.invokestatic 48, 3) := by decide +kernel
theorem dX4_rowOf_16 : decode cX4_rowOf 16 = .ok (.ifCond .ne 6, 3) := by decide +kernel
theorem dX4_rowOf_19 : decode cX4_rowOf 19 = .ok (.ldc 35, 2) := by decide +kernel
theorem dX4_rowOf_21 : decode cX4_rowOf 21 = .ok (.ireturn, 1) := by decide +kernel
theorem dX4_rowOf_22 : decode cX4_rowOf 22 = .ok (.aload_n 0, 1) := by decide +kernel
theorem dX4_rowOf_23 : decode cX4_rowOf 23 = .ok (.iload_n 1, 1) := by decide +kernel
theorem dX4_rowOf_24 : decode cX4_rowOf 24 = .ok (.invokevirtual 84, 3) := by decide +kernel
theorem dX4_rowOf_27 : decode cX4_rowOf 27 = .ok (.iload_n 2, 1) := by decide +kernel
theorem dX4_rowOf_28 : decode cX4_rowOf 28 = .ok (.tableswitch 102 0 7 #[48, 48, 60, 66, 71, 77, 87, 96], 48) := by decide +kernel
theorem dX4_rowOf_76 : decode cX4_rowOf 76 = .ok (.aload_n 0, 1) := by decide +kernel
theorem dX4_rowOf_77 : decode cX4_rowOf 77 = .ok (.getfield 7, 3) := by decide +kernel
theorem dX4_rowOf_80 : decode cX4_rowOf 80 = .ok (.bipush 42, 2) := by decide +kernel
theorem dX4_rowOf_82 : decode cX4_rowOf 82 = .ok (.iload_n 1, 1) := by decide +kernel
theorem dX4_rowOf_83 : decode cX4_rowOf 83 = .ok (.imul, 1) := by decide +kernel
theorem dX4_rowOf_84 : decode cX4_rowOf 84 = .ok (.iload_n 2, 1) := by decide +kernel
theorem dX4_rowOf_85 : decode cX4_rowOf 85 = .ok (.iadd, 1) := by decide +kernel
theorem dX4_rowOf_86 : decode cX4_rowOf 86 = .ok (.iaload, 1) := by decide +kernel
theorem dX4_rowOf_87 : decode cX4_rowOf 87 = .ok (.ireturn, 1) := by decide +kernel
theorem dX4_rowOf_88 : decode cX4_rowOf 88 = .ok (.aload_n 0, 1) := by decide +kernel
theorem dX4_rowOf_89 : decode cX4_rowOf 89 = .ok (.iload_n 1, 1) := by decide +kernel
theorem dX4_rowOf_90 : decode cX4_rowOf 90 = .ok (.invokevirtual 72, 3) := by decide +kernel
theorem dX4_rowOf_93 : decode cX4_rowOf 93 = .ok (.ireturn, 1) := by decide +kernel
theorem dX4_rowOf_94 : decode cX4_rowOf 94 = .ok (.aload_n 0, 1) := by decide +kernel
theorem dX4_rowOf_95 : decode cX4_rowOf 95 = .ok (.getfield 75, 3) := by decide +kernel
theorem dX4_rowOf_98 : decode cX4_rowOf 98 = .ok (.ireturn, 1) := by decide +kernel
theorem dX4_rowOf_99 : decode cX4_rowOf 99 = .ok (.aload_n 0, 1) := by decide +kernel
theorem dX4_rowOf_100 : decode cX4_rowOf 100 = .ok (.iload_n 1, 1) := by decide +kernel
theorem dX4_rowOf_101 : decode cX4_rowOf 101 = .ok (.invokevirtual 88, 3) := by decide +kernel
theorem dX4_rowOf_104 : decode cX4_rowOf 104 = .ok (.ireturn, 1) := by decide +kernel
theorem dX4_rowOf_105 : decode cX4_rowOf 105 = .ok (.aload_n 0, 1) := by decide +kernel
theorem dX4_rowOf_106 : decode cX4_rowOf 106 = .ok (.iload_n 1, 1) := by decide +kernel
theorem dX4_rowOf_107 : decode cX4_rowOf 107 = .ok (.invokevirtual 40, 3) := by decide +kernel
theorem dX4_rowOf_110 : decode cX4_rowOf 110 = .ok (.iconst 3, 1) := by decide +kernel
theorem dX4_rowOf_111 : decode cX4_rowOf 111 = .ok (.iadd, 1) := by decide +kernel
theorem dX4_rowOf_112 : decode cX4_rowOf 112 = .ok (.iconst 4, 1) := by decide +kernel
theorem dX4_rowOf_113 : decode cX4_rowOf 113 = .ok (.idiv, 1) := by decide +kernel
theorem dX4_rowOf_114 : decode cX4_rowOf 114 = .ok (.ireturn, 1) := by decide +kernel
theorem dX4_rowOf_115 : decode cX4_rowOf 115 = .ok (.aload_n 0, 1) := by decide +kernel
theorem dX4_rowOf_116 : decode cX4_rowOf 116 = .ok (.getfield 81, 3) := by decide +kernel
theorem dX4_rowOf_119 : decode cX4_rowOf 119 = .ok (.iconst 3, 1) := by decide +kernel
theorem dX4_rowOf_120 : decode cX4_rowOf 120 = .ok (.iadd, 1) := by decide +kernel
theorem dX4_rowOf_121 : decode cX4_rowOf 121 = .ok (.iconst 4, 1) := by decide +kernel
theorem dX4_rowOf_122 : decode cX4_rowOf 122 = .ok (.idiv, 1) := by decide +kernel
theorem dX4_rowOf_123 : decode cX4_rowOf 123 = .ok (.ireturn, 1) := by decide +kernel
theorem dX4_rowOf_124 : decode cX4_rowOf 124 = .ok (.aload_n 0, 1) := by decide +kernel
theorem dX4_rowOf_125 : decode cX4_rowOf 125 = .ok (.iload_n 1, 1) := by decide +kernel
theorem dX4_rowOf_126 : decode cX4_rowOf 126 = .ok (.invokevirtual 91, 3) := by decide +kernel
theorem dX4_rowOf_129 : decode cX4_rowOf 129 = .ok (.ireturn, 1) := by decide +kernel
theorem dX4_rowOf_130 : decode cX4_rowOf 130 = .ok (.aload_n 0, 1) := by decide +kernel
theorem dX4_rowOf_131 : decode cX4_rowOf 131 = .ok (.iload_n 1, 1) := by decide +kernel
theorem dX4_rowOf_132 : decode cX4_rowOf 132 = .ok (.invokevirtual 94, 3) := by decide +kernel
theorem dX4_rowOf_135 : decode cX4_rowOf 135 = .ok (.ireturn, 1) := by decide +kernel
theorem dX4_upperBit_0 : decode cX4_upperBit 0 = .ok (.iload_n 1, 1) := by decide +kernel
theorem dX4_upperBit_1 : decode cX4_upperBit 1 = .ok (.iconst 0, 1) := by decide +kernel
theorem dX4_upperBit_2 : decode cX4_upperBit 2 = .ok (.iconst 1, 1) := by decide +kernel
theorem dX4_upperBit_3 : decode cX4_upperBit 3 = .ok (.invokestatic 48, 3) := by decide +kernel
theorem dX4_upperBit_6 : decode cX4_upperBit 6 = .ok (.ifCond .eq 7, 3) := by decide +kernel
theorem dX4_upperBit_9 : decode cX4_upperBit 9 = .ok (.iload_n 2, 1) := by decide +kernel
theorem dX4_upperBit_10 : decode cX4_upperBit 10 = .ok (.ifCond .ge 6, 3) := by decide +kernel
theorem dX4_upperBit_13 : decode cX4_upperBit 13 = .ok (.ldc 35, 2) := by decide +kernel
theorem dX4_upperBit_15 : decode cX4_upperBit 15 = .ok (.ireturn, 1) := by decide +kernel
theorem dX4_upperBit_16 : decode cX4_upperBit 16 = .ok (.aload_n 0, 1) := by decide +kernel
theorem dX4_upperBit_17 : decode cX4_upperBit 17 = .ok (.iload_n 1, 1) := by decide +kernel
theorem dX4_upperBit_18 : decode cX4_upperBit 18 = .ok (.invokevirtual 84, 3) := by decide +kernel
theorem dX4_upperBit_21 : decode cX4_upperBit 21 = .ok (.iload_n 2, 1) := by decide +kernel
theorem dX4_upperBit_22 : decode cX4_upperBit 22 = .ok (.aload_n 0, 1) := by decide +kernel
theorem dX4_upperBit_23 : decode cX4_upperBit 23 = .ok (.getfield 75, 3) := by decide +kernel
theorem dX4_upperBit_26 : decode cX4_upperBit 26 = .ok (.if_icmp .ge 12, 3) := by decide +kernel
theorem dX4_upperBit_29 : decode cX4_upperBit 29 = .ok (.aload_n 0, 1) := by decide +kernel
theorem dX4_upperBit_30 : decode cX4_upperBit 30 = .ok (.getfield 26, 3) := by decide +kernel
theorem dX4_upperBit_33 : decode cX4_upperBit 33 = .ok (.iload_n 2, 1) := by decide +kernel
theorem dX4_upperBit_34 : decode cX4_upperBit 34 = .ok (.iaload, 1) := by decide +kernel
theorem dX4_upperBit_35 : decode cX4_upperBit 35 = .ok (.goto 5, 3) := by decide +kernel
theorem dX4_upperBit_38 : decode cX4_upperBit 38 = .ok (.ldc 97, 2) := by decide +kernel
theorem dX4_upperBit_40 : decode cX4_upperBit 40 = .ok (.ireturn, 1) := by decide +kernel
theorem dX4_lower_0 : decode cX4_lower 0 = .ok (.aload_n 0, 1) := by decide +kernel
theorem dX4_lower_1 : decode cX4_lower 1 = .ok (.iload_n 1, 1) := by decide +kernel
theorem dX4_lower_2 : decode cX4_lower 2 = .ok (.iload_n 2, 1) := by decide +kernel
theorem dX4_lower_3 : decode cX4_lower 3 = .ok (.invokevirtual 44, 3) := by decide +kernel
theorem dX4_lower_6 : decode cX4_lower 6 = .ok (.iconst 1, 1) := by decide +kernel
theorem dX4_lower_7 : decode cX4_lower 7 = .ok (.aload_n 0, 1) := by decide +kernel
theorem dX4_lower_8 : decode cX4_lower 8 = .ok (.iload_n 1, 1) := by decide +kernel
theorem dX4_lower_9 : decode cX4_lower 9 = .ok (.invokevirtual 72, 3) := by decide +kernel
theorem dX4_lower_12 : decode cX4_lower 12 = .ok (.ishl, 1) := by decide +kernel
theorem dX4_lower_13 : decode cX4_lower 13 = .ok (.iconst 1, 1) := by decide +kernel
theorem dX4_lower_14 : decode cX4_lower 14 = .ok (.isub, 1) := by decide +kernel
theorem dX4_lower_15 : decode cX4_lower 15 = .ok (.iand, 1) := by decide +kernel
theorem dX4_lower_16 : decode cX4_lower 16 = .ok (.ireturn, 1) := by decide +kernel
theorem dX4_partOf_0 : decode cX4_partOf 0 = .ok (.iload_n 1, 1) := by decide +kernel
theorem dX4_partOf_1 : decode cX4_partOf 1 = .ok (.iconst 0, 1) := by decide +kernel
theorem dX4_partOf_2 : decode cX4_partOf 2 = .ok (.iconst 1, 1) := by decide +kernel
theorem dX4_partOf_3 : decode cX4_partOf 3 = .ok (.invokestatic 48, 3) := by decide +kernel
theorem dX4_partOf_6 : decode cX4_partOf 6 = .ok (.ifCond .eq 16, 3) := by decide +kernel
theorem dX4_partOf_9 : decode cX4_partOf 9 = .ok (.iload_n 2, 1) := by decide +kernel
theorem dX4_partOf_10 : decode cX4_partOf 10 = .ok (.ifCond .lt 12, 3) := by decide +kernel
theorem dX4_partOf_13 : decode cX4_partOf 13 = .ok (.iload_n 3, 1) := by decide +kernel
theorem dX4_partOf_14 : decode cX4_partOf 14 = .ok (.iconst 0, 1) := by decide +kernel
theorem dX4_partOf_15 : decode cX4_partOf 15 = .ok (.iconst 4, 1) := by decide +kernel
theorem dX4_partOf_16 : decode cX4_partOf 16 = .ok (.invokestatic 48, 3) := by decide +kernel
theorem dX4_partOf_19 : decode cX4_partOf 19 = .ok (.ifCond .ne 6, 3) := by decide +kernel
theorem dX4_partOf_22 : decode cX4_partOf 22 = .ok (.ldc 35, 2) := by decide +kernel
theorem dX4_partOf_24 : decode cX4_partOf 24 = .ok (.ireturn, 1) := by decide +kernel
theorem dX4_partOf_25 : decode cX4_partOf 25 = .ok (.iload_n 2, 1) := by decide +kernel
theorem dX4_partOf_26 : decode cX4_partOf 26 = .ok (.aload_n 0, 1) := by decide +kernel
theorem dX4_partOf_27 : decode cX4_partOf 27 = .ok (.iload_n 1, 1) := by decide +kernel
theorem dX4_partOf_28 : decode cX4_partOf 28 = .ok (.invokevirtual 40, 3) := by decide +kernel
theorem dX4_partOf_31 : decode cX4_partOf 31 = .ok (.if_icmp .lt 6, 3) := by decide +kernel
theorem dX4_partOf_34 : decode cX4_partOf 34 = .ok (.ldc 97, 2) := by decide +kernel
theorem dX4_partOf_36 : decode cX4_partOf 36 = .ok (.ireturn, 1) := by decide +kernel
theorem dX4_partOf_37 : decode cX4_partOf 37 = .ok (.iload_n 3, 1) := by decide +kernel
theorem dX4_partOf_38 : decode cX4_partOf 38 = .ok (.tableswitch 64 0 3 #[30, 37, 50, 57], 30) := by decide +kernel
theorem dX4_partOf_68 : decode cX4_partOf 68 = .ok (.aload_n 0, 1) := by decide +kernel
theorem dX4_partOf_69 : decode cX4_partOf 69 = .ok (.iload_n 1, 1) := by decide +kernel
theorem dX4_partOf_70 : decode cX4_partOf 70 = .ok (.iload_n 2, 1) := by decide +kernel
theorem dX4_partOf_71 : decode cX4_partOf 71 = .ok (.invokevirtual 44, 3) := by decide +kernel
theorem dX4_partOf_74 : decode cX4_partOf 74 = .ok (.ireturn, 1) := by decide +kernel
theorem dX4_partOf_75 : decode cX4_partOf 75 = .ok (.aload_n 0, 1) := by decide +kernel
theorem dX4_partOf_76 : decode cX4_partOf 76 = .ok (.iload_n 1, 1) := by decide +kernel
theorem dX4_partOf_77 : decode cX4_partOf 77 = .ok (.iload_n 2, 1) := by decide +kernel
theorem dX4_partOf_78 : decode cX4_partOf 78 = .ok (.invokevirtual 44, 3) := by decide +kernel
theorem dX4_partOf_81 : decode cX4_partOf 81 = .ok (.aload_n 0, 1) := by decide +kernel
theorem dX4_partOf_82 : decode cX4_partOf 82 = .ok (.iload_n 1, 1) := by decide +kernel
theorem dX4_partOf_83 : decode cX4_partOf 83 = .ok (.invokevirtual 72, 3) := by decide +kernel
theorem dX4_partOf_86 : decode cX4_partOf 86 = .ok (.ishr, 1) := by decide +kernel
theorem dX4_partOf_87 : decode cX4_partOf 87 = .ok (.ireturn, 1) := by decide +kernel
theorem dX4_partOf_88 : decode cX4_partOf 88 = .ok (.aload_n 0, 1) := by decide +kernel
theorem dX4_partOf_89 : decode cX4_partOf 89 = .ok (.iload_n 1, 1) := by decide +kernel
theorem dX4_partOf_90 : decode cX4_partOf 90 = .ok (.iload_n 2, 1) := by decide +kernel
theorem dX4_partOf_91 : decode cX4_partOf 91 = .ok (.invokevirtual 98, 3) := by decide +kernel
theorem dX4_partOf_94 : decode cX4_partOf 94 = .ok (.ireturn, 1) := by decide +kernel
theorem dX4_partOf_95 : decode cX4_partOf 95 = .ok (.aload_n 0, 1) := by decide +kernel
theorem dX4_partOf_96 : decode cX4_partOf 96 = .ok (.iload_n 1, 1) := by decide +kernel
theorem dX4_partOf_97 : decode cX4_partOf 97 = .ok (.iload_n 2, 1) := by decide +kernel
theorem dX4_partOf_98 : decode cX4_partOf 98 = .ok (.invokevirtual 78, 3) := by decide +kernel
theorem dX4_partOf_101 : decode cX4_partOf 101 = .ok (.ireturn, 1) := by decide +kernel
theorem dX4_partOf_102 : decode cX4_partOf 102 = .ok (.aload_n 0, 1) := by decide +kernel
theorem dX4_partOf_103 : decode cX4_partOf 103 = .ok (.iload_n 1, 1) := by decide +kernel
theorem dX4_partOf_104 : decode cX4_partOf 104 = .ok (.iload_n 2, 1) := by decide +kernel
theorem dX4_partOf_105 : decode cX4_partOf 105 = .ok (.invokevirtual 78, 3) := by decide +kernel
theorem dX4_partOf_108 : decode cX4_partOf 108 = .ok (.aload_n 0, 1) := by decide +kernel
theorem dX4_partOf_109 : decode cX4_partOf 109 = .ok (.iload_n 1, 1) := by decide +kernel
theorem dX4_partOf_110 : decode cX4_partOf 110 = .ok (.iload_n 2, 1) := by decide +kernel
theorem dX4_partOf_111 : decode cX4_partOf 111 = .ok (.iconst 4, 1) := by decide +kernel
theorem dX4_partOf_112 : decode cX4_partOf 112 = .ok (.idiv, 1) := by decide +kernel
theorem dX4_partOf_113 : decode cX4_partOf 113 = .ok (.iconst 4, 1) := by decide +kernel
theorem dX4_partOf_114 : decode cX4_partOf 114 = .ok (.imul, 1) := by decide +kernel
theorem dX4_partOf_115 : decode cX4_partOf 115 = .ok (.invokevirtual 78, 3) := by decide +kernel
theorem dX4_partOf_118 : decode cX4_partOf 118 = .ok (.isub, 1) := by decide +kernel
theorem dX4_partOf_119 : decode cX4_partOf 119 = .ok (.ireturn, 1) := by decide +kernel
theorem dX4_sample_0 : decode cX4_sample 0 = .ok (.iload_n 1, 1) := by decide +kernel
theorem dX4_sample_1 : decode cX4_sample 1 = .ok (.iconst 0, 1) := by decide +kernel
theorem dX4_sample_2 : decode cX4_sample 2 = .ok (.iconst 1, 1) := by decide +kernel
theorem dX4_sample_3 : decode cX4_sample 3 = .ok (.invokestatic 48, 3) := by decide +kernel
theorem dX4_sample_6 : decode cX4_sample 6 = .ok (.ifCond .eq 16, 3) := by decide +kernel
theorem dX4_sample_9 : decode cX4_sample 9 = .ok (.iload_n 2, 1) := by decide +kernel
theorem dX4_sample_10 : decode cX4_sample 10 = .ok (.iconst 0, 1) := by decide +kernel
theorem dX4_sample_11 : decode cX4_sample 11 = .ok (.iconst 1, 1) := by decide +kernel
theorem dX4_sample_12 : decode cX4_sample 12 = .ok (.invokestatic 48, 3) := by decide +kernel
theorem dX4_sample_15 : decode cX4_sample 15 = .ok (.ifCond .eq 7, 3) := by decide +kernel
theorem dX4_sample_18 : decode cX4_sample 18 = .ok (.iload_n 3, 1) := by decide +kernel
theorem dX4_sample_19 : decode cX4_sample 19 = .ok (.ifCond .ge 6, 3) := by decide +kernel
theorem dX4_sample_22 : decode cX4_sample 22 = .ok (.ldc 35, 2) := by decide +kernel
theorem dX4_sample_24 : decode cX4_sample 24 = .ok (.ireturn, 1) := by decide +kernel
theorem dX4_sample_25 : decode cX4_sample 25 = .ok (.aload_n 0, 1) := by decide +kernel
theorem dX4_sample_26 : decode cX4_sample 26 = .ok (.iload_n 1, 1) := by decide +kernel
theorem dX4_sample_27 : decode cX4_sample 27 = .ok (.invokevirtual 84, 3) := by decide +kernel
theorem dX4_sample_30 : decode cX4_sample 30 = .ok (.iload_n 2, 1) := by decide +kernel
theorem dX4_sample_31 : decode cX4_sample 31 = .ok (.ifCond .ne 11, 3) := by decide +kernel
theorem dX4_sample_34 : decode cX4_sample 34 = .ok (.aload_n 0, 1) := by decide +kernel
theorem dX4_sample_35 : decode cX4_sample 35 = .ok (.iload_n 1, 1) := by decide +kernel
theorem dX4_sample_36 : decode cX4_sample 36 = .ok (.invokevirtual 40, 3) := by decide +kernel
theorem dX4_sample_39 : decode cX4_sample 39 = .ok (.goto 7, 3) := by decide +kernel
theorem dX4_sample_42 : decode cX4_sample 42 = .ok (.aload_n 0, 1) := by decide +kernel
theorem dX4_sample_43 : decode cX4_sample 43 = .ok (.getfield 81, 3) := by decide +kernel
theorem dX4_sample_46 : decode cX4_sample 46 = .ok (.istore 4, 2) := by decide +kernel
theorem dX4_sample_48 : decode cX4_sample 48 = .ok (.iload_n 3, 1) := by decide +kernel
theorem dX4_sample_49 : decode cX4_sample 49 = .ok (.iload 4, 2) := by decide +kernel
theorem dX4_sample_51 : decode cX4_sample 51 = .ok (.iconst 3, 1) := by decide +kernel
theorem dX4_sample_52 : decode cX4_sample 52 = .ok (.iadd, 1) := by decide +kernel
theorem dX4_sample_53 : decode cX4_sample 53 = .ok (.iconst 4, 1) := by decide +kernel
theorem dX4_sample_54 : decode cX4_sample 54 = .ok (.idiv, 1) := by decide +kernel
theorem dX4_sample_55 : decode cX4_sample 55 = .ok (.if_icmp .lt 6, 3) := by decide +kernel
theorem dX4_sample_58 : decode cX4_sample 58 = .ok (.ldc 97, 2) := by decide +kernel
theorem dX4_sample_60 : decode cX4_sample 60 = .ok (.ireturn, 1) := by decide +kernel
theorem dX4_sample_61 : decode cX4_sample 61 = .ok (.iload_n 2, 1) := by decide +kernel
theorem dX4_sample_62 : decode cX4_sample 62 = .ok (.ifCond .ne 14, 3) := by decide +kernel
theorem dX4_sample_65 : decode cX4_sample 65 = .ok (.aload_n 0, 1) := by decide +kernel
theorem dX4_sample_66 : decode cX4_sample 66 = .ok (.iload_n 1, 1) := by decide +kernel
theorem dX4_sample_67 : decode cX4_sample 67 = .ok (.iconst 4, 1) := by decide +kernel
theorem dX4_sample_68 : decode cX4_sample 68 = .ok (.iload_n 3, 1) := by decide +kernel
theorem dX4_sample_69 : decode cX4_sample 69 = .ok (.imul, 1) := by decide +kernel
theorem dX4_sample_70 : decode cX4_sample 70 = .ok (.invokevirtual 78, 3) := by decide +kernel
theorem dX4_sample_73 : decode cX4_sample 73 = .ok (.goto 11, 3) := by decide +kernel
theorem dX4_sample_76 : decode cX4_sample 76 = .ok (.aload_n 0, 1) := by decide +kernel
theorem dX4_sample_77 : decode cX4_sample 77 = .ok (.getfield 29, 3) := by decide +kernel
theorem dX4_sample_80 : decode cX4_sample 80 = .ok (.iconst 4, 1) := by decide +kernel
theorem dX4_sample_81 : decode cX4_sample 81 = .ok (.iload_n 3, 1) := by decide +kernel
theorem dX4_sample_82 : decode cX4_sample 82 = .ok (.imul, 1) := by decide +kernel
theorem dX4_sample_83 : decode cX4_sample 83 = .ok (.iaload, 1) := by decide +kernel
theorem dX4_sample_84 : decode cX4_sample 84 = .ok (.ireturn, 1) := by decide +kernel
theorem dX4_lowerBits_0 : decode cX4_lowerBits 0 = .ok (.iload_n 1, 1) := by decide +kernel
theorem dX4_lowerBits_1 : decode cX4_lowerBits 1 = .ok (.iconst 0, 1) := by decide +kernel
theorem dX4_lowerBits_2 : decode cX4_lowerBits 2 = .ok (.iconst 1, 1) := by decide +kernel
theorem dX4_lowerBits_3 : decode cX4_lowerBits 3 = .ok (.invokestatic 48, 3) := by decide +kernel
theorem dX4_lowerBits_6 : decode cX4_lowerBits 6 = .ok (.ifCond .eq 7, 3) := by decide +kernel
theorem dX4_lowerBits_9 : decode cX4_lowerBits 9 = .ok (.iload_n 2, 1) := by decide +kernel
theorem dX4_lowerBits_10 : decode cX4_lowerBits 10 = .ok (.ifCond .ge 7, 3) := by decide +kernel
theorem dX4_lowerBits_13 : decode cX4_lowerBits 13 = .ok (.ldc2_w 101, 3) := by decide +kernel
theorem dX4_lowerBits_16 : decode cX4_lowerBits 16 = .ok (.lreturn, 1) := by decide +kernel
theorem dX4_lowerBits_17 : decode cX4_lowerBits 17 = .ok (.aload_n 0, 1) := by decide +kernel
theorem dX4_lowerBits_18 : decode cX4_lowerBits 18 = .ok (.iload_n 1, 1) := by decide +kernel
theorem dX4_lowerBits_19 : decode cX4_lowerBits 19 = .ok (.invokevirtual 72, 3) := by decide +kernel
theorem dX4_lowerBits_22 : decode cX4_lowerBits 22 = .ok (.istore_n 3, 1) := by decide +kernel
theorem dX4_lowerBits_23 : decode cX4_lowerBits 23 = .ok (.aload_n 0, 1) := by decide +kernel
theorem dX4_lowerBits_24 : decode cX4_lowerBits 24 = .ok (.iload_n 1, 1) := by decide +kernel
theorem dX4_lowerBits_25 : decode cX4_lowerBits 25 = .ok (.invokevirtual 40, 3) := by decide +kernel
theorem dX4_lowerBits_28 : decode cX4_lowerBits 28 = .ok (.iload_n 3, 1) := by decide +kernel
theorem dX4_lowerBits_29 : decode cX4_lowerBits 29 = .ok (.imul, 1) := by decide +kernel
theorem dX4_lowerBits_30 : decode cX4_lowerBits 30 = .ok (.istore 4, 2) := by decide +kernel
theorem dX4_lowerBits_32 : decode cX4_lowerBits 32 = .ok (.iload_n 2, 1) := by decide +kernel
theorem dX4_lowerBits_33 : decode cX4_lowerBits 33 = .ok (.sipush 1000, 3) := by decide +kernel
theorem dX4_lowerBits_36 : decode cX4_lowerBits 36 = .ok (.if_icmp .gt 12, 3) := by decide +kernel
theorem dX4_lowerBits_39 : decode cX4_lowerBits 39 = .ok (.bipush 32, 2) := by decide +kernel
theorem dX4_lowerBits_41 : decode cX4_lowerBits 41 = .ok (.iload_n 2, 1) := by decide +kernel
theorem dX4_lowerBits_42 : decode cX4_lowerBits 42 = .ok (.imul, 1) := by decide +kernel
theorem dX4_lowerBits_43 : decode cX4_lowerBits 43 = .ok (.iload 4, 2) := by decide +kernel
theorem dX4_lowerBits_45 : decode cX4_lowerBits 45 = .ok (.if_icmp .lt 7, 3) := by decide +kernel
theorem dX4_lowerBits_48 : decode cX4_lowerBits 48 = .ok (.ldc2_w 103, 3) := by decide +kernel
theorem dX4_lowerBits_51 : decode cX4_lowerBits 51 = .ok (.lreturn, 1) := by decide +kernel
theorem dX4_lowerBits_52 : decode cX4_lowerBits 52 = .ok (.lconst 0, 1) := by decide +kernel
theorem dX4_lowerBits_53 : decode cX4_lowerBits 53 = .ok (.lstore 5, 2) := by decide +kernel
theorem dX4_lowerBits_55 : decode cX4_lowerBits 55 = .ok (.bipush 31, 2) := by decide +kernel
theorem dX4_lowerBits_57 : decode cX4_lowerBits 57 = .ok (.istore 7, 2) := by decide +kernel
theorem dX4_lowerBits_59 : decode cX4_lowerBits 59 = .ok (.iload 7, 2) := by decide +kernel
theorem dX4_lowerBits_61 : decode cX4_lowerBits 61 = .ok (.ifCond .lt 55, 3) := by decide +kernel
theorem dX4_lowerBits_64 : decode cX4_lowerBits 64 = .ok (.bipush 32, 2) := by decide +kernel
theorem dX4_lowerBits_66 : decode cX4_lowerBits 66 = .ok (.iload_n 2, 1) := by decide +kernel
theorem dX4_lowerBits_67 : decode cX4_lowerBits 67 = .ok (.imul, 1) := by decide +kernel
theorem dX4_lowerBits_68 : decode cX4_lowerBits 68 = .ok (.iload 7, 2) := by decide +kernel
theorem dX4_lowerBits_70 : decode cX4_lowerBits 70 = .ok (.iadd, 1) := by decide +kernel
theorem dX4_lowerBits_71 : decode cX4_lowerBits 71 = .ok (.istore 8, 2) := by decide +kernel
theorem dX4_lowerBits_73 : decode cX4_lowerBits 73 = .ok (.ldc2_w 105, 3) := by decide +kernel
theorem dX4_lowerBits_76 : decode cX4_lowerBits 76 = .ok (.lload 5, 2) := by decide +kernel
theorem dX4_lowerBits_78 : decode cX4_lowerBits 78 = .ok (.lmul, 1) := by decide +kernel
theorem dX4_lowerBits_79 : decode cX4_lowerBits 79 = .ok (.iload 8, 2) := by decide +kernel
theorem dX4_lowerBits_81 : decode cX4_lowerBits 81 = .ok (.iload 4, 2) := by decide +kernel
theorem dX4_lowerBits_83 : decode cX4_lowerBits 83 = .ok (.if_icmp .ge 22, 3) := by decide +kernel
theorem dX4_lowerBits_86 : decode cX4_lowerBits 86 = .ok (.aload_n 0, 1) := by decide +kernel
theorem dX4_lowerBits_87 : decode cX4_lowerBits 87 = .ok (.iload_n 1, 1) := by decide +kernel
theorem dX4_lowerBits_88 : decode cX4_lowerBits 88 = .ok (.iload 8, 2) := by decide +kernel
theorem dX4_lowerBits_90 : decode cX4_lowerBits 90 = .ok (.iload_n 3, 1) := by decide +kernel
theorem dX4_lowerBits_91 : decode cX4_lowerBits 91 = .ok (.idiv, 1) := by decide +kernel
theorem dX4_lowerBits_92 : decode cX4_lowerBits 92 = .ok (.invokevirtual 98, 3) := by decide +kernel
theorem dX4_lowerBits_95 : decode cX4_lowerBits 95 = .ok (.iload 8, 2) := by decide +kernel
theorem dX4_lowerBits_97 : decode cX4_lowerBits 97 = .ok (.iload_n 3, 1) := by decide +kernel
theorem dX4_lowerBits_98 : decode cX4_lowerBits 98 = .ok (.irem, 1) := by decide +kernel
theorem dX4_lowerBits_99 : decode cX4_lowerBits 99 = .ok (.ishr, 1) := by decide +kernel
theorem dX4_lowerBits_100 : decode cX4_lowerBits 100 = .ok (.iconst 1, 1) := by decide +kernel
theorem dX4_lowerBits_101 : decode cX4_lowerBits 101 = .ok (.iand, 1) := by decide +kernel
theorem dX4_lowerBits_102 : decode cX4_lowerBits 102 = .ok (.goto 4, 3) := by decide +kernel
theorem dX4_lowerBits_105 : decode cX4_lowerBits 105 = .ok (.iconst 0, 1) := by decide +kernel
theorem dX4_lowerBits_106 : decode cX4_lowerBits 106 = .ok (.i2l, 1) := by decide +kernel
theorem dX4_lowerBits_107 : decode cX4_lowerBits 107 = .ok (.ladd, 1) := by decide +kernel
theorem dX4_lowerBits_108 : decode cX4_lowerBits 108 = .ok (.lstore 5, 2) := by decide +kernel
theorem dX4_lowerBits_110 : decode cX4_lowerBits 110 = .ok (.iinc 7 (-1), 3) := by decide +kernel
theorem dX4_lowerBits_113 : decode cX4_lowerBits 113 = .ok (.goto (-54), 3) := by decide +kernel
theorem dX4_lowerBits_116 : decode cX4_lowerBits 116 = .ok (.lload 5, 2) := by decide +kernel
theorem dX4_lowerBits_118 : decode cX4_lowerBits 118 = .ok (.lreturn, 1) := by decide +kernel
theorem dX4_finds_0 : decode cX4_finds 0 = .ok (.aload_n 0, 1) := by decide +kernel
theorem dX4_finds_1 : decode cX4_finds 1 = .ok (.iload_n 1, 1) := by decide +kernel
theorem dX4_finds_2 : decode cX4_finds 2 = .ok (.invokevirtual 84, 3) := by decide +kernel
theorem dX4_finds_5 : decode cX4_finds 5 = .ok (.aload_n 0, 1) := by decide +kernel
theorem dX4_finds_6 : decode cX4_finds 6 = .ok (.iload_n 1, 1) := by decide +kernel
theorem dX4_finds_7 : decode cX4_finds 7 = .ok (.invokevirtual 72, 3) := by decide +kernel
theorem dX4_finds_10 : decode cX4_finds 10 = .ok (.istore_n 3, 1) := by decide +kernel
theorem dX4_finds_11 : decode cX4_finds 11 = .ok (.iload_n 2, 1) := by decide +kernel
theorem dX4_finds_12 : decode cX4_finds 12 = .ok (.iload_n 3, 1) := by decide +kernel
theorem dX4_finds_13 : decode cX4_finds 13 = .ok (.ishr, 1) := by decide +kernel
theorem dX4_finds_14 : decode cX4_finds 14 = .ok (.istore 4, 2) := by decide +kernel
theorem dX4_finds_16 : decode cX4_finds 16 = .ok (.iload 4, 2) := by decide +kernel
theorem dX4_finds_18 : decode cX4_finds 18 = .ok (.ifCond .ne 7, 3) := by decide +kernel
theorem dX4_finds_21 : decode cX4_finds 21 = .ok (.iconst 0, 1) := by decide +kernel
theorem dX4_finds_22 : decode cX4_finds 22 = .ok (.goto 14, 3) := by decide +kernel
theorem dX4_finds_25 : decode cX4_finds 25 = .ok (.aload_n 0, 1) := by decide +kernel
theorem dX4_finds_26 : decode cX4_finds 26 = .ok (.getfield 29, 3) := by decide +kernel
theorem dX4_finds_29 : decode cX4_finds 29 = .ok (.iload 4, 2) := by decide +kernel
theorem dX4_finds_31 : decode cX4_finds 31 = .ok (.iconst 1, 1) := by decide +kernel
theorem dX4_finds_32 : decode cX4_finds 32 = .ok (.isub, 1) := by decide +kernel
theorem dX4_finds_33 : decode cX4_finds 33 = .ok (.iaload, 1) := by decide +kernel
theorem dX4_finds_34 : decode cX4_finds 34 = .ok (.iconst 1, 1) := by decide +kernel
theorem dX4_finds_35 : decode cX4_finds 35 = .ok (.iadd, 1) := by decide +kernel
theorem dX4_finds_36 : decode cX4_finds 36 = .ok (.istore 5, 2) := by decide +kernel
theorem dX4_finds_38 : decode cX4_finds 38 = .ok (.aload_n 0, 1) := by decide +kernel
theorem dX4_finds_39 : decode cX4_finds 39 = .ok (.iload 4, 2) := by decide +kernel
theorem dX4_finds_41 : decode cX4_finds 41 = .ok (.ifCond .ne 7, 3) := by decide +kernel
theorem dX4_finds_44 : decode cX4_finds 44 = .ok (.iconst 0, 1) := by decide +kernel
theorem dX4_finds_45 : decode cX4_finds 45 = .ok (.goto 26, 3) := by decide +kernel
theorem dX4_finds_48 : decode cX4_finds 48 = .ok (.aload_n 0, 1) := by decide +kernel
theorem dX4_finds_49 : decode cX4_finds 49 = .ok (.getfield 29, 3) := by decide +kernel
theorem dX4_finds_52 : decode cX4_finds 52 = .ok (.iload 4, 2) := by decide +kernel
theorem dX4_finds_54 : decode cX4_finds 54 = .ok (.iconst 1, 1) := by decide +kernel
theorem dX4_finds_55 : decode cX4_finds 55 = .ok (.isub, 1) := by decide +kernel
theorem dX4_finds_56 : decode cX4_finds 56 = .ok (.iaload, 1) := by decide +kernel
theorem dX4_finds_57 : decode cX4_finds 57 = .ok (.aload_n 0, 1) := by decide +kernel
theorem dX4_finds_58 : decode cX4_finds 58 = .ok (.getfield 29, 3) := by decide +kernel
theorem dX4_finds_61 : decode cX4_finds 61 = .ok (.iload 4, 2) := by decide +kernel
theorem dX4_finds_63 : decode cX4_finds 63 = .ok (.iconst 1, 1) := by decide +kernel
theorem dX4_finds_64 : decode cX4_finds 64 = .ok (.isub, 1) := by decide +kernel
theorem dX4_finds_65 : decode cX4_finds 65 = .ok (.iconst 4, 1) := by decide +kernel
theorem dX4_finds_66 : decode cX4_finds 66 = .ok (.idiv, 1) := by decide +kernel
theorem dX4_finds_67 : decode cX4_finds 67 = .ok (.iconst 4, 1) := by decide +kernel
theorem dX4_finds_68 : decode cX4_finds 68 = .ok (.imul, 1) := by decide +kernel
theorem dX4_finds_69 : decode cX4_finds 69 = .ok (.iaload, 1) := by decide +kernel
theorem dX4_finds_70 : decode cX4_finds 70 = .ok (.isub, 1) := by decide +kernel
theorem dX4_finds_71 : decode cX4_finds 71 = .ok (.putfield 107, 3) := by decide +kernel
theorem dX4_finds_74 : decode cX4_finds 74 = .ok (.aload_n 0, 1) := by decide +kernel
theorem dX4_finds_75 : decode cX4_finds 75 = .ok (.iconst (-1), 1) := by decide +kernel
theorem dX4_finds_76 : decode cX4_finds 76 = .ok (.putfield 110, 3) := by decide +kernel
theorem dX4_finds_79 : decode cX4_finds 79 = .ok (.iload 5, 2) := by decide +kernel
theorem dX4_finds_81 : decode cX4_finds 81 = .ok (.iload 4, 2) := by decide +kernel
theorem dX4_finds_83 : decode cX4_finds 83 = .ok (.isub, 1) := by decide +kernel
theorem dX4_finds_84 : decode cX4_finds 84 = .ok (.istore 6, 2) := by decide +kernel
theorem dX4_finds_86 : decode cX4_finds 86 = .ok (.iconst 0, 1) := by decide +kernel
theorem dX4_finds_87 : decode cX4_finds 87 = .ok (.istore 7, 2) := by decide +kernel
theorem dX4_finds_89 : decode cX4_finds 89 = .ok (.iload 5, 2) := by decide +kernel
theorem dX4_finds_91 : decode cX4_finds 91 = .ok (.aload_n 0, 1) := by decide +kernel
theorem dX4_finds_92 : decode cX4_finds 92 = .ok (.getfield 75, 3) := by decide +kernel
theorem dX4_finds_95 : decode cX4_finds 95 = .ok (.if_icmp .ge 77, 3) := by decide +kernel
theorem dX4_finds_98 : decode cX4_finds 98 = .ok (.aload_n 0, 1) := by decide +kernel
theorem dX4_finds_99 : decode cX4_finds 99 = .ok (.getfield 110, 3) := by decide +kernel
theorem dX4_finds_102 : decode cX4_finds 102 = .ok (.ifCond .ge 70, 3) := by decide +kernel
theorem dX4_finds_105 : decode cX4_finds 105 = .ok (.aload_n 0, 1) := by decide +kernel
theorem dX4_finds_106 : decode cX4_finds 106 = .ok (.dup, 1) := by decide +kernel
theorem dX4_finds_107 : decode cX4_finds 107 = .ok (.getfield 107, 3) := by decide +kernel
theorem dX4_finds_110 : decode cX4_finds 110 = .ok (.iconst 1, 1) := by decide +kernel
theorem dX4_finds_111 : decode cX4_finds 111 = .ok (.iadd, 1) := by decide +kernel
theorem dX4_finds_112 : decode cX4_finds 112 = .ok (.putfield 107, 3) := by decide +kernel
theorem dX4_finds_115 : decode cX4_finds 115 = .ok (.aload_n 0, 1) := by decide +kernel
theorem dX4_finds_116 : decode cX4_finds 116 = .ok (.getfield 26, 3) := by decide +kernel
theorem dX4_finds_119 : decode cX4_finds 119 = .ok (.iload 5, 2) := by decide +kernel
theorem dX4_finds_121 : decode cX4_finds 121 = .ok (.iaload, 1) := by decide +kernel
theorem dX4_finds_122 : decode cX4_finds 122 = .ok (.ifCond .ne 9, 3) := by decide +kernel
theorem dX4_finds_125 : decode cX4_finds 125 = .ok (.iconst 1, 1) := by decide +kernel
theorem dX4_finds_126 : decode cX4_finds 126 = .ok (.istore 7, 2) := by decide +kernel
theorem dX4_finds_128 : decode cX4_finds 128 = .ok (.goto 38, 3) := by decide +kernel
theorem dX4_finds_131 : decode cX4_finds 131 = .ok (.aload_n 0, 1) := by decide +kernel
theorem dX4_finds_132 : decode cX4_finds 132 = .ok (.iload 7, 2) := by decide +kernel
theorem dX4_finds_134 : decode cX4_finds 134 = .ok (.ifCond .ne 20, 3) := by decide +kernel
theorem dX4_finds_137 : decode cX4_finds 137 = .ok (.aload_n 0, 1) := by decide +kernel
theorem dX4_finds_138 : decode cX4_finds 138 = .ok (.iload_n 1, 1) := by decide +kernel
theorem dX4_finds_139 : decode cX4_finds 139 = .ok (.iload 6, 2) := by decide +kernel
theorem dX4_finds_141 : decode cX4_finds 141 = .ok (.invokevirtual 98, 3) := by decide +kernel
theorem dX4_finds_144 : decode cX4_finds 144 = .ok (.iload_n 2, 1) := by decide +kernel
theorem dX4_finds_145 : decode cX4_finds 145 = .ok (.iconst 1, 1) := by decide +kernel
theorem dX4_finds_146 : decode cX4_finds 146 = .ok (.iload_n 3, 1) := by decide +kernel
theorem dX4_finds_147 : decode cX4_finds 147 = .ok (.ishl, 1) := by decide +kernel
theorem dX4_finds_148 : decode cX4_finds 148 = .ok (.iconst 1, 1) := by decide +kernel
theorem dX4_finds_149 : decode cX4_finds 149 = .ok (.isub, 1) := by decide +kernel
theorem dX4_finds_150 : decode cX4_finds 150 = .ok (.iand, 1) := by decide +kernel
theorem dX4_finds_151 : decode cX4_finds 151 = .ok (.if_icmp .lt 8, 3) := by decide +kernel
theorem dX4_finds_154 : decode cX4_finds 154 = .ok (.iload 6, 2) := by decide +kernel
theorem dX4_finds_156 : decode cX4_finds 156 = .ok (.goto 4, 3) := by decide +kernel
theorem dX4_finds_159 : decode cX4_finds 159 = .ok (.iconst (-1), 1) := by decide +kernel
theorem dX4_finds_160 : decode cX4_finds 160 = .ok (.putfield 110, 3) := by decide +kernel
theorem dX4_finds_163 : decode cX4_finds 163 = .ok (.iinc 6 1, 3) := by decide +kernel
theorem dX4_finds_166 : decode cX4_finds 166 = .ok (.iinc 5 1, 3) := by decide +kernel
theorem dX4_finds_169 : decode cX4_finds 169 = .ok (.goto (-80), 3) := by decide +kernel
theorem dX4_finds_172 : decode cX4_finds 172 = .ok (.return_, 1) := by decide +kernel
theorem dX4_next_0 : decode cX4_next 0 = .ok (.iload_n 1, 1) := by decide +kernel
theorem dX4_next_1 : decode cX4_next 1 = .ok (.iconst 0, 1) := by decide +kernel
theorem dX4_next_2 : decode cX4_next 2 = .ok (.iconst 1, 1) := by decide +kernel
theorem dX4_next_3 : decode cX4_next 3 = .ok (.invokestatic 48, 3) := by decide +kernel
theorem dX4_next_6 : decode cX4_next 6 = .ok (.ifCond .eq 23, 3) := by decide +kernel
theorem dX4_next_9 : decode cX4_next 9 = .ok (.iload_n 2, 1) := by decide +kernel
theorem dX4_next_10 : decode cX4_next 10 = .ok (.iconst 0, 1) := by decide +kernel
theorem dX4_next_11 : decode cX4_next 11 = .ok (.sipush 4095, 3) := by decide +kernel
theorem dX4_next_14 : decode cX4_next 14 = .ok (.invokestatic 48, 3) := by decide +kernel
theorem dX4_next_17 : decode cX4_next 17 = .ok (.ifCond .eq 12, 3) := by decide +kernel
theorem dX4_next_20 : decode cX4_next 20 = .ok (.iload_n 3, 1) := by decide +kernel
theorem dX4_next_21 : decode cX4_next 21 = .ok (.iconst 0, 1) := by decide +kernel
theorem dX4_next_22 : decode cX4_next 22 = .ok (.iconst 2, 1) := by decide +kernel
theorem dX4_next_23 : decode cX4_next 23 = .ok (.invokestatic 48, 3) := by decide +kernel
theorem dX4_next_26 : decode cX4_next 26 = .ok (.ifCond .ne 6, 3) := by decide +kernel
theorem dX4_next_29 : decode cX4_next 29 = .ok (.ldc 35, 2) := by decide +kernel
theorem dX4_next_31 : decode cX4_next 31 = .ok (.ireturn, 1) := by decide +kernel
theorem dX4_next_32 : decode cX4_next 32 = .ok (.iload_n 2, 1) := by decide +kernel
theorem dX4_next_33 : decode cX4_next 33 = .ok (.aload_n 0, 1) := by decide +kernel
theorem dX4_next_34 : decode cX4_next 34 = .ok (.getfield 7, 3) := by decide +kernel
theorem dX4_next_37 : decode cX4_next 37 = .ok (.bipush 42, 2) := by decide +kernel
theorem dX4_next_39 : decode cX4_next 39 = .ok (.iload_n 1, 1) := by decide +kernel
theorem dX4_next_40 : decode cX4_next 40 = .ok (.imul, 1) := by decide +kernel
theorem dX4_next_41 : decode cX4_next 41 = .ok (.iconst 1, 1) := by decide +kernel
theorem dX4_next_42 : decode cX4_next 42 = .ok (.iadd, 1) := by decide +kernel
theorem dX4_next_43 : decode cX4_next 43 = .ok (.iaload, 1) := by decide +kernel
theorem dX4_next_44 : decode cX4_next 44 = .ok (.if_icmp .lt 6, 3) := by decide +kernel
theorem dX4_next_47 : decode cX4_next 47 = .ok (.ldc 97, 2) := by decide +kernel
theorem dX4_next_49 : decode cX4_next 49 = .ok (.ireturn, 1) := by decide +kernel
theorem dX4_next_50 : decode cX4_next 50 = .ok (.aload_n 0, 1) := by decide +kernel
theorem dX4_next_51 : decode cX4_next 51 = .ok (.iload_n 1, 1) := by decide +kernel
theorem dX4_next_52 : decode cX4_next 52 = .ok (.iload_n 2, 1) := by decide +kernel
theorem dX4_next_53 : decode cX4_next 53 = .ok (.invokevirtual 113, 3) := by decide +kernel
theorem dX4_next_56 : decode cX4_next 56 = .ok (.iload_n 3, 1) := by decide +kernel
theorem dX4_next_57 : decode cX4_next 57 = .ok (.iconst 2, 1) := by decide +kernel
theorem dX4_next_58 : decode cX4_next 58 = .ok (.if_icmp .ne 8, 3) := by decide +kernel
theorem dX4_next_61 : decode cX4_next 61 = .ok (.aload_n 0, 1) := by decide +kernel
theorem dX4_next_62 : decode cX4_next 62 = .ok (.getfield 107, 3) := by decide +kernel
theorem dX4_next_65 : decode cX4_next 65 = .ok (.ireturn, 1) := by decide +kernel
theorem dX4_next_66 : decode cX4_next 66 = .ok (.aload_n 0, 1) := by decide +kernel
theorem dX4_next_67 : decode cX4_next 67 = .ok (.getfield 110, 3) := by decide +kernel
theorem dX4_next_70 : decode cX4_next 70 = .ok (.ifCond .ge 8, 3) := by decide +kernel
theorem dX4_next_73 : decode cX4_next 73 = .ok (.ldc 97, 2) := by decide +kernel
theorem dX4_next_75 : decode cX4_next 75 = .ok (.goto 23, 3) := by decide +kernel
theorem dX4_next_78 : decode cX4_next 78 = .ok (.iload_n 3, 1) := by decide +kernel
theorem dX4_next_79 : decode cX4_next 79 = .ok (.ifCond .ne 15, 3) := by decide +kernel
theorem dX4_next_82 : decode cX4_next 82 = .ok (.aload_n 0, 1) := by decide +kernel
theorem dX4_next_83 : decode cX4_next 83 = .ok (.iload_n 1, 1) := by decide +kernel
theorem dX4_next_84 : decode cX4_next 84 = .ok (.aload_n 0, 1) := by decide +kernel
theorem dX4_next_85 : decode cX4_next 85 = .ok (.getfield 110, 3) := by decide +kernel
theorem dX4_next_88 : decode cX4_next 88 = .ok (.invokevirtual 44, 3) := by decide +kernel
theorem dX4_next_91 : decode cX4_next 91 = .ok (.goto 7, 3) := by decide +kernel
theorem dX4_next_94 : decode cX4_next 94 = .ok (.aload_n 0, 1) := by decide +kernel
theorem dX4_next_95 : decode cX4_next 95 = .ok (.getfield 110, 3) := by decide +kernel
theorem dX4_next_98 : decode cX4_next 98 = .ok (.ireturn, 1) := by decide +kernel
theorem dX4_below_0 : decode cX4_below 0 = .ok (.iload_n 1, 1) := by decide +kernel
theorem dX4_below_1 : decode cX4_below 1 = .ok (.iconst 0, 1) := by decide +kernel
theorem dX4_below_2 : decode cX4_below 2 = .ok (.iconst 1, 1) := by decide +kernel
theorem dX4_below_3 : decode cX4_below 3 = .ok (.invokestatic 48, 3) := by decide +kernel
theorem dX4_below_6 : decode cX4_below 6 = .ok (.ifCond .eq 23, 3) := by decide +kernel
theorem dX4_below_9 : decode cX4_below 9 = .ok (.iload_n 2, 1) := by decide +kernel
theorem dX4_below_10 : decode cX4_below 10 = .ok (.iconst 0, 1) := by decide +kernel
theorem dX4_below_11 : decode cX4_below 11 = .ok (.sipush 4096, 3) := by decide +kernel
theorem dX4_below_14 : decode cX4_below 14 = .ok (.invokestatic 48, 3) := by decide +kernel
theorem dX4_below_17 : decode cX4_below 17 = .ok (.ifCond .eq 12, 3) := by decide +kernel
theorem dX4_below_20 : decode cX4_below 20 = .ok (.aload_n 0, 1) := by decide +kernel
theorem dX4_below_21 : decode cX4_below 21 = .ok (.iload_n 1, 1) := by decide +kernel
theorem dX4_below_22 : decode cX4_below 22 = .ok (.iload_n 2, 1) := by decide +kernel
theorem dX4_below_23 : decode cX4_below 23 = .ok (.invokevirtual 57, 3) := by decide +kernel
theorem dX4_below_26 : decode cX4_below 26 = .ok (.goto 5, 3) := by decide +kernel
theorem dX4_below_29 : decode cX4_below 29 = .ok (.ldc 35, 2) := by decide +kernel
theorem dX4_below_31 : decode cX4_below 31 = .ok (.ireturn, 1) := by decide +kernel
theorem dX4_has_0 : decode cX4_has 0 = .ok (.aload_n 0, 1) := by decide +kernel
theorem dX4_has_1 : decode cX4_has 1 = .ok (.iload_n 1, 1) := by decide +kernel
theorem dX4_has_2 : decode cX4_has 2 = .ok (.iload_n 2, 1) := by decide +kernel
theorem dX4_has_3 : decode cX4_has 3 = .ok (.invokevirtual 57, 3) := by decide +kernel
theorem dX4_has_6 : decode cX4_has 6 = .ok (.istore_n 3, 1) := by decide +kernel
theorem dX4_has_7 : decode cX4_has 7 = .ok (.iload_n 3, 1) := by decide +kernel
theorem dX4_has_8 : decode cX4_has 8 = .ok (.aload_n 0, 1) := by decide +kernel
theorem dX4_has_9 : decode cX4_has 9 = .ok (.iload_n 1, 1) := by decide +kernel
theorem dX4_has_10 : decode cX4_has 10 = .ok (.invokevirtual 40, 3) := by decide +kernel
theorem dX4_has_13 : decode cX4_has 13 = .ok (.if_icmp .ge 17, 3) := by decide +kernel
theorem dX4_has_16 : decode cX4_has 16 = .ok (.aload_n 0, 1) := by decide +kernel
theorem dX4_has_17 : decode cX4_has 17 = .ok (.iload_n 1, 1) := by decide +kernel
theorem dX4_has_18 : decode cX4_has 18 = .ok (.iload_n 3, 1) := by decide +kernel
theorem dX4_has_19 : decode cX4_has 19 = .ok (.invokevirtual 44, 3) := by decide +kernel
theorem dX4_has_22 : decode cX4_has 22 = .ok (.iload_n 2, 1) := by decide +kernel
theorem dX4_has_23 : decode cX4_has 23 = .ok (.if_icmp .ne 7, 3) := by decide +kernel
theorem dX4_has_26 : decode cX4_has 26 = .ok (.iconst 1, 1) := by decide +kernel
theorem dX4_has_27 : decode cX4_has 27 = .ok (.goto 4, 3) := by decide +kernel
theorem dX4_has_30 : decode cX4_has 30 = .ok (.iconst 0, 1) := by decide +kernel
theorem dX4_has_31 : decode cX4_has 31 = .ok (.ireturn, 1) := by decide +kernel
theorem dX4_times_0 : decode cX4_times 0 = .ok (.aload_n 0, 1) := by decide +kernel
theorem dX4_times_1 : decode cX4_times 1 = .ok (.iload_n 1, 1) := by decide +kernel
theorem dX4_times_2 : decode cX4_times 2 = .ok (.iload_n 2, 1) := by decide +kernel
theorem dX4_times_3 : decode cX4_times 3 = .ok (.iconst 1, 1) := by decide +kernel
theorem dX4_times_4 : decode cX4_times 4 = .ok (.iadd, 1) := by decide +kernel
theorem dX4_times_5 : decode cX4_times 5 = .ok (.invokevirtual 57, 3) := by decide +kernel
theorem dX4_times_8 : decode cX4_times 8 = .ok (.aload_n 0, 1) := by decide +kernel
theorem dX4_times_9 : decode cX4_times 9 = .ok (.iload_n 1, 1) := by decide +kernel
theorem dX4_times_10 : decode cX4_times 10 = .ok (.iload_n 2, 1) := by decide +kernel
theorem dX4_times_11 : decode cX4_times 11 = .ok (.invokevirtual 57, 3) := by decide +kernel
theorem dX4_times_14 : decode cX4_times 14 = .ok (.isub, 1) := by decide +kernel
theorem dX4_times_15 : decode cX4_times 15 = .ok (.ireturn, 1) := by decide +kernel
theorem dX4_difference_0 : decode cX4_difference 0 = .ok (.ldc 97, 2) := by decide +kernel
theorem dX4_difference_2 : decode cX4_difference 2 = .ok (.istore_n 1, 1) := by decide +kernel
theorem dX4_difference_3 : decode cX4_difference 3 = .ok (.iconst 0, 1) := by decide +kernel
theorem dX4_difference_4 : decode cX4_difference 4 = .ok (.istore_n 2, 1) := by decide +kernel
theorem dX4_difference_5 : decode cX4_difference 5 = .ok (.iload_n 2, 1) := by decide +kernel
theorem dX4_difference_6 : decode cX4_difference 6 = .ok (.aload_n 0, 1) := by decide +kernel
theorem dX4_difference_7 : decode cX4_difference 7 = .ok (.iconst 0, 1) := by decide +kernel
theorem dX4_difference_8 : decode cX4_difference 8 = .ok (.invokevirtual 40, 3) := by decide +kernel
theorem dX4_difference_11 : decode cX4_difference 11 = .ok (.if_icmp .ge 73, 3) := by decide +kernel
theorem dX4_difference_14 : decode cX4_difference 14 = .ok (.iconst 0, 1) := by decide +kernel
theorem dX4_difference_15 : decode cX4_difference 15 = .ok (.istore_n 3, 1) := by decide +kernel
theorem dX4_difference_16 : decode cX4_difference 16 = .ok (.iload_n 3, 1) := by decide +kernel
theorem dX4_difference_17 : decode cX4_difference 17 = .ok (.aload_n 0, 1) := by decide +kernel
theorem dX4_difference_18 : decode cX4_difference 18 = .ok (.iconst 1, 1) := by decide +kernel
theorem dX4_difference_19 : decode cX4_difference 19 = .ok (.invokevirtual 40, 3) := by decide +kernel
theorem dX4_difference_22 : decode cX4_difference 22 = .ok (.if_icmp .ge 56, 3) := by decide +kernel
theorem dX4_difference_25 : decode cX4_difference 25 = .ok (.aload_n 0, 1) := by decide +kernel
theorem dX4_difference_26 : decode cX4_difference 26 = .ok (.iconst 0, 1) := by decide +kernel
theorem dX4_difference_27 : decode cX4_difference 27 = .ok (.iload_n 2, 1) := by decide +kernel
theorem dX4_difference_28 : decode cX4_difference 28 = .ok (.invokevirtual 44, 3) := by decide +kernel
theorem dX4_difference_31 : decode cX4_difference 31 = .ok (.aload_n 0, 1) := by decide +kernel
theorem dX4_difference_32 : decode cX4_difference 32 = .ok (.iconst 1, 1) := by decide +kernel
theorem dX4_difference_33 : decode cX4_difference 33 = .ok (.iload_n 3, 1) := by decide +kernel
theorem dX4_difference_34 : decode cX4_difference 34 = .ok (.invokevirtual 44, 3) := by decide +kernel
theorem dX4_difference_37 : decode cX4_difference 37 = .ok (.isub, 1) := by decide +kernel
theorem dX4_difference_38 : decode cX4_difference 38 = .ok (.istore 4, 2) := by decide +kernel
theorem dX4_difference_40 : decode cX4_difference 40 = .ok (.iload 4, 2) := by decide +kernel
theorem dX4_difference_42 : decode cX4_difference 42 = .ok (.ifCond .ge 9, 3) := by decide +kernel
theorem dX4_difference_45 : decode cX4_difference 45 = .ok (.iload 4, 2) := by decide +kernel
theorem dX4_difference_47 : decode cX4_difference 47 = .ok (.ineg, 1) := by decide +kernel
theorem dX4_difference_48 : decode cX4_difference 48 = .ok (.goto 5, 3) := by decide +kernel
theorem dX4_difference_51 : decode cX4_difference 51 = .ok (.iload 4, 2) := by decide +kernel
theorem dX4_difference_53 : decode cX4_difference 53 = .ok (.istore 4, 2) := by decide +kernel
theorem dX4_difference_55 : decode cX4_difference 55 = .ok (.iload_n 1, 1) := by decide +kernel
theorem dX4_difference_56 : decode cX4_difference 56 = .ok (.ifCond .lt 9, 3) := by decide +kernel
theorem dX4_difference_59 : decode cX4_difference 59 = .ok (.iload 4, 2) := by decide +kernel
theorem dX4_difference_61 : decode cX4_difference 61 = .ok (.iload_n 1, 1) := by decide +kernel
theorem dX4_difference_62 : decode cX4_difference 62 = .ok (.if_icmp .ge 8, 3) := by decide +kernel
theorem dX4_difference_65 : decode cX4_difference 65 = .ok (.iload 4, 2) := by decide +kernel
theorem dX4_difference_67 : decode cX4_difference 67 = .ok (.goto 4, 3) := by decide +kernel
theorem dX4_difference_70 : decode cX4_difference 70 = .ok (.iload_n 1, 1) := by decide +kernel
theorem dX4_difference_71 : decode cX4_difference 71 = .ok (.istore_n 1, 1) := by decide +kernel
theorem dX4_difference_72 : decode cX4_difference 72 = .ok (.iinc 3 1, 3) := by decide +kernel
theorem dX4_difference_75 : decode cX4_difference 75 = .ok (.goto (-59), 3) := by decide +kernel
theorem dX4_difference_78 : decode cX4_difference 78 = .ok (.iinc 2 1, 3) := by decide +kernel
theorem dX4_difference_81 : decode cX4_difference 81 = .ok (.goto (-76), 3) := by decide +kernel
theorem dX4_difference_84 : decode cX4_difference 84 = .ok (.iload_n 1, 1) := by decide +kernel
theorem dX4_difference_85 : decode cX4_difference 85 = .ok (.ireturn, 1) := by decide +kernel
theorem dX4_common_0 : decode cX4_common 0 = .ok (.iload_n 1, 1) := by decide +kernel
theorem dX4_common_1 : decode cX4_common 1 = .ok (.iconst 0, 1) := by decide +kernel
theorem dX4_common_2 : decode cX4_common 2 = .ok (.iconst 4, 1) := by decide +kernel
theorem dX4_common_3 : decode cX4_common 3 = .ok (.invokestatic 48, 3) := by decide +kernel
theorem dX4_common_6 : decode cX4_common 6 = .ok (.ifCond .ne 6, 3) := by decide +kernel
theorem dX4_common_9 : decode cX4_common 9 = .ok (.ldc 35, 2) := by decide +kernel
theorem dX4_common_11 : decode cX4_common 11 = .ok (.ireturn, 1) := by decide +kernel
theorem dX4_common_12 : decode cX4_common 12 = .ok (.iconst 0, 1) := by decide +kernel
theorem dX4_common_13 : decode cX4_common 13 = .ok (.istore_n 2, 1) := by decide +kernel
theorem dX4_common_14 : decode cX4_common 14 = .ok (.iconst 0, 1) := by decide +kernel
theorem dX4_common_15 : decode cX4_common 15 = .ok (.istore_n 3, 1) := by decide +kernel
theorem dX4_common_16 : decode cX4_common 16 = .ok (.iconst 0, 1) := by decide +kernel
theorem dX4_common_17 : decode cX4_common 17 = .ok (.istore 4, 2) := by decide +kernel
theorem dX4_common_19 : decode cX4_common 19 = .ok (.ldc 97, 2) := by decide +kernel
theorem dX4_common_21 : decode cX4_common 21 = .ok (.istore 5, 2) := by decide +kernel
theorem dX4_common_23 : decode cX4_common 23 = .ok (.aload_n 0, 1) := by decide +kernel
theorem dX4_common_24 : decode cX4_common 24 = .ok (.iconst 0, 1) := by decide +kernel
theorem dX4_common_25 : decode cX4_common 25 = .ok (.invokevirtual 40, 3) := by decide +kernel
theorem dX4_common_28 : decode cX4_common 28 = .ok (.iconst 1, 1) := by decide +kernel
theorem dX4_common_29 : decode cX4_common 29 = .ok (.isub, 1) := by decide +kernel
theorem dX4_common_30 : decode cX4_common 30 = .ok (.istore 6, 2) := by decide +kernel
theorem dX4_common_32 : decode cX4_common 32 = .ok (.iload 6, 2) := by decide +kernel
theorem dX4_common_34 : decode cX4_common 34 = .ok (.ifCond .lt 151, 3) := by decide +kernel
theorem dX4_common_37 : decode cX4_common 37 = .ok (.aload_n 0, 1) := by decide +kernel
theorem dX4_common_38 : decode cX4_common 38 = .ok (.iconst 0, 1) := by decide +kernel
theorem dX4_common_39 : decode cX4_common 39 = .ok (.iload 6, 2) := by decide +kernel
theorem dX4_common_41 : decode cX4_common 41 = .ok (.invokevirtual 44, 3) := by decide +kernel
theorem dX4_common_44 : decode cX4_common 44 = .ok (.istore 7, 2) := by decide +kernel
theorem dX4_common_46 : decode cX4_common 46 = .ok (.iload 6, 2) := by decide +kernel
theorem dX4_common_48 : decode cX4_common 48 = .ok (.ifCond .eq 17, 3) := by decide +kernel
theorem dX4_common_51 : decode cX4_common 51 = .ok (.aload_n 0, 1) := by decide +kernel
theorem dX4_common_52 : decode cX4_common 52 = .ok (.iconst 0, 1) := by decide +kernel
theorem dX4_common_53 : decode cX4_common 53 = .ok (.iload 6, 2) := by decide +kernel
theorem dX4_common_55 : decode cX4_common 55 = .ok (.iconst 1, 1) := by decide +kernel
theorem dX4_common_56 : decode cX4_common 56 = .ok (.isub, 1) := by decide +kernel
theorem dX4_common_57 : decode cX4_common 57 = .ok (.invokevirtual 44, 3) := by decide +kernel
theorem dX4_common_60 : decode cX4_common 60 = .ok (.iload 7, 2) := by decide +kernel
theorem dX4_common_62 : decode cX4_common 62 = .ok (.if_icmp .eq 7, 3) := by decide +kernel
theorem dX4_common_65 : decode cX4_common 65 = .ok (.iconst 1, 1) := by decide +kernel
theorem dX4_common_66 : decode cX4_common 66 = .ok (.goto 4, 3) := by decide +kernel
theorem dX4_common_69 : decode cX4_common 69 = .ok (.iconst 0, 1) := by decide +kernel
theorem dX4_common_70 : decode cX4_common 70 = .ok (.istore 8, 2) := by decide +kernel
theorem dX4_common_72 : decode cX4_common 72 = .ok (.aload_n 0, 1) := by decide +kernel
theorem dX4_common_73 : decode cX4_common 73 = .ok (.iconst 1, 1) := by decide +kernel
theorem dX4_common_74 : decode cX4_common 74 = .ok (.iload 7, 2) := by decide +kernel
theorem dX4_common_76 : decode cX4_common 76 = .ok (.invokevirtual 117, 3) := by decide +kernel
theorem dX4_common_79 : decode cX4_common 79 = .ok (.istore 9, 2) := by decide +kernel
theorem dX4_common_81 : decode cX4_common 81 = .ok (.iload_n 2, 1) := by decide +kernel
theorem dX4_common_82 : decode cX4_common 82 = .ok (.iload 8, 2) := by decide +kernel
theorem dX4_common_84 : decode cX4_common 84 = .ok (.ifCond .eq 12, 3) := by decide +kernel
theorem dX4_common_87 : decode cX4_common 87 = .ok (.iload 9, 2) := by decide +kernel
theorem dX4_common_89 : decode cX4_common 89 = .ok (.ifCond .eq 7, 3) := by decide +kernel
theorem dX4_common_92 : decode cX4_common 92 = .ok (.iconst 1, 1) := by decide +kernel
theorem dX4_common_93 : decode cX4_common 93 = .ok (.goto 4, 3) := by decide +kernel
theorem dX4_common_96 : decode cX4_common 96 = .ok (.iconst 0, 1) := by decide +kernel
theorem dX4_common_97 : decode cX4_common 97 = .ok (.iadd, 1) := by decide +kernel
theorem dX4_common_98 : decode cX4_common 98 = .ok (.istore_n 2, 1) := by decide +kernel
theorem dX4_common_99 : decode cX4_common 99 = .ok (.iload 4, 2) := by decide +kernel
theorem dX4_common_101 : decode cX4_common 101 = .ok (.iload 8, 2) := by decide +kernel
theorem dX4_common_103 : decode cX4_common 103 = .ok (.ifCond .eq 12, 3) := by decide +kernel
theorem dX4_common_106 : decode cX4_common 106 = .ok (.iload 9, 2) := by decide +kernel
theorem dX4_common_108 : decode cX4_common 108 = .ok (.ifCond .ne 7, 3) := by decide +kernel
theorem dX4_common_111 : decode cX4_common 111 = .ok (.iconst 1, 1) := by decide +kernel
theorem dX4_common_112 : decode cX4_common 112 = .ok (.goto 4, 3) := by decide +kernel
theorem dX4_common_115 : decode cX4_common 115 = .ok (.iconst 0, 1) := by decide +kernel
theorem dX4_common_116 : decode cX4_common 116 = .ok (.iadd, 1) := by decide +kernel
theorem dX4_common_117 : decode cX4_common 117 = .ok (.istore 4, 2) := by decide +kernel
theorem dX4_common_119 : decode cX4_common 119 = .ok (.iload_n 3, 1) := by decide +kernel
theorem dX4_common_120 : decode cX4_common 120 = .ok (.iload 8, 2) := by decide +kernel
theorem dX4_common_122 : decode cX4_common 122 = .ok (.ifCond .ne 7, 3) := by decide +kernel
theorem dX4_common_125 : decode cX4_common 125 = .ok (.iconst 0, 1) := by decide +kernel
theorem dX4_common_126 : decode cX4_common 126 = .ok (.goto 37, 3) := by decide +kernel
theorem dX4_common_129 : decode cX4_common 129 = .ok (.aload_n 0, 1) := by decide +kernel
theorem dX4_common_130 : decode cX4_common 130 = .ok (.iconst 0, 1) := by decide +kernel
theorem dX4_common_131 : decode cX4_common 131 = .ok (.iload 7, 2) := by decide +kernel
theorem dX4_common_133 : decode cX4_common 133 = .ok (.invokevirtual 121, 3) := by decide +kernel
theorem dX4_common_136 : decode cX4_common 136 = .ok (.aload_n 0, 1) := by decide +kernel
theorem dX4_common_137 : decode cX4_common 137 = .ok (.iconst 1, 1) := by decide +kernel
theorem dX4_common_138 : decode cX4_common 138 = .ok (.iload 7, 2) := by decide +kernel
theorem dX4_common_140 : decode cX4_common 140 = .ok (.invokevirtual 121, 3) := by decide +kernel
theorem dX4_common_143 : decode cX4_common 143 = .ok (.if_icmp .ge 13, 3) := by decide +kernel
theorem dX4_common_146 : decode cX4_common 146 = .ok (.aload_n 0, 1) := by decide +kernel
theorem dX4_common_147 : decode cX4_common 147 = .ok (.iconst 0, 1) := by decide +kernel
theorem dX4_common_148 : decode cX4_common 148 = .ok (.iload 7, 2) := by decide +kernel
theorem dX4_common_150 : decode cX4_common 150 = .ok (.invokevirtual 121, 3) := by decide +kernel
theorem dX4_common_153 : decode cX4_common 153 = .ok (.goto 10, 3) := by decide +kernel
theorem dX4_common_156 : decode cX4_common 156 = .ok (.aload_n 0, 1) := by decide +kernel
theorem dX4_common_157 : decode cX4_common 157 = .ok (.iconst 1, 1) := by decide +kernel
theorem dX4_common_158 : decode cX4_common 158 = .ok (.iload 7, 2) := by decide +kernel
theorem dX4_common_160 : decode cX4_common 160 = .ok (.invokevirtual 121, 3) := by decide +kernel
theorem dX4_common_163 : decode cX4_common 163 = .ok (.iadd, 1) := by decide +kernel
theorem dX4_common_164 : decode cX4_common 164 = .ok (.istore_n 3, 1) := by decide +kernel
theorem dX4_common_165 : decode cX4_common 165 = .ok (.iload 9, 2) := by decide +kernel
theorem dX4_common_167 : decode cX4_common 167 = .ok (.ifCond .eq 8, 3) := by decide +kernel
theorem dX4_common_170 : decode cX4_common 170 = .ok (.iload 7, 2) := by decide +kernel
theorem dX4_common_172 : decode cX4_common 172 = .ok (.goto 5, 3) := by decide +kernel
theorem dX4_common_175 : decode cX4_common 175 = .ok (.iload 5, 2) := by decide +kernel
theorem dX4_common_177 : decode cX4_common 177 = .ok (.istore 5, 2) := by decide +kernel
theorem dX4_common_179 : decode cX4_common 179 = .ok (.iinc 6 (-1), 3) := by decide +kernel
theorem dX4_common_182 : decode cX4_common 182 = .ok (.goto (-150), 3) := by decide +kernel
theorem dX4_common_185 : decode cX4_common 185 = .ok (.iload_n 1, 1) := by decide +kernel
theorem dX4_common_186 : decode cX4_common 186 = .ok (.tableswitch 40 0 3 #[30, 32, 34, 37], 30) := by decide +kernel
theorem dX4_common_216 : decode cX4_common 216 = .ok (.iload_n 2, 1) := by decide +kernel
theorem dX4_common_217 : decode cX4_common 217 = .ok (.ireturn, 1) := by decide +kernel
theorem dX4_common_218 : decode cX4_common 218 = .ok (.iload_n 3, 1) := by decide +kernel
theorem dX4_common_219 : decode cX4_common 219 = .ok (.ireturn, 1) := by decide +kernel
theorem dX4_common_220 : decode cX4_common 220 = .ok (.iload 4, 2) := by decide +kernel
theorem dX4_common_222 : decode cX4_common 222 = .ok (.ireturn, 1) := by decide +kernel
theorem dX4_common_223 : decode cX4_common 223 = .ok (.iload 5, 2) := by decide +kernel
theorem dX4_common_225 : decode cX4_common 225 = .ok (.ireturn, 1) := by decide +kernel
theorem dX4_common_226 : decode cX4_common 226 = .ok (.aload_n 0, 1) := by decide +kernel
theorem dX4_common_227 : decode cX4_common 227 = .ok (.invokevirtual 124, 3) := by decide +kernel
theorem dX4_common_230 : decode cX4_common 230 = .ok (.ireturn, 1) := by decide +kernel
theorem dX4_quotient_0 : decode cX4_quotient 0 = .ok (.iload_n 0, 1) := by decide +kernel
theorem dX4_quotient_1 : decode cX4_quotient 1 = .ok (.i2l, 1) := by decide +kernel
theorem dX4_quotient_2 : decode cX4_quotient 2 = .ok (.lstore_n 2, 1) := by decide +kernel
theorem dX4_quotient_3 : decode cX4_quotient 3 = .ok (.iload_n 1, 1) := by decide +kernel
theorem dX4_quotient_4 : decode cX4_quotient 4 = .ok (.i2l, 1) := by decide +kernel
theorem dX4_quotient_5 : decode cX4_quotient 5 = .ok (.lstore 4, 2) := by decide +kernel
theorem dX4_quotient_7 : decode cX4_quotient 7 = .ok (.sipush 150, 3) := by decide +kernel
theorem dX4_quotient_10 : decode cX4_quotient 10 = .ok (.istore 6, 2) := by decide +kernel
theorem dX4_quotient_12 : decode cX4_quotient 12 = .ok (.lload_n 2, 1) := by decide +kernel
theorem dX4_quotient_13 : decode cX4_quotient 13 = .ok (.ldc2_w 128, 3) := by decide +kernel
theorem dX4_quotient_16 : decode cX4_quotient 16 = .ok (.lload 4, 2) := by decide +kernel
theorem dX4_quotient_18 : decode cX4_quotient 18 = .ok (.lmul, 1) := by decide +kernel
theorem dX4_quotient_19 : decode cX4_quotient 19 = .ok (.lcmp, 1) := by decide +kernel
theorem dX4_quotient_20 : decode cX4_quotient 20 = .ok (.ifCond .ge 15, 3) := by decide +kernel
theorem dX4_quotient_23 : decode cX4_quotient 23 = .ok (.lload_n 2, 1) := by decide +kernel
theorem dX4_quotient_24 : decode cX4_quotient 24 = .ok (.ldc2_w 105, 3) := by decide +kernel
theorem dX4_quotient_27 : decode cX4_quotient 27 = .ok (.lmul, 1) := by decide +kernel
theorem dX4_quotient_28 : decode cX4_quotient 28 = .ok (.lstore_n 2, 1) := by decide +kernel
theorem dX4_quotient_29 : decode cX4_quotient 29 = .ok (.iinc 6 (-1), 3) := by decide +kernel
theorem dX4_quotient_32 : decode cX4_quotient 32 = .ok (.goto (-20), 3) := by decide +kernel
theorem dX4_quotient_35 : decode cX4_quotient 35 = .ok (.lload_n 2, 1) := by decide +kernel
theorem dX4_quotient_36 : decode cX4_quotient 36 = .ok (.ldc2_w 130, 3) := by decide +kernel
theorem dX4_quotient_39 : decode cX4_quotient 39 = .ok (.lload 4, 2) := by decide +kernel
theorem dX4_quotient_41 : decode cX4_quotient 41 = .ok (.lmul, 1) := by decide +kernel
theorem dX4_quotient_42 : decode cX4_quotient 42 = .ok (.lcmp, 1) := by decide +kernel
theorem dX4_quotient_43 : decode cX4_quotient 43 = .ok (.ifCond .lt 17, 3) := by decide +kernel
theorem dX4_quotient_46 : decode cX4_quotient 46 = .ok (.lload 4, 2) := by decide +kernel
theorem dX4_quotient_48 : decode cX4_quotient 48 = .ok (.ldc2_w 105, 3) := by decide +kernel
theorem dX4_quotient_51 : decode cX4_quotient 51 = .ok (.lmul, 1) := by decide +kernel
theorem dX4_quotient_52 : decode cX4_quotient 52 = .ok (.lstore 4, 2) := by decide +kernel
theorem dX4_quotient_54 : decode cX4_quotient 54 = .ok (.iinc 6 1, 3) := by decide +kernel
theorem dX4_quotient_57 : decode cX4_quotient 57 = .ok (.goto (-22), 3) := by decide +kernel
theorem dX4_quotient_60 : decode cX4_quotient 60 = .ok (.lload_n 2, 1) := by decide +kernel
theorem dX4_quotient_61 : decode cX4_quotient 61 = .ok (.lload 4, 2) := by decide +kernel
theorem dX4_quotient_63 : decode cX4_quotient 63 = .ok (.ldiv, 1) := by decide +kernel
theorem dX4_quotient_64 : decode cX4_quotient 64 = .ok (.lstore 7, 2) := by decide +kernel
theorem dX4_quotient_66 : decode cX4_quotient 66 = .ok (.ldc2_w 105, 3) := by decide +kernel
theorem dX4_quotient_69 : decode cX4_quotient 69 = .ok (.lload_n 2, 1) := by decide +kernel
theorem dX4_quotient_70 : decode cX4_quotient 70 = .ok (.lload 4, 2) := by decide +kernel
theorem dX4_quotient_72 : decode cX4_quotient 72 = .ok (.lrem, 1) := by decide +kernel
theorem dX4_quotient_73 : decode cX4_quotient 73 = .ok (.lmul, 1) := by decide +kernel
theorem dX4_quotient_74 : decode cX4_quotient 74 = .ok (.lstore 9, 2) := by decide +kernel
theorem dX4_quotient_76 : decode cX4_quotient 76 = .ok (.lload 7, 2) := by decide +kernel
theorem dX4_quotient_78 : decode cX4_quotient 78 = .ok (.lload 9, 2) := by decide +kernel
theorem dX4_quotient_80 : decode cX4_quotient 80 = .ok (.lload 4, 2) := by decide +kernel
theorem dX4_quotient_82 : decode cX4_quotient 82 = .ok (.lcmp, 1) := by decide +kernel
theorem dX4_quotient_83 : decode cX4_quotient 83 = .ok (.ifCond .gt 22, 3) := by decide +kernel
theorem dX4_quotient_86 : decode cX4_quotient 86 = .ok (.lload 9, 2) := by decide +kernel
theorem dX4_quotient_88 : decode cX4_quotient 88 = .ok (.lload 4, 2) := by decide +kernel
theorem dX4_quotient_90 : decode cX4_quotient 90 = .ok (.lcmp, 1) := by decide +kernel
theorem dX4_quotient_91 : decode cX4_quotient 91 = .ok (.ifCond .ne 18, 3) := by decide +kernel
theorem dX4_quotient_94 : decode cX4_quotient 94 = .ok (.lload 7, 2) := by decide +kernel
theorem dX4_quotient_96 : decode cX4_quotient 96 = .ok (.ldc2_w 105, 3) := by decide +kernel
theorem dX4_quotient_99 : decode cX4_quotient 99 = .ok (.lrem, 1) := by decide +kernel
theorem dX4_quotient_100 : decode cX4_quotient 100 = .ok (.lconst 1, 1) := by decide +kernel
theorem dX4_quotient_101 : decode cX4_quotient 101 = .ok (.lcmp, 1) := by decide +kernel
theorem dX4_quotient_102 : decode cX4_quotient 102 = .ok (.ifCond .ne 7, 3) := by decide +kernel
theorem dX4_quotient_105 : decode cX4_quotient 105 = .ok (.lconst 1, 1) := by decide +kernel
theorem dX4_quotient_106 : decode cX4_quotient 106 = .ok (.goto 4, 3) := by decide +kernel
theorem dX4_quotient_109 : decode cX4_quotient 109 = .ok (.lconst 0, 1) := by decide +kernel
theorem dX4_quotient_110 : decode cX4_quotient 110 = .ok (.ladd, 1) := by decide +kernel
theorem dX4_quotient_111 : decode cX4_quotient 111 = .ok (.lstore 7, 2) := by decide +kernel
theorem dX4_quotient_113 : decode cX4_quotient 113 = .ok (.lload 7, 2) := by decide +kernel
theorem dX4_quotient_115 : decode cX4_quotient 115 = .ok (.ldc2_w 130, 3) := by decide +kernel
theorem dX4_quotient_118 : decode cX4_quotient 118 = .ok (.lcmp, 1) := by decide +kernel
theorem dX4_quotient_119 : decode cX4_quotient 119 = .ok (.ifCond .ne 13, 3) := by decide +kernel
theorem dX4_quotient_122 : decode cX4_quotient 122 = .ok (.iload 6, 2) := by decide +kernel
theorem dX4_quotient_124 : decode cX4_quotient 124 = .ok (.iconst 1, 1) := by decide +kernel
theorem dX4_quotient_125 : decode cX4_quotient 125 = .ok (.iadd, 1) := by decide +kernel
theorem dX4_quotient_126 : decode cX4_quotient 126 = .ok (.bipush 23, 2) := by decide +kernel
theorem dX4_quotient_128 : decode cX4_quotient 128 = .ok (.ishl, 1) := by decide +kernel
theorem dX4_quotient_129 : decode cX4_quotient 129 = .ok (.goto 16, 3) := by decide +kernel
theorem dX4_quotient_132 : decode cX4_quotient 132 = .ok (.iload 6, 2) := by decide +kernel
theorem dX4_quotient_134 : decode cX4_quotient 134 = .ok (.bipush 23, 2) := by decide +kernel
theorem dX4_quotient_136 : decode cX4_quotient 136 = .ok (.ishl, 1) := by decide +kernel
theorem dX4_quotient_137 : decode cX4_quotient 137 = .ok (.lload 7, 2) := by decide +kernel
theorem dX4_quotient_139 : decode cX4_quotient 139 = .ok (.ldc2_w 128, 3) := by decide +kernel
theorem dX4_quotient_142 : decode cX4_quotient 142 = .ok (.lsub, 1) := by decide +kernel
theorem dX4_quotient_143 : decode cX4_quotient 143 = .ok (.l2i, 1) := by decide +kernel
theorem dX4_quotient_144 : decode cX4_quotient 144 = .ok (.iadd, 1) := by decide +kernel
theorem dX4_quotient_145 : decode cX4_quotient 145 = .ok (.ireturn, 1) := by decide +kernel
theorem dX4_perNumber_0 : decode cX4_perNumber 0 = .ok (.iload_n 1, 1) := by decide +kernel
theorem dX4_perNumber_1 : decode cX4_perNumber 1 = .ok (.iconst 0, 1) := by decide +kernel
theorem dX4_perNumber_2 : decode cX4_perNumber 2 = .ok (.iconst 1, 1) := by decide +kernel
theorem dX4_perNumber_3 : decode cX4_perNumber 3 = .ok (.invokestatic 48, 3) := by decide +kernel
theorem dX4_perNumber_6 : decode cX4_perNumber 6 = .ok (.ifCond .ne 6, 3) := by decide +kernel
theorem dX4_perNumber_9 : decode cX4_perNumber 9 = .ok (.ldc 35, 2) := by decide +kernel
theorem dX4_perNumber_11 : decode cX4_perNumber 11 = .ok (.ireturn, 1) := by decide +kernel
theorem dX4_perNumber_12 : decode cX4_perNumber 12 = .ok (.aload_n 0, 1) := by decide +kernel
theorem dX4_perNumber_13 : decode cX4_perNumber 13 = .ok (.iload_n 1, 1) := by decide +kernel
theorem dX4_perNumber_14 : decode cX4_perNumber 14 = .ok (.invokevirtual 40, 3) := by decide +kernel
theorem dX4_perNumber_17 : decode cX4_perNumber 17 = .ok (.ifCond .ne 8, 3) := by decide +kernel
theorem dX4_perNumber_20 : decode cX4_perNumber 20 = .ok (.ldc 97, 2) := by decide +kernel
theorem dX4_perNumber_22 : decode cX4_perNumber 22 = .ok (.goto 16, 3) := by decide +kernel
theorem dX4_perNumber_25 : decode cX4_perNumber 25 = .ok (.aload_n 0, 1) := by decide +kernel
theorem dX4_perNumber_26 : decode cX4_perNumber 26 = .ok (.iload_n 1, 1) := by decide +kernel
theorem dX4_perNumber_27 : decode cX4_perNumber 27 = .ok (.invokevirtual 88, 3) := by decide +kernel
theorem dX4_perNumber_30 : decode cX4_perNumber 30 = .ok (.aload_n 0, 1) := by decide +kernel
theorem dX4_perNumber_31 : decode cX4_perNumber 31 = .ok (.iload_n 1, 1) := by decide +kernel
theorem dX4_perNumber_32 : decode cX4_perNumber 32 = .ok (.invokevirtual 40, 3) := by decide +kernel
theorem dX4_perNumber_35 : decode cX4_perNumber 35 = .ok (.invokestatic 132, 3) := by decide +kernel
theorem dX4_perNumber_38 : decode cX4_perNumber 38 = .ok (.ireturn, 1) := by decide +kernel
theorem dX4_bestBound_0 : decode cX4_bestBound 0 = .ok (.iload_n 1, 1) := by decide +kernel
theorem dX4_bestBound_1 : decode cX4_bestBound 1 = .ok (.iconst 0, 1) := by decide +kernel
theorem dX4_bestBound_2 : decode cX4_bestBound 2 = .ok (.iconst 1, 1) := by decide +kernel
theorem dX4_bestBound_3 : decode cX4_bestBound 3 = .ok (.invokestatic 48, 3) := by decide +kernel
theorem dX4_bestBound_6 : decode cX4_bestBound 6 = .ok (.ifCond .eq 12, 3) := by decide +kernel
theorem dX4_bestBound_9 : decode cX4_bestBound 9 = .ok (.iload_n 2, 1) := by decide +kernel
theorem dX4_bestBound_10 : decode cX4_bestBound 10 = .ok (.iconst 0, 1) := by decide +kernel
theorem dX4_bestBound_11 : decode cX4_bestBound 11 = .ok (.iconst 1, 1) := by decide +kernel
theorem dX4_bestBound_12 : decode cX4_bestBound 12 = .ok (.invokestatic 48, 3) := by decide +kernel
theorem dX4_bestBound_15 : decode cX4_bestBound 15 = .ok (.ifCond .ne 6, 3) := by decide +kernel
theorem dX4_bestBound_18 : decode cX4_bestBound 18 = .ok (.ldc 35, 2) := by decide +kernel
theorem dX4_bestBound_20 : decode cX4_bestBound 20 = .ok (.ireturn, 1) := by decide +kernel
theorem dX4_bestBound_21 : decode cX4_bestBound 21 = .ok (.aload_n 0, 1) := by decide +kernel
theorem dX4_bestBound_22 : decode cX4_bestBound 22 = .ok (.iload_n 1, 1) := by decide +kernel
theorem dX4_bestBound_23 : decode cX4_bestBound 23 = .ok (.invokevirtual 40, 3) := by decide +kernel
theorem dX4_bestBound_26 : decode cX4_bestBound 26 = .ok (.istore_n 3, 1) := by decide +kernel
theorem dX4_bestBound_27 : decode cX4_bestBound 27 = .ok (.iload_n 3, 1) := by decide +kernel
theorem dX4_bestBound_28 : decode cX4_bestBound 28 = .ok (.ifCond .ne 6, 3) := by decide +kernel
theorem dX4_bestBound_31 : decode cX4_bestBound 31 = .ok (.ldc 97, 2) := by decide +kernel
theorem dX4_bestBound_33 : decode cX4_bestBound 33 = .ok (.ireturn, 1) := by decide +kernel
theorem dX4_bestBound_34 : decode cX4_bestBound 34 = .ok (.aload_n 0, 1) := by decide +kernel
theorem dX4_bestBound_35 : decode cX4_bestBound 35 = .ok (.iload_n 1, 1) := by decide +kernel
theorem dX4_bestBound_36 : decode cX4_bestBound 36 = .ok (.iload_n 3, 1) := by decide +kernel
theorem dX4_bestBound_37 : decode cX4_bestBound 37 = .ok (.iconst 1, 1) := by decide +kernel
theorem dX4_bestBound_38 : decode cX4_bestBound 38 = .ok (.isub, 1) := by decide +kernel
theorem dX4_bestBound_39 : decode cX4_bestBound 39 = .ok (.invokevirtual 44, 3) := by decide +kernel
theorem dX4_bestBound_42 : decode cX4_bestBound 42 = .ok (.iconst 1, 1) := by decide +kernel
theorem dX4_bestBound_43 : decode cX4_bestBound 43 = .ok (.iadd, 1) := by decide +kernel
theorem dX4_bestBound_44 : decode cX4_bestBound 44 = .ok (.istore 4, 2) := by decide +kernel
theorem dX4_bestBound_46 : decode cX4_bestBound 46 = .ok (.iload 4, 2) := by decide +kernel
theorem dX4_bestBound_48 : decode cX4_bestBound 48 = .ok (.iconst 2, 1) := by decide +kernel
theorem dX4_bestBound_49 : decode cX4_bestBound 49 = .ok (.if_icmp .ge 7, 3) := by decide +kernel
theorem dX4_bestBound_52 : decode cX4_bestBound 52 = .ok (.iconst 2, 1) := by decide +kernel
theorem dX4_bestBound_53 : decode cX4_bestBound 53 = .ok (.goto 5, 3) := by decide +kernel
theorem dX4_bestBound_56 : decode cX4_bestBound 56 = .ok (.iload 4, 2) := by decide +kernel
theorem dX4_bestBound_58 : decode cX4_bestBound 58 = .ok (.istore 5, 2) := by decide +kernel
theorem dX4_bestBound_60 : decode cX4_bestBound 60 = .ok (.iload 5, 2) := by decide +kernel
theorem dX4_bestBound_62 : decode cX4_bestBound 62 = .ok (.istore 4, 2) := by decide +kernel
theorem dX4_bestBound_64 : decode cX4_bestBound 64 = .ok (.iload 4, 2) := by decide +kernel
theorem dX4_bestBound_66 : decode cX4_bestBound 66 = .ok (.sipush 4096, 3) := by decide +kernel
theorem dX4_bestBound_69 : decode cX4_bestBound 69 = .ok (.if_icmp .gt 33, 3) := by decide +kernel
theorem dX4_bestBound_72 : decode cX4_bestBound 72 = .ok (.iload_n 3, 1) := by decide +kernel
theorem dX4_bestBound_73 : decode cX4_bestBound 73 = .ok (.iload 4, 2) := by decide +kernel
theorem dX4_bestBound_75 : decode cX4_bestBound 75 = .ok (.invokestatic 69, 3) := by decide +kernel
theorem dX4_bestBound_78 : decode cX4_bestBound 78 = .ok (.iload_n 3, 1) := by decide +kernel
theorem dX4_bestBound_79 : decode cX4_bestBound 79 = .ok (.iload 5, 2) := by decide +kernel
theorem dX4_bestBound_81 : decode cX4_bestBound 81 = .ok (.invokestatic 69, 3) := by decide +kernel
theorem dX4_bestBound_84 : decode cX4_bestBound 84 = .ok (.if_icmp .ge 8, 3) := by decide +kernel
theorem dX4_bestBound_87 : decode cX4_bestBound 87 = .ok (.iload 4, 2) := by decide +kernel
theorem dX4_bestBound_89 : decode cX4_bestBound 89 = .ok (.goto 5, 3) := by decide +kernel
theorem dX4_bestBound_92 : decode cX4_bestBound 92 = .ok (.iload 5, 2) := by decide +kernel
theorem dX4_bestBound_94 : decode cX4_bestBound 94 = .ok (.istore 5, 2) := by decide +kernel
theorem dX4_bestBound_96 : decode cX4_bestBound 96 = .ok (.iinc 4 1, 3) := by decide +kernel
theorem dX4_bestBound_99 : decode cX4_bestBound 99 = .ok (.goto (-35), 3) := by decide +kernel
theorem dX4_bestBound_102 : decode cX4_bestBound 102 = .ok (.iload_n 2, 1) := by decide +kernel
theorem dX4_bestBound_103 : decode cX4_bestBound 103 = .ok (.ifCond .ne 8, 3) := by decide +kernel
theorem dX4_bestBound_106 : decode cX4_bestBound 106 = .ok (.iload 5, 2) := by decide +kernel
theorem dX4_bestBound_108 : decode cX4_bestBound 108 = .ok (.goto 9, 3) := by decide +kernel
theorem dX4_bestBound_111 : decode cX4_bestBound 111 = .ok (.iload_n 3, 1) := by decide +kernel
theorem dX4_bestBound_112 : decode cX4_bestBound 112 = .ok (.iload 5, 2) := by decide +kernel
theorem dX4_bestBound_114 : decode cX4_bestBound 114 = .ok (.invokestatic 69, 3) := by decide +kernel
theorem dX4_bestBound_117 : decode cX4_bestBound 117 = .ok (.ireturn, 1) := by decide +kernel
theorem dX4_gapOf_0 : decode cX4_gapOf 0 = .ok (.iload_n 1, 1) := by decide +kernel
theorem dX4_gapOf_1 : decode cX4_gapOf 1 = .ok (.iconst 0, 1) := by decide +kernel
theorem dX4_gapOf_2 : decode cX4_gapOf 2 = .ok (.iconst 1, 1) := by decide +kernel
theorem dX4_gapOf_3 : decode cX4_gapOf 3 = .ok (.invokestatic 48, 3) := by decide +kernel
theorem dX4_gapOf_6 : decode cX4_gapOf 6 = .ok (.ifCond .eq 16, 3) := by decide +kernel
theorem dX4_gapOf_9 : decode cX4_gapOf 9 = .ok (.iload_n 2, 1) := by decide +kernel
theorem dX4_gapOf_10 : decode cX4_gapOf 10 = .ok (.ifCond .lt 12, 3) := by decide +kernel
theorem dX4_gapOf_13 : decode cX4_gapOf 13 = .ok (.iload_n 3, 1) := by decide +kernel
theorem dX4_gapOf_14 : decode cX4_gapOf 14 = .ok (.iconst 0, 1) := by decide +kernel
theorem dX4_gapOf_15 : decode cX4_gapOf 15 = .ok (.iconst 1, 1) := by decide +kernel
theorem dX4_gapOf_16 : decode cX4_gapOf 16 = .ok (.invokestatic 48, 3) := by decide +kernel
theorem dX4_gapOf_19 : decode cX4_gapOf 19 = .ok (.ifCond .ne 6, 3) := by decide +kernel
theorem dX4_gapOf_22 : decode cX4_gapOf 22 = .ok (.ldc 35, 2) := by decide +kernel
theorem dX4_gapOf_24 : decode cX4_gapOf 24 = .ok (.ireturn, 1) := by decide +kernel
theorem dX4_gapOf_25 : decode cX4_gapOf 25 = .ok (.iconst 1, 1) := by decide +kernel
theorem dX4_gapOf_26 : decode cX4_gapOf 26 = .ok (.istore 4, 2) := by decide +kernel
theorem dX4_gapOf_28 : decode cX4_gapOf 28 = .ok (.iload 4, 2) := by decide +kernel
theorem dX4_gapOf_30 : decode cX4_gapOf 30 = .ok (.aload_n 0, 1) := by decide +kernel
theorem dX4_gapOf_31 : decode cX4_gapOf 31 = .ok (.iload_n 1, 1) := by decide +kernel
theorem dX4_gapOf_32 : decode cX4_gapOf 32 = .ok (.invokevirtual 40, 3) := by decide +kernel
theorem dX4_gapOf_35 : decode cX4_gapOf 35 = .ok (.if_icmp .ge 126, 3) := by decide +kernel
theorem dX4_gapOf_38 : decode cX4_gapOf 38 = .ok (.aload_n 0, 1) := by decide +kernel
theorem dX4_gapOf_39 : decode cX4_gapOf 39 = .ok (.iload_n 1, 1) := by decide +kernel
theorem dX4_gapOf_40 : decode cX4_gapOf 40 = .ok (.iload 4, 2) := by decide +kernel
theorem dX4_gapOf_42 : decode cX4_gapOf 42 = .ok (.invokevirtual 44, 3) := by decide +kernel
theorem dX4_gapOf_45 : decode cX4_gapOf 45 = .ok (.aload_n 0, 1) := by decide +kernel
theorem dX4_gapOf_46 : decode cX4_gapOf 46 = .ok (.iload_n 1, 1) := by decide +kernel
theorem dX4_gapOf_47 : decode cX4_gapOf 47 = .ok (.iload 4, 2) := by decide +kernel
theorem dX4_gapOf_49 : decode cX4_gapOf 49 = .ok (.iconst 1, 1) := by decide +kernel
theorem dX4_gapOf_50 : decode cX4_gapOf 50 = .ok (.isub, 1) := by decide +kernel
theorem dX4_gapOf_51 : decode cX4_gapOf 51 = .ok (.invokevirtual 44, 3) := by decide +kernel
theorem dX4_gapOf_54 : decode cX4_gapOf 54 = .ok (.isub, 1) := by decide +kernel
theorem dX4_gapOf_55 : decode cX4_gapOf 55 = .ok (.istore 5, 2) := by decide +kernel
theorem dX4_gapOf_57 : decode cX4_gapOf 57 = .ok (.iconst 0, 1) := by decide +kernel
theorem dX4_gapOf_58 : decode cX4_gapOf 58 = .ok (.istore 6, 2) := by decide +kernel
theorem dX4_gapOf_60 : decode cX4_gapOf 60 = .ok (.iconst 1, 1) := by decide +kernel
theorem dX4_gapOf_61 : decode cX4_gapOf 61 = .ok (.istore 7, 2) := by decide +kernel
theorem dX4_gapOf_63 : decode cX4_gapOf 63 = .ok (.iload 7, 2) := by decide +kernel
theorem dX4_gapOf_65 : decode cX4_gapOf 65 = .ok (.aload_n 0, 1) := by decide +kernel
theorem dX4_gapOf_66 : decode cX4_gapOf 66 = .ok (.iload_n 1, 1) := by decide +kernel
theorem dX4_gapOf_67 : decode cX4_gapOf 67 = .ok (.invokevirtual 40, 3) := by decide +kernel
theorem dX4_gapOf_70 : decode cX4_gapOf 70 = .ok (.if_icmp .ge 59, 3) := by decide +kernel
theorem dX4_gapOf_73 : decode cX4_gapOf 73 = .ok (.aload_n 0, 1) := by decide +kernel
theorem dX4_gapOf_74 : decode cX4_gapOf 74 = .ok (.iload_n 1, 1) := by decide +kernel
theorem dX4_gapOf_75 : decode cX4_gapOf 75 = .ok (.iload 7, 2) := by decide +kernel
theorem dX4_gapOf_77 : decode cX4_gapOf 77 = .ok (.invokevirtual 44, 3) := by decide +kernel
theorem dX4_gapOf_80 : decode cX4_gapOf 80 = .ok (.aload_n 0, 1) := by decide +kernel
theorem dX4_gapOf_81 : decode cX4_gapOf 81 = .ok (.iload_n 1, 1) := by decide +kernel
theorem dX4_gapOf_82 : decode cX4_gapOf 82 = .ok (.iload 7, 2) := by decide +kernel
theorem dX4_gapOf_84 : decode cX4_gapOf 84 = .ok (.iconst 1, 1) := by decide +kernel
theorem dX4_gapOf_85 : decode cX4_gapOf 85 = .ok (.isub, 1) := by decide +kernel
theorem dX4_gapOf_86 : decode cX4_gapOf 86 = .ok (.invokevirtual 44, 3) := by decide +kernel
theorem dX4_gapOf_89 : decode cX4_gapOf 89 = .ok (.isub, 1) := by decide +kernel
theorem dX4_gapOf_90 : decode cX4_gapOf 90 = .ok (.istore 8, 2) := by decide +kernel
theorem dX4_gapOf_92 : decode cX4_gapOf 92 = .ok (.iload 6, 2) := by decide +kernel
theorem dX4_gapOf_94 : decode cX4_gapOf 94 = .ok (.iload 8, 2) := by decide +kernel
theorem dX4_gapOf_96 : decode cX4_gapOf 96 = .ok (.iload 5, 2) := by decide +kernel
theorem dX4_gapOf_98 : decode cX4_gapOf 98 = .ok (.if_icmp .gt 17, 3) := by decide +kernel
theorem dX4_gapOf_101 : decode cX4_gapOf 101 = .ok (.iload 8, 2) := by decide +kernel
theorem dX4_gapOf_103 : decode cX4_gapOf 103 = .ok (.iload 5, 2) := by decide +kernel
theorem dX4_gapOf_105 : decode cX4_gapOf 105 = .ok (.if_icmp .ne 14, 3) := by decide +kernel
theorem dX4_gapOf_108 : decode cX4_gapOf 108 = .ok (.iload 7, 2) := by decide +kernel
theorem dX4_gapOf_110 : decode cX4_gapOf 110 = .ok (.iload 4, 2) := by decide +kernel
theorem dX4_gapOf_112 : decode cX4_gapOf 112 = .ok (.if_icmp .ge 7, 3) := by decide +kernel
theorem dX4_gapOf_115 : decode cX4_gapOf 115 = .ok (.iconst 1, 1) := by decide +kernel
theorem dX4_gapOf_116 : decode cX4_gapOf 116 = .ok (.goto 4, 3) := by decide +kernel
theorem dX4_gapOf_119 : decode cX4_gapOf 119 = .ok (.iconst 0, 1) := by decide +kernel
theorem dX4_gapOf_120 : decode cX4_gapOf 120 = .ok (.iadd, 1) := by decide +kernel
theorem dX4_gapOf_121 : decode cX4_gapOf 121 = .ok (.istore 6, 2) := by decide +kernel
theorem dX4_gapOf_123 : decode cX4_gapOf 123 = .ok (.iinc 7 1, 3) := by decide +kernel
theorem dX4_gapOf_126 : decode cX4_gapOf 126 = .ok (.goto (-63), 3) := by decide +kernel
theorem dX4_gapOf_129 : decode cX4_gapOf 129 = .ok (.iload 5, 2) := by decide +kernel
theorem dX4_gapOf_131 : decode cX4_gapOf 131 = .ok (.iconst 1, 1) := by decide +kernel
theorem dX4_gapOf_132 : decode cX4_gapOf 132 = .ok (.if_icmp .le 23, 3) := by decide +kernel
theorem dX4_gapOf_135 : decode cX4_gapOf 135 = .ok (.iload 6, 2) := by decide +kernel
theorem dX4_gapOf_137 : decode cX4_gapOf 137 = .ok (.iload_n 2, 1) := by decide +kernel
theorem dX4_gapOf_138 : decode cX4_gapOf 138 = .ok (.if_icmp .ne 17, 3) := by decide +kernel
theorem dX4_gapOf_141 : decode cX4_gapOf 141 = .ok (.iload_n 3, 1) := by decide +kernel
theorem dX4_gapOf_142 : decode cX4_gapOf 142 = .ok (.ifCond .ne 10, 3) := by decide +kernel
theorem dX4_gapOf_145 : decode cX4_gapOf 145 = .ok (.iload 4, 2) := by decide +kernel
theorem dX4_gapOf_147 : decode cX4_gapOf 147 = .ok (.iconst 1, 1) := by decide +kernel
theorem dX4_gapOf_148 : decode cX4_gapOf 148 = .ok (.isub, 1) := by decide +kernel
theorem dX4_gapOf_149 : decode cX4_gapOf 149 = .ok (.goto 5, 3) := by decide +kernel
theorem dX4_gapOf_152 : decode cX4_gapOf 152 = .ok (.iload 5, 2) := by decide +kernel
theorem dX4_gapOf_154 : decode cX4_gapOf 154 = .ok (.ireturn, 1) := by decide +kernel
theorem dX4_gapOf_155 : decode cX4_gapOf 155 = .ok (.iinc 4 1, 3) := by decide +kernel
theorem dX4_gapOf_158 : decode cX4_gapOf 158 = .ok (.goto (-130), 3) := by decide +kernel
theorem dX4_gapOf_161 : decode cX4_gapOf 161 = .ok (.ldc 97, 2) := by decide +kernel
theorem dX4_gapOf_163 : decode cX4_gapOf 163 = .ok (.ireturn, 1) := by decide +kernel
theorem dX4_count_0 : decode cX4_count 0 = .ok (.iload_n 1, 1) := by decide +kernel
theorem dX4_count_1 : decode cX4_count 1 = .ok (.tableswitch 65 0 3 #[31, 43, 55, 60], 31) := by decide +kernel
theorem dX4_count_32 : decode cX4_count 32 = .ok (.aload_n 0, 1) := by decide +kernel
theorem dX4_count_33 : decode cX4_count 33 = .ok (.iconst 0, 1) := by decide +kernel
theorem dX4_count_34 : decode cX4_count 34 = .ok (.invokevirtual 40, 3) := by decide +kernel
theorem dX4_count_37 : decode cX4_count 37 = .ok (.aload_n 0, 1) := by decide +kernel
theorem dX4_count_38 : decode cX4_count 38 = .ok (.iconst 1, 1) := by decide +kernel
theorem dX4_count_39 : decode cX4_count 39 = .ok (.invokevirtual 40, 3) := by decide +kernel
theorem dX4_count_42 : decode cX4_count 42 = .ok (.iadd, 1) := by decide +kernel
theorem dX4_count_43 : decode cX4_count 43 = .ok (.ireturn, 1) := by decide +kernel
theorem dX4_count_44 : decode cX4_count 44 = .ok (.aload_n 0, 1) := by decide +kernel
theorem dX4_count_45 : decode cX4_count 45 = .ok (.iconst 0, 1) := by decide +kernel
theorem dX4_count_46 : decode cX4_count 46 = .ok (.invokevirtual 88, 3) := by decide +kernel
theorem dX4_count_49 : decode cX4_count 49 = .ok (.aload_n 0, 1) := by decide +kernel
theorem dX4_count_50 : decode cX4_count 50 = .ok (.iconst 1, 1) := by decide +kernel
theorem dX4_count_51 : decode cX4_count 51 = .ok (.invokevirtual 88, 3) := by decide +kernel
theorem dX4_count_54 : decode cX4_count 54 = .ok (.iadd, 1) := by decide +kernel
theorem dX4_count_55 : decode cX4_count 55 = .ok (.ireturn, 1) := by decide +kernel
theorem dX4_count_56 : decode cX4_count 56 = .ok (.aload_n 0, 1) := by decide +kernel
theorem dX4_count_57 : decode cX4_count 57 = .ok (.getfield 36, 3) := by decide +kernel
theorem dX4_count_60 : decode cX4_count 60 = .ok (.ireturn, 1) := by decide +kernel
theorem dX4_count_61 : decode cX4_count 61 = .ok (.aload_n 0, 1) := by decide +kernel
theorem dX4_count_62 : decode cX4_count 62 = .ok (.getfield 135, 3) := by decide +kernel
theorem dX4_count_65 : decode cX4_count 65 = .ok (.ireturn, 1) := by decide +kernel
theorem dX4_count_66 : decode cX4_count 66 = .ok (.ldc 35, 2) := by decide +kernel
theorem dX4_count_68 : decode cX4_count 68 = .ok (.ireturn, 1) := by decide +kernel
theorem dX4_undo_0 : decode cX4_undo 0 = .ok (.aload_n 0, 1) := by decide +kernel
theorem dX4_undo_1 : decode cX4_undo 1 = .ok (.getfield 36, 3) := by decide +kernel
theorem dX4_undo_4 : decode cX4_undo 4 = .ok (.ifCond .ne 6, 3) := by decide +kernel
theorem dX4_undo_7 : decode cX4_undo 7 = .ok (.ldc 52, 2) := by decide +kernel
theorem dX4_undo_9 : decode cX4_undo 9 = .ok (.ireturn, 1) := by decide +kernel
theorem dX4_undo_10 : decode cX4_undo 10 = .ok (.aload_n 0, 1) := by decide +kernel
theorem dX4_undo_11 : decode cX4_undo 11 = .ok (.dup, 1) := by decide +kernel
theorem dX4_undo_12 : decode cX4_undo 12 = .ok (.getfield 36, 3) := by decide +kernel
theorem dX4_undo_15 : decode cX4_undo 15 = .ok (.iconst 1, 1) := by decide +kernel
theorem dX4_undo_16 : decode cX4_undo 16 = .ok (.isub, 1) := by decide +kernel
theorem dX4_undo_17 : decode cX4_undo 17 = .ok (.putfield 36, 3) := by decide +kernel
theorem dX4_undo_20 : decode cX4_undo 20 = .ok (.iconst 0, 1) := by decide +kernel
theorem dX4_undo_21 : decode cX4_undo 21 = .ok (.istore_n 1, 1) := by decide +kernel
theorem dX4_undo_22 : decode cX4_undo 22 = .ok (.iload_n 1, 1) := by decide +kernel
theorem dX4_undo_23 : decode cX4_undo 23 = .ok (.bipush 84, 2) := by decide +kernel
theorem dX4_undo_25 : decode cX4_undo 25 = .ok (.if_icmp .ge 29, 3) := by decide +kernel
theorem dX4_undo_28 : decode cX4_undo 28 = .ok (.aload_n 0, 1) := by decide +kernel
theorem dX4_undo_29 : decode cX4_undo 29 = .ok (.getfield 7, 3) := by decide +kernel
theorem dX4_undo_32 : decode cX4_undo 32 = .ok (.iload_n 1, 1) := by decide +kernel
theorem dX4_undo_33 : decode cX4_undo 33 = .ok (.aload_n 0, 1) := by decide +kernel
theorem dX4_undo_34 : decode cX4_undo 34 = .ok (.getfield 13, 3) := by decide +kernel
theorem dX4_undo_37 : decode cX4_undo 37 = .ok (.bipush 84, 2) := by decide +kernel
theorem dX4_undo_39 : decode cX4_undo 39 = .ok (.aload_n 0, 1) := by decide +kernel
theorem dX4_undo_40 : decode cX4_undo 40 = .ok (.getfield 36, 3) := by decide +kernel
theorem dX4_undo_43 : decode cX4_undo 43 = .ok (.imul, 1) := by decide +kernel
theorem dX4_undo_44 : decode cX4_undo 44 = .ok (.iload_n 1, 1) := by decide +kernel
theorem dX4_undo_45 : decode cX4_undo 45 = .ok (.iadd, 1) := by decide +kernel
theorem dX4_undo_46 : decode cX4_undo 46 = .ok (.iaload, 1) := by decide +kernel
theorem dX4_undo_47 : decode cX4_undo 47 = .ok (.iastore, 1) := by decide +kernel
theorem dX4_undo_48 : decode cX4_undo 48 = .ok (.iinc 1 1, 3) := by decide +kernel
theorem dX4_undo_51 : decode cX4_undo 51 = .ok (.goto (-29), 3) := by decide +kernel
theorem dX4_undo_54 : decode cX4_undo 54 = .ok (.aload_n 0, 1) := by decide +kernel
theorem dX4_undo_55 : decode cX4_undo 55 = .ok (.getfield 36, 3) := by decide +kernel
theorem dX4_undo_58 : decode cX4_undo 58 = .ok (.ireturn, 1) := by decide +kernel
theorem dX4_type_0 : decode cX4_type 0 = .ok (.iload_n 1, 1) := by decide +kernel
theorem dX4_type_1 : decode cX4_type 1 = .ok (.bipush 32, 2) := by decide +kernel
theorem dX4_type_3 : decode cX4_type 3 = .ok (.bipush 126, 2) := by decide +kernel
theorem dX4_type_5 : decode cX4_type 5 = .ok (.invokestatic 48, 3) := by decide +kernel
theorem dX4_type_8 : decode cX4_type 8 = .ok (.ifCond .ne 6, 3) := by decide +kernel
theorem dX4_type_11 : decode cX4_type 11 = .ok (.ldc 35, 2) := by decide +kernel
theorem dX4_type_13 : decode cX4_type 13 = .ok (.ireturn, 1) := by decide +kernel
theorem dX4_type_14 : decode cX4_type 14 = .ok (.aload_n 0, 1) := by decide +kernel
theorem dX4_type_15 : decode cX4_type 15 = .ok (.getfield 135, 3) := by decide +kernel
theorem dX4_type_18 : decode cX4_type 18 = .ok (.bipush 60, 2) := by decide +kernel
theorem dX4_type_20 : decode cX4_type 20 = .ok (.if_icmp .ne 6, 3) := by decide +kernel
theorem dX4_type_23 : decode cX4_type 23 = .ok (.ldc 53, 2) := by decide +kernel
theorem dX4_type_25 : decode cX4_type 25 = .ok (.ireturn, 1) := by decide +kernel
theorem dX4_type_26 : decode cX4_type 26 = .ok (.aload_n 0, 1) := by decide +kernel
theorem dX4_type_27 : decode cX4_type 27 = .ok (.getfield 19, 3) := by decide +kernel
theorem dX4_type_30 : decode cX4_type 30 = .ok (.aload_n 0, 1) := by decide +kernel
theorem dX4_type_31 : decode cX4_type 31 = .ok (.getfield 135, 3) := by decide +kernel
theorem dX4_type_34 : decode cX4_type 34 = .ok (.iload_n 1, 1) := by decide +kernel
theorem dX4_type_35 : decode cX4_type 35 = .ok (.i2c, 1) := by decide +kernel
theorem dX4_type_36 : decode cX4_type 36 = .ok (.castore, 1) := by decide +kernel
theorem dX4_type_37 : decode cX4_type 37 = .ok (.aload_n 0, 1) := by decide +kernel
theorem dX4_type_38 : decode cX4_type 38 = .ok (.dup, 1) := by decide +kernel
theorem dX4_type_39 : decode cX4_type 39 = .ok (.getfield 135, 3) := by decide +kernel
theorem dX4_type_42 : decode cX4_type 42 = .ok (.iconst 1, 1) := by decide +kernel
theorem dX4_type_43 : decode cX4_type 43 = .ok (.iadd, 1) := by decide +kernel
theorem dX4_type_44 : decode cX4_type 44 = .ok (.putfield 135, 3) := by decide +kernel
theorem dX4_type_47 : decode cX4_type 47 = .ok (.aload_n 0, 1) := by decide +kernel
theorem dX4_type_48 : decode cX4_type 48 = .ok (.getfield 135, 3) := by decide +kernel
theorem dX4_type_51 : decode cX4_type 51 = .ok (.ireturn, 1) := by decide +kernel
theorem dX4_clearText_0 : decode cX4_clearText 0 = .ok (.aload_n 0, 1) := by decide +kernel
theorem dX4_clearText_1 : decode cX4_clearText 1 = .ok (.getfield 135, 3) := by decide +kernel
theorem dX4_clearText_4 : decode cX4_clearText 4 = .ok (.istore_n 1, 1) := by decide +kernel
theorem dX4_clearText_5 : decode cX4_clearText 5 = .ok (.aload_n 0, 1) := by decide +kernel
theorem dX4_clearText_6 : decode cX4_clearText 6 = .ok (.iconst 0, 1) := by decide +kernel
theorem dX4_clearText_7 : decode cX4_clearText 7 = .ok (.putfield 135, 3) := by decide +kernel
theorem dX4_clearText_10 : decode cX4_clearText 10 = .ok (.iload_n 1, 1) := by decide +kernel
theorem dX4_clearText_11 : decode cX4_clearText 11 = .ok (.ireturn, 1) := by decide +kernel
theorem dX4_sign_0 : decode cX4_sign 0 = .ok (.iload_n 1, 1) := by decide +kernel
theorem dX4_sign_1 : decode cX4_sign 1 = .ok (.aload_n 0, 1) := by decide +kernel
theorem dX4_sign_2 : decode cX4_sign 2 = .ok (.getfield 135, 3) := by decide +kernel
theorem dX4_sign_5 : decode cX4_sign 5 = .ok (.if_icmp .ge 12, 3) := by decide +kernel
theorem dX4_sign_8 : decode cX4_sign 8 = .ok (.aload_n 0, 1) := by decide +kernel
theorem dX4_sign_9 : decode cX4_sign 9 = .ok (.getfield 19, 3) := by decide +kernel
theorem dX4_sign_12 : decode cX4_sign 12 = .ok (.iload_n 1, 1) := by decide +kernel
theorem dX4_sign_13 : decode cX4_sign 13 = .ok (.caload, 1) := by decide +kernel
theorem dX4_sign_14 : decode cX4_sign 14 = .ok (.goto 4, 3) := by decide +kernel
theorem dX4_sign_17 : decode cX4_sign 17 = .ok (.iconst (-1), 1) := by decide +kernel
theorem dX4_sign_18 : decode cX4_sign 18 = .ok (.ireturn, 1) := by decide +kernel
theorem dX4_wrong_0 : decode cX4_wrong 0 = .ok (.aload_n 0, 1) := by decide +kernel
theorem dX4_wrong_1 : decode cX4_wrong 1 = .ok (.getfield 138, 3) := by decide +kernel
theorem dX4_wrong_4 : decode cX4_wrong 4 = .ok (.ifCond .le 22, 3) := by decide +kernel
theorem dX4_wrong_7 : decode cX4_wrong 7 = .ok (.iload_n 1, 1) := by decide +kernel
theorem dX4_wrong_8 : decode cX4_wrong 8 = .ok (.aload_n 0, 1) := by decide +kernel
theorem dX4_wrong_9 : decode cX4_wrong 9 = .ok (.getfield 23, 3) := by decide +kernel
theorem dX4_wrong_12 : decode cX4_wrong 12 = .ok (.aload_n 0, 1) := by decide +kernel
theorem dX4_wrong_13 : decode cX4_wrong 13 = .ok (.getfield 138, 3) := by decide +kernel
theorem dX4_wrong_16 : decode cX4_wrong 16 = .ok (.iconst 1, 1) := by decide +kernel
theorem dX4_wrong_17 : decode cX4_wrong 17 = .ok (.isub, 1) := by decide +kernel
theorem dX4_wrong_18 : decode cX4_wrong 18 = .ok (.iaload, 1) := by decide +kernel
theorem dX4_wrong_19 : decode cX4_wrong 19 = .ok (.if_icmp .ge 7, 3) := by decide +kernel
theorem dX4_wrong_22 : decode cX4_wrong 22 = .ok (.iconst 2, 1) := by decide +kernel
theorem dX4_wrong_23 : decode cX4_wrong 23 = .ok (.goto 13, 3) := by decide +kernel
theorem dX4_wrong_26 : decode cX4_wrong 26 = .ok (.iload_n 1, 1) := by decide +kernel
theorem dX4_wrong_27 : decode cX4_wrong 27 = .ok (.iload_n 2, 1) := by decide +kernel
theorem dX4_wrong_28 : decode cX4_wrong 28 = .ok (.if_icmp .lt 7, 3) := by decide +kernel
theorem dX4_wrong_31 : decode cX4_wrong 31 = .ok (.iconst 3, 1) := by decide +kernel
theorem dX4_wrong_32 : decode cX4_wrong 32 = .ok (.goto 4, 3) := by decide +kernel
theorem dX4_wrong_35 : decode cX4_wrong 35 = .ok (.iconst 0, 1) := by decide +kernel
theorem dX4_wrong_36 : decode cX4_wrong 36 = .ok (.ireturn, 1) := by decide +kernel
theorem dX4_faulty_0 : decode cX4_faulty 0 = .ok (.aload_n 0, 1) := by decide +kernel
theorem dX4_faulty_1 : decode cX4_faulty 1 = .ok (.iconst 0, 1) := by decide +kernel
theorem dX4_faulty_2 : decode cX4_faulty 2 = .ok (.putfield 138, 3) := by decide +kernel
theorem dX4_faulty_5 : decode cX4_faulty 5 = .ok (.aload_n 0, 1) := by decide +kernel
theorem dX4_faulty_6 : decode cX4_faulty 6 = .ok (.iconst 1, 1) := by decide +kernel
theorem dX4_faulty_7 : decode cX4_faulty 7 = .ok (.putfield 140, 3) := by decide +kernel
theorem dX4_faulty_10 : decode cX4_faulty 10 = .ok (.iconst 0, 1) := by decide +kernel
theorem dX4_faulty_11 : decode cX4_faulty 11 = .ok (.istore_n 2, 1) := by decide +kernel
theorem dX4_faulty_12 : decode cX4_faulty 12 = .ok (.iload_n 2, 1) := by decide +kernel
theorem dX4_faulty_13 : decode cX4_faulty 13 = .ok (.istore_n 3, 1) := by decide +kernel
theorem dX4_faulty_14 : decode cX4_faulty 14 = .ok (.iconst 0, 1) := by decide +kernel
theorem dX4_faulty_15 : decode cX4_faulty 15 = .ok (.istore 4, 2) := by decide +kernel
theorem dX4_faulty_17 : decode cX4_faulty 17 = .ok (.aload_n 0, 1) := by decide +kernel
theorem dX4_faulty_18 : decode cX4_faulty 18 = .ok (.iload_n 2, 1) := by decide +kernel
theorem dX4_faulty_19 : decode cX4_faulty 19 = .ok (.invokevirtual 143, 3) := by decide +kernel
theorem dX4_faulty_22 : decode cX4_faulty 22 = .ok (.bipush 48, 2) := by decide +kernel
theorem dX4_faulty_24 : decode cX4_faulty 24 = .ok (.bipush 57, 2) := by decide +kernel
theorem dX4_faulty_26 : decode cX4_faulty 26 = .ok (.invokestatic 48, 3) := by decide +kernel
theorem dX4_faulty_29 : decode cX4_faulty 29 = .ok (.ifCond .eq 42, 3) := by decide +kernel
theorem dX4_faulty_32 : decode cX4_faulty 32 = .ok (.iload_n 2, 1) := by decide +kernel
theorem dX4_faulty_33 : decode cX4_faulty 33 = .ok (.iload_n 3, 1) := by decide +kernel
theorem dX4_faulty_34 : decode cX4_faulty 34 = .ok (.iconst 4, 1) := by decide +kernel
theorem dX4_faulty_35 : decode cX4_faulty 35 = .ok (.iadd, 1) := by decide +kernel
theorem dX4_faulty_36 : decode cX4_faulty 36 = .ok (.if_icmp .ge 35, 3) := by decide +kernel
theorem dX4_faulty_39 : decode cX4_faulty 39 = .ok (.iload_n 2, 1) := by decide +kernel
theorem dX4_faulty_40 : decode cX4_faulty 40 = .ok (.iload_n 3, 1) := by decide +kernel
theorem dX4_faulty_41 : decode cX4_faulty 41 = .ok (.if_icmp .eq 8, 3) := by decide +kernel
theorem dX4_faulty_44 : decode cX4_faulty 44 = .ok (.iload 4, 2) := by decide +kernel
theorem dX4_faulty_46 : decode cX4_faulty 46 = .ok (.ifCond .le 25, 3) := by decide +kernel
theorem dX4_faulty_49 : decode cX4_faulty 49 = .ok (.bipush 10, 2) := by decide +kernel
theorem dX4_faulty_51 : decode cX4_faulty 51 = .ok (.iload 4, 2) := by decide +kernel
theorem dX4_faulty_53 : decode cX4_faulty 53 = .ok (.imul, 1) := by decide +kernel
theorem dX4_faulty_54 : decode cX4_faulty 54 = .ok (.aload_n 0, 1) := by decide +kernel
theorem dX4_faulty_55 : decode cX4_faulty 55 = .ok (.iload_n 2, 1) := by decide +kernel
theorem dX4_faulty_56 : decode cX4_faulty 56 = .ok (.invokevirtual 143, 3) := by decide +kernel
theorem dX4_faulty_59 : decode cX4_faulty 59 = .ok (.iadd, 1) := by decide +kernel
theorem dX4_faulty_60 : decode cX4_faulty 60 = .ok (.bipush 48, 2) := by decide +kernel
theorem dX4_faulty_62 : decode cX4_faulty 62 = .ok (.isub, 1) := by decide +kernel
theorem dX4_faulty_63 : decode cX4_faulty 63 = .ok (.istore 4, 2) := by decide +kernel
theorem dX4_faulty_65 : decode cX4_faulty 65 = .ok (.iinc 2 1, 3) := by decide +kernel
theorem dX4_faulty_68 : decode cX4_faulty 68 = .ok (.goto (-51), 3) := by decide +kernel
theorem dX4_faulty_71 : decode cX4_faulty 71 = .ok (.iload_n 2, 1) := by decide +kernel
theorem dX4_faulty_72 : decode cX4_faulty 72 = .ok (.aload_n 0, 1) := by decide +kernel
theorem dX4_faulty_73 : decode cX4_faulty 73 = .ok (.getfield 135, 3) := by decide +kernel
theorem dX4_faulty_76 : decode cX4_faulty 76 = .ok (.if_icmp .lt 7, 3) := by decide +kernel
theorem dX4_faulty_79 : decode cX4_faulty 79 = .ok (.iconst 1, 1) := by decide +kernel
theorem dX4_faulty_80 : decode cX4_faulty 80 = .ok (.goto 4, 3) := by decide +kernel
theorem dX4_faulty_83 : decode cX4_faulty 83 = .ok (.iconst 0, 1) := by decide +kernel
theorem dX4_faulty_84 : decode cX4_faulty 84 = .ok (.istore 5, 2) := by decide +kernel
theorem dX4_faulty_86 : decode cX4_faulty 86 = .ok (.iload_n 2, 1) := by decide +kernel
theorem dX4_faulty_87 : decode cX4_faulty 87 = .ok (.iload_n 3, 1) := by decide +kernel
theorem dX4_faulty_88 : decode cX4_faulty 88 = .ok (.if_icmp .eq 18, 3) := by decide +kernel
theorem dX4_faulty_91 : decode cX4_faulty 91 = .ok (.iload 5, 2) := by decide +kernel
theorem dX4_faulty_93 : decode cX4_faulty 93 = .ok (.ifCond .ne 15, 3) := by decide +kernel
theorem dX4_faulty_96 : decode cX4_faulty 96 = .ok (.aload_n 0, 1) := by decide +kernel
theorem dX4_faulty_97 : decode cX4_faulty 97 = .ok (.iload_n 2, 1) := by decide +kernel
theorem dX4_faulty_98 : decode cX4_faulty 98 = .ok (.invokevirtual 143, 3) := by decide +kernel
theorem dX4_faulty_101 : decode cX4_faulty 101 = .ok (.bipush 44, 2) := by decide +kernel
theorem dX4_faulty_103 : decode cX4_faulty 103 = .ok (.if_icmp .eq 5, 3) := by decide +kernel
theorem dX4_faulty_106 : decode cX4_faulty 106 = .ok (.iload_n 2, 1) := by decide +kernel
theorem dX4_faulty_107 : decode cX4_faulty 107 = .ok (.ireturn, 1) := by decide +kernel
theorem dX4_faulty_108 : decode cX4_faulty 108 = .ok (.aload_n 0, 1) := by decide +kernel
theorem dX4_faulty_109 : decode cX4_faulty 109 = .ok (.iload 4, 2) := by decide +kernel
theorem dX4_faulty_111 : decode cX4_faulty 111 = .ok (.iload_n 1, 1) := by decide +kernel
theorem dX4_faulty_112 : decode cX4_faulty 112 = .ok (.invokevirtual 146, 3) := by decide +kernel
theorem dX4_faulty_115 : decode cX4_faulty 115 = .ok (.istore 6, 2) := by decide +kernel
theorem dX4_faulty_117 : decode cX4_faulty 117 = .ok (.iload 6, 2) := by decide +kernel
theorem dX4_faulty_119 : decode cX4_faulty 119 = .ok (.ifCond .le 11, 3) := by decide +kernel
theorem dX4_faulty_122 : decode cX4_faulty 122 = .ok (.aload_n 0, 1) := by decide +kernel
theorem dX4_faulty_123 : decode cX4_faulty 123 = .ok (.iload 6, 2) := by decide +kernel
theorem dX4_faulty_125 : decode cX4_faulty 125 = .ok (.putfield 140, 3) := by decide +kernel
theorem dX4_faulty_128 : decode cX4_faulty 128 = .ok (.iload_n 3, 1) := by decide +kernel
theorem dX4_faulty_129 : decode cX4_faulty 129 = .ok (.ireturn, 1) := by decide +kernel
theorem dX4_faulty_130 : decode cX4_faulty 130 = .ok (.aload_n 0, 1) := by decide +kernel
theorem dX4_faulty_131 : decode cX4_faulty 131 = .ok (.getfield 23, 3) := by decide +kernel
theorem dX4_faulty_134 : decode cX4_faulty 134 = .ok (.aload_n 0, 1) := by decide +kernel
theorem dX4_faulty_135 : decode cX4_faulty 135 = .ok (.getfield 138, 3) := by decide +kernel
theorem dX4_faulty_138 : decode cX4_faulty 138 = .ok (.iload 4, 2) := by decide +kernel
theorem dX4_faulty_140 : decode cX4_faulty 140 = .ok (.iastore, 1) := by decide +kernel
theorem dX4_faulty_141 : decode cX4_faulty 141 = .ok (.aload_n 0, 1) := by decide +kernel
theorem dX4_faulty_142 : decode cX4_faulty 142 = .ok (.dup, 1) := by decide +kernel
theorem dX4_faulty_143 : decode cX4_faulty 143 = .ok (.getfield 138, 3) := by decide +kernel
theorem dX4_faulty_146 : decode cX4_faulty 146 = .ok (.iconst 1, 1) := by decide +kernel
theorem dX4_faulty_147 : decode cX4_faulty 147 = .ok (.iadd, 1) := by decide +kernel
theorem dX4_faulty_148 : decode cX4_faulty 148 = .ok (.putfield 138, 3) := by decide +kernel
theorem dX4_faulty_151 : decode cX4_faulty 151 = .ok (.iload 5, 2) := by decide +kernel
theorem dX4_faulty_153 : decode cX4_faulty 153 = .ok (.ifCond .eq 6, 3) := by decide +kernel
theorem dX4_faulty_156 : decode cX4_faulty 156 = .ok (.ldc 97, 2) := by decide +kernel
theorem dX4_faulty_158 : decode cX4_faulty 158 = .ok (.ireturn, 1) := by decide +kernel
theorem dX4_faulty_159 : decode cX4_faulty 159 = .ok (.iinc 2 1, 3) := by decide +kernel
theorem dX4_faulty_162 : decode cX4_faulty 162 = .ok (.goto (-150), 3) := by decide +kernel
theorem dX4_fault_0 : decode cX4_fault 0 = .ok (.iload_n 1, 1) := by decide +kernel
theorem dX4_fault_1 : decode cX4_fault 1 = .ok (.iconst 0, 1) := by decide +kernel
theorem dX4_fault_2 : decode cX4_fault 2 = .ok (.iconst 1, 1) := by decide +kernel
theorem dX4_fault_3 : decode cX4_fault 3 = .ok (.invokestatic 48, 3) := by decide +kernel
theorem dX4_fault_6 : decode cX4_fault 6 = .ok (.ifCond .eq 12, 3) := by decide +kernel
theorem dX4_fault_9 : decode cX4_fault 9 = .ok (.iload_n 2, 1) := by decide +kernel
theorem dX4_fault_10 : decode cX4_fault 10 = .ok (.iconst 0, 1) := by decide +kernel
theorem dX4_fault_11 : decode cX4_fault 11 = .ok (.iconst 1, 1) := by decide +kernel
theorem dX4_fault_12 : decode cX4_fault 12 = .ok (.invokestatic 48, 3) := by decide +kernel
theorem dX4_fault_15 : decode cX4_fault 15 = .ok (.ifCond .ne 6, 3) := by decide +kernel
theorem dX4_fault_18 : decode cX4_fault 18 = .ok (.ldc 35, 2) := by decide +kernel
theorem dX4_fault_20 : decode cX4_fault 20 = .ok (.ireturn, 1) := by decide +kernel
theorem dX4_fault_21 : decode cX4_fault 21 = .ok (.aload_n 0, 1) := by decide +kernel
theorem dX4_fault_22 : decode cX4_fault 22 = .ok (.aload_n 0, 1) := by decide +kernel
theorem dX4_fault_23 : decode cX4_fault 23 = .ok (.getfield 7, 3) := by decide +kernel
theorem dX4_fault_26 : decode cX4_fault 26 = .ok (.bipush 42, 2) := by decide +kernel
theorem dX4_fault_28 : decode cX4_fault 28 = .ok (.iload_n 1, 1) := by decide +kernel
theorem dX4_fault_29 : decode cX4_fault 29 = .ok (.imul, 1) := by decide +kernel
theorem dX4_fault_30 : decode cX4_fault 30 = .ok (.iconst 1, 1) := by decide +kernel
theorem dX4_fault_31 : decode cX4_fault 31 = .ok (.iadd, 1) := by decide +kernel
theorem dX4_fault_32 : decode cX4_fault 32 = .ok (.iaload, 1) := by decide +kernel
theorem dX4_fault_33 : decode cX4_fault 33 = .ok (.invokevirtual 149, 3) := by decide +kernel
theorem dX4_fault_36 : decode cX4_fault 36 = .ok (.istore_n 3, 1) := by decide +kernel
theorem dX4_fault_37 : decode cX4_fault 37 = .ok (.iload_n 3, 1) := by decide +kernel
theorem dX4_fault_38 : decode cX4_fault 38 = .ok (.ldc 97, 2) := by decide +kernel
theorem dX4_fault_40 : decode cX4_fault 40 = .ok (.if_icmp .eq 7, 3) := by decide +kernel
theorem dX4_fault_43 : decode cX4_fault 43 = .ok (.iload_n 2, 1) := by decide +kernel
theorem dX4_fault_44 : decode cX4_fault 44 = .ok (.ifCond .ne 7, 3) := by decide +kernel
theorem dX4_fault_47 : decode cX4_fault 47 = .ok (.iload_n 3, 1) := by decide +kernel
theorem dX4_fault_48 : decode cX4_fault 48 = .ok (.goto 7, 3) := by decide +kernel
theorem dX4_fault_51 : decode cX4_fault 51 = .ok (.aload_n 0, 1) := by decide +kernel
theorem dX4_fault_52 : decode cX4_fault 52 = .ok (.getfield 140, 3) := by decide +kernel
theorem dX4_fault_55 : decode cX4_fault 55 = .ok (.ireturn, 1) := by decide +kernel
theorem dX4_read_0 : decode cX4_read 0 = .ok (.iload_n 1, 1) := by decide +kernel
theorem dX4_read_1 : decode cX4_read 1 = .ok (.iconst 0, 1) := by decide +kernel
theorem dX4_read_2 : decode cX4_read 2 = .ok (.iconst 1, 1) := by decide +kernel
theorem dX4_read_3 : decode cX4_read 3 = .ok (.invokestatic 48, 3) := by decide +kernel
theorem dX4_read_6 : decode cX4_read 6 = .ok (.ifCond .ne 6, 3) := by decide +kernel
theorem dX4_read_9 : decode cX4_read 9 = .ok (.ldc 35, 2) := by decide +kernel
theorem dX4_read_11 : decode cX4_read 11 = .ok (.ireturn, 1) := by decide +kernel
theorem dX4_read_12 : decode cX4_read 12 = .ok (.aload_n 0, 1) := by decide +kernel
theorem dX4_read_13 : decode cX4_read 13 = .ok (.aload_n 0, 1) := by decide +kernel
theorem dX4_read_14 : decode cX4_read 14 = .ok (.getfield 7, 3) := by decide +kernel
theorem dX4_read_17 : decode cX4_read 17 = .ok (.bipush 42, 2) := by decide +kernel
theorem dX4_read_19 : decode cX4_read 19 = .ok (.iload_n 1, 1) := by decide +kernel
theorem dX4_read_20 : decode cX4_read 20 = .ok (.imul, 1) := by decide +kernel
theorem dX4_read_21 : decode cX4_read 21 = .ok (.iconst 1, 1) := by decide +kernel
theorem dX4_read_22 : decode cX4_read 22 = .ok (.iadd, 1) := by decide +kernel
theorem dX4_read_23 : decode cX4_read 23 = .ok (.iaload, 1) := by decide +kernel
theorem dX4_read_24 : decode cX4_read 24 = .ok (.invokevirtual 149, 3) := by decide +kernel
theorem dX4_read_27 : decode cX4_read 27 = .ok (.ldc 97, 2) := by decide +kernel
theorem dX4_read_29 : decode cX4_read 29 = .ok (.if_icmp .eq 6, 3) := by decide +kernel
theorem dX4_read_32 : decode cX4_read 32 = .ok (.ldc 52, 2) := by decide +kernel
theorem dX4_read_34 : decode cX4_read 34 = .ok (.ireturn, 1) := by decide +kernel
theorem dX4_read_35 : decode cX4_read 35 = .ok (.aload_n 0, 1) := by decide +kernel
theorem dX4_read_36 : decode cX4_read 36 = .ok (.invokevirtual 54, 3) := by decide +kernel
theorem dX4_read_39 : decode cX4_read 39 = .ok (.aload_n 0, 1) := by decide +kernel
theorem dX4_read_40 : decode cX4_read 40 = .ok (.getfield 7, 3) := by decide +kernel
theorem dX4_read_43 : decode cX4_read 43 = .ok (.bipush 42, 2) := by decide +kernel
theorem dX4_read_45 : decode cX4_read 45 = .ok (.iload_n 1, 1) := by decide +kernel
theorem dX4_read_46 : decode cX4_read 46 = .ok (.imul, 1) := by decide +kernel
theorem dX4_read_47 : decode cX4_read 47 = .ok (.aload_n 0, 1) := by decide +kernel
theorem dX4_read_48 : decode cX4_read 48 = .ok (.getfield 138, 3) := by decide +kernel
theorem dX4_read_51 : decode cX4_read 51 = .ok (.iastore, 1) := by decide +kernel
theorem dX4_read_52 : decode cX4_read 52 = .ok (.iconst 0, 1) := by decide +kernel
theorem dX4_read_53 : decode cX4_read 53 = .ok (.istore_n 2, 1) := by decide +kernel
theorem dX4_read_54 : decode cX4_read 54 = .ok (.iload_n 2, 1) := by decide +kernel
theorem dX4_read_55 : decode cX4_read 55 = .ok (.aload_n 0, 1) := by decide +kernel
theorem dX4_read_56 : decode cX4_read 56 = .ok (.getfield 138, 3) := by decide +kernel
theorem dX4_read_59 : decode cX4_read 59 = .ok (.if_icmp .ge 28, 3) := by decide +kernel
theorem dX4_read_62 : decode cX4_read 62 = .ok (.aload_n 0, 1) := by decide +kernel
theorem dX4_read_63 : decode cX4_read 63 = .ok (.getfield 7, 3) := by decide +kernel
theorem dX4_read_66 : decode cX4_read 66 = .ok (.bipush 42, 2) := by decide +kernel
theorem dX4_read_68 : decode cX4_read 68 = .ok (.iload_n 1, 1) := by decide +kernel
theorem dX4_read_69 : decode cX4_read 69 = .ok (.imul, 1) := by decide +kernel
theorem dX4_read_70 : decode cX4_read 70 = .ok (.iconst 2, 1) := by decide +kernel
theorem dX4_read_71 : decode cX4_read 71 = .ok (.iadd, 1) := by decide +kernel
theorem dX4_read_72 : decode cX4_read 72 = .ok (.iload_n 2, 1) := by decide +kernel
theorem dX4_read_73 : decode cX4_read 73 = .ok (.iadd, 1) := by decide +kernel
theorem dX4_read_74 : decode cX4_read 74 = .ok (.aload_n 0, 1) := by decide +kernel
theorem dX4_read_75 : decode cX4_read 75 = .ok (.getfield 23, 3) := by decide +kernel
theorem dX4_read_78 : decode cX4_read 78 = .ok (.iload_n 2, 1) := by decide +kernel
theorem dX4_read_79 : decode cX4_read 79 = .ok (.iaload, 1) := by decide +kernel
theorem dX4_read_80 : decode cX4_read 80 = .ok (.iastore, 1) := by decide +kernel
theorem dX4_read_81 : decode cX4_read 81 = .ok (.iinc 2 1, 3) := by decide +kernel
theorem dX4_read_84 : decode cX4_read 84 = .ok (.goto (-30), 3) := by decide +kernel
theorem dX4_read_87 : decode cX4_read 87 = .ok (.aload_n 0, 1) := by decide +kernel
theorem dX4_read_88 : decode cX4_read 88 = .ok (.aload_n 0, 1) := by decide +kernel
theorem dX4_read_89 : decode cX4_read 89 = .ok (.getfield 138, 3) := by decide +kernel
theorem dX4_read_92 : decode cX4_read 92 = .ok (.invokevirtual 60, 3) := by decide +kernel
theorem dX4_read_95 : decode cX4_read 95 = .ok (.ireturn, 1) := by decide +kernel
theorem dJ9_abs_0f7a4_0 : decode cJ9_abs_0f7a4 0 = .ok (.iload_n 0, 1) := by decide +kernel
theorem dJ9_abs_0f7a4_1 : decode cJ9_abs_0f7a4 1 = .ok (.ifCond .ge 8, 3) := by decide +kernel
theorem dJ9_abs_0f7a4_4 : decode cJ9_abs_0f7a4 4 = .ok (.iload_n 0, 1) := by decide +kernel
theorem dJ9_abs_0f7a4_5 : decode cJ9_abs_0f7a4 5 = .ok (.ineg, 1) := by decide +kernel
theorem dJ9_abs_0f7a4_6 : decode cJ9_abs_0f7a4 6 = .ok (.goto 4, 3) := by decide +kernel
theorem dJ9_abs_0f7a4_9 : decode cJ9_abs_0f7a4 9 = .ok (.iload_n 0, 1) := by decide +kernel
theorem dJ9_abs_0f7a4_10 : decode cJ9_abs_0f7a4 10 = .ok (.ireturn, 1) := by decide +kernel
theorem dJ9_max_7cf53_0 : decode cJ9_max_7cf53 0 = .ok (.iload_n 0, 1) := by decide +kernel
theorem dJ9_max_7cf53_1 : decode cJ9_max_7cf53 1 = .ok (.iload_n 1, 1) := by decide +kernel
theorem dJ9_max_7cf53_2 : decode cJ9_max_7cf53 2 = .ok (.if_icmp .lt 7, 3) := by decide +kernel
theorem dJ9_max_7cf53_5 : decode cJ9_max_7cf53 5 = .ok (.iload_n 0, 1) := by decide +kernel
theorem dJ9_max_7cf53_6 : decode cJ9_max_7cf53 6 = .ok (.goto 4, 3) := by decide +kernel
theorem dJ9_max_7cf53_9 : decode cJ9_max_7cf53 9 = .ok (.iload_n 1, 1) := by decide +kernel
theorem dJ9_max_7cf53_10 : decode cJ9_max_7cf53 10 = .ok (.ireturn, 1) := by decide +kernel
theorem dJ9_min_7cf53_0 : decode cJ9_min_7cf53 0 = .ok (.iload_n 0, 1) := by decide +kernel
theorem dJ9_min_7cf53_1 : decode cJ9_min_7cf53 1 = .ok (.iload_n 1, 1) := by decide +kernel
theorem dJ9_min_7cf53_2 : decode cJ9_min_7cf53 2 = .ok (.if_icmp .gt 7, 3) := by decide +kernel
theorem dJ9_min_7cf53_5 : decode cJ9_min_7cf53 5 = .ok (.iload_n 0, 1) := by decide +kernel
theorem dJ9_min_7cf53_6 : decode cJ9_min_7cf53 6 = .ok (.goto 4, 3) := by decide +kernel
theorem dJ9_min_7cf53_9 : decode cJ9_min_7cf53 9 = .ok (.iload_n 1, 1) := by decide +kernel
theorem dJ9_min_7cf53_10 : decode cJ9_min_7cf53 10 = .ok (.ireturn, 1) := by decide +kernel
theorem dL_law_0 : decode cL_law 0 = .ok (.new 7, 3) := by decide +kernel
theorem dL_law_3 : decode cL_law 3 = .ok (.dup, 1) := by decide +kernel
theorem dL_law_4 : decode cL_law 4 = .ok (.invokespecial 9, 3) := by decide +kernel
theorem dL_law_7 : decode cL_law 7 = .ok (.astore_n 1, 1) := by decide +kernel
theorem dL_law_8 : decode cL_law 8 = .ok (.new 10, 3) := by decide +kernel
theorem dL_law_11 : decode cL_law 11 = .ok (.dup, 1) := by decide +kernel
theorem dL_law_12 : decode cL_law 12 = .ok (.invokespecial 12, 3) := by decide +kernel
theorem dL_law_15 : decode cL_law 15 = .ok (.astore_n 2, 1) := by decide +kernel
theorem dL_law_16 : decode cL_law 16 = .ok (.iconst 0, 1) := by decide +kernel
theorem dL_law_17 : decode cL_law 17 = .ok (.istore_n 3, 1) := by decide +kernel
theorem dL_law_18 : decode cL_law 18 = .ok (.iload_n 3, 1) := by decide +kernel
theorem dL_law_19 : decode cL_law 19 = .ok (.aload_n 0, 1) := by decide +kernel
theorem dL_law_20 : decode cL_law 20 = .ok (.arraylength, 1) := by decide +kernel
theorem dL_law_21 : decode cL_law 21 = .ok (.iconst 4, 1) := by decide +kernel
theorem dL_law_22 : decode cL_law 22 = .ok (.isub, 1) := by decide +kernel
theorem dL_law_23 : decode cL_law 23 = .ok (.if_icmp .gt 793, 3) := by decide +kernel
theorem dL_law_26 : decode cL_law 26 = .ok (.aload_n 0, 1) := by decide +kernel
theorem dL_law_27 : decode cL_law 27 = .ok (.iload_n 3, 1) := by decide +kernel
theorem dL_law_28 : decode cL_law 28 = .ok (.iaload, 1) := by decide +kernel
theorem dL_law_29 : decode cL_law 29 = .ok (.bipush 31, 2) := by decide +kernel
theorem dL_law_31 : decode cL_law 31 = .ok (.iand, 1) := by decide +kernel
theorem dL_law_32 : decode cL_law 32 = .ok (.tableswitch 778 0 22 #[108, 141, 174, 207, 230, 243, 266, 299, 332, 375, 418, 452, 495, 528, 551, 574, 607, 650, 673, 686, 709, 722, 755], 108) := by decide +kernel
theorem dL_law_140 : decode cL_law 140 = .ok (.aload_n 1, 1) := by decide +kernel
theorem dL_law_141 : decode cL_law 141 = .ok (.aload_n 0, 1) := by decide +kernel
theorem dL_law_142 : decode cL_law 142 = .ok (.iload_n 3, 1) := by decide +kernel
theorem dL_law_143 : decode cL_law 143 = .ok (.iconst 1, 1) := by decide +kernel
theorem dL_law_144 : decode cL_law 144 = .ok (.iadd, 1) := by decide +kernel
theorem dL_law_145 : decode cL_law 145 = .ok (.iaload, 1) := by decide +kernel
theorem dL_law_146 : decode cL_law 146 = .ok (.aload_n 0, 1) := by decide +kernel
theorem dL_law_147 : decode cL_law 147 = .ok (.iload_n 3, 1) := by decide +kernel
theorem dL_law_148 : decode cL_law 148 = .ok (.iconst 2, 1) := by decide +kernel
theorem dL_law_149 : decode cL_law 149 = .ok (.iadd, 1) := by decide +kernel
theorem dL_law_150 : decode cL_law 150 = .ok (.iaload, 1) := by decide +kernel
theorem dL_law_151 : decode cL_law 151 = .ok (.invokevirtual 13, 3) := by decide +kernel
theorem dL_law_154 : decode cL_law 154 = .ok (.aload_n 2, 1) := by decide +kernel
theorem dL_law_155 : decode cL_law 155 = .ok (.aload_n 0, 1) := by decide +kernel
theorem dL_law_156 : decode cL_law 156 = .ok (.iload_n 3, 1) := by decide +kernel
theorem dL_law_157 : decode cL_law 157 = .ok (.iconst 1, 1) := by decide +kernel
theorem dL_law_158 : decode cL_law 158 = .ok (.iadd, 1) := by decide +kernel
theorem dL_law_159 : decode cL_law 159 = .ok (.iaload, 1) := by decide +kernel
theorem dL_law_160 : decode cL_law 160 = .ok (.aload_n 0, 1) := by decide +kernel
theorem dL_law_161 : decode cL_law 161 = .ok (.iload_n 3, 1) := by decide +kernel
theorem dL_law_162 : decode cL_law 162 = .ok (.iconst 2, 1) := by decide +kernel
theorem dL_law_163 : decode cL_law 163 = .ok (.iadd, 1) := by decide +kernel
theorem dL_law_164 : decode cL_law 164 = .ok (.iaload, 1) := by decide +kernel
theorem dL_law_165 : decode cL_law 165 = .ok (.invokevirtual 17, 3) := by decide +kernel
theorem dL_law_168 : decode cL_law 168 = .ok (.if_icmp .eq 642, 3) := by decide +kernel
theorem dL_law_171 : decode cL_law 171 = .ok (.iconst 0, 1) := by decide +kernel
theorem dL_law_172 : decode cL_law 172 = .ok (.ireturn, 1) := by decide +kernel
theorem dL_law_173 : decode cL_law 173 = .ok (.aload_n 1, 1) := by decide +kernel
theorem dL_law_174 : decode cL_law 174 = .ok (.aload_n 0, 1) := by decide +kernel
theorem dL_law_175 : decode cL_law 175 = .ok (.iload_n 3, 1) := by decide +kernel
theorem dL_law_176 : decode cL_law 176 = .ok (.iconst 1, 1) := by decide +kernel
theorem dL_law_177 : decode cL_law 177 = .ok (.iadd, 1) := by decide +kernel
theorem dL_law_178 : decode cL_law 178 = .ok (.iaload, 1) := by decide +kernel
theorem dL_law_179 : decode cL_law 179 = .ok (.aload_n 0, 1) := by decide +kernel
theorem dL_law_180 : decode cL_law 180 = .ok (.iload_n 3, 1) := by decide +kernel
theorem dL_law_181 : decode cL_law 181 = .ok (.iconst 2, 1) := by decide +kernel
theorem dL_law_182 : decode cL_law 182 = .ok (.iadd, 1) := by decide +kernel
theorem dL_law_183 : decode cL_law 183 = .ok (.iaload, 1) := by decide +kernel
theorem dL_law_184 : decode cL_law 184 = .ok (.invokevirtual 18, 3) := by decide +kernel
theorem dL_law_187 : decode cL_law 187 = .ok (.aload_n 2, 1) := by decide +kernel
theorem dL_law_188 : decode cL_law 188 = .ok (.aload_n 0, 1) := by decide +kernel
theorem dL_law_189 : decode cL_law 189 = .ok (.iload_n 3, 1) := by decide +kernel
theorem dL_law_190 : decode cL_law 190 = .ok (.iconst 1, 1) := by decide +kernel
theorem dL_law_191 : decode cL_law 191 = .ok (.iadd, 1) := by decide +kernel
theorem dL_law_192 : decode cL_law 192 = .ok (.iaload, 1) := by decide +kernel
theorem dL_law_193 : decode cL_law 193 = .ok (.aload_n 0, 1) := by decide +kernel
theorem dL_law_194 : decode cL_law 194 = .ok (.iload_n 3, 1) := by decide +kernel
theorem dL_law_195 : decode cL_law 195 = .ok (.iconst 2, 1) := by decide +kernel
theorem dL_law_196 : decode cL_law 196 = .ok (.iadd, 1) := by decide +kernel
theorem dL_law_197 : decode cL_law 197 = .ok (.iaload, 1) := by decide +kernel
theorem dL_law_198 : decode cL_law 198 = .ok (.invokevirtual 21, 3) := by decide +kernel
theorem dL_law_201 : decode cL_law 201 = .ok (.if_icmp .eq 609, 3) := by decide +kernel
theorem dL_law_204 : decode cL_law 204 = .ok (.iconst 0, 1) := by decide +kernel
theorem dL_law_205 : decode cL_law 205 = .ok (.ireturn, 1) := by decide +kernel
theorem dL_law_206 : decode cL_law 206 = .ok (.aload_n 1, 1) := by decide +kernel
theorem dL_law_207 : decode cL_law 207 = .ok (.aload_n 0, 1) := by decide +kernel
theorem dL_law_208 : decode cL_law 208 = .ok (.iload_n 3, 1) := by decide +kernel
theorem dL_law_209 : decode cL_law 209 = .ok (.iconst 1, 1) := by decide +kernel
theorem dL_law_210 : decode cL_law 210 = .ok (.iadd, 1) := by decide +kernel
theorem dL_law_211 : decode cL_law 211 = .ok (.iaload, 1) := by decide +kernel
theorem dL_law_212 : decode cL_law 212 = .ok (.aload_n 0, 1) := by decide +kernel
theorem dL_law_213 : decode cL_law 213 = .ok (.iload_n 3, 1) := by decide +kernel
theorem dL_law_214 : decode cL_law 214 = .ok (.iconst 2, 1) := by decide +kernel
theorem dL_law_215 : decode cL_law 215 = .ok (.iadd, 1) := by decide +kernel
theorem dL_law_216 : decode cL_law 216 = .ok (.iaload, 1) := by decide +kernel
theorem dL_law_217 : decode cL_law 217 = .ok (.invokevirtual 22, 3) := by decide +kernel
theorem dL_law_220 : decode cL_law 220 = .ok (.aload_n 2, 1) := by decide +kernel
theorem dL_law_221 : decode cL_law 221 = .ok (.aload_n 0, 1) := by decide +kernel
theorem dL_law_222 : decode cL_law 222 = .ok (.iload_n 3, 1) := by decide +kernel
theorem dL_law_223 : decode cL_law 223 = .ok (.iconst 1, 1) := by decide +kernel
theorem dL_law_224 : decode cL_law 224 = .ok (.iadd, 1) := by decide +kernel
theorem dL_law_225 : decode cL_law 225 = .ok (.iaload, 1) := by decide +kernel
theorem dL_law_226 : decode cL_law 226 = .ok (.aload_n 0, 1) := by decide +kernel
theorem dL_law_227 : decode cL_law 227 = .ok (.iload_n 3, 1) := by decide +kernel
theorem dL_law_228 : decode cL_law 228 = .ok (.iconst 2, 1) := by decide +kernel
theorem dL_law_229 : decode cL_law 229 = .ok (.iadd, 1) := by decide +kernel
theorem dL_law_230 : decode cL_law 230 = .ok (.iaload, 1) := by decide +kernel
theorem dL_law_231 : decode cL_law 231 = .ok (.invokevirtual 25, 3) := by decide +kernel
theorem dL_law_234 : decode cL_law 234 = .ok (.if_icmp .eq 576, 3) := by decide +kernel
theorem dL_law_237 : decode cL_law 237 = .ok (.iconst 0, 1) := by decide +kernel
theorem dL_law_238 : decode cL_law 238 = .ok (.ireturn, 1) := by decide +kernel
theorem dL_law_239 : decode cL_law 239 = .ok (.aload_n 1, 1) := by decide +kernel
theorem dL_law_240 : decode cL_law 240 = .ok (.aload_n 0, 1) := by decide +kernel
theorem dL_law_241 : decode cL_law 241 = .ok (.iload_n 3, 1) := by decide +kernel
theorem dL_law_242 : decode cL_law 242 = .ok (.iconst 1, 1) := by decide +kernel
theorem dL_law_243 : decode cL_law 243 = .ok (.iadd, 1) := by decide +kernel
theorem dL_law_244 : decode cL_law 244 = .ok (.iaload, 1) := by decide +kernel
theorem dL_law_245 : decode cL_law 245 = .ok (.invokevirtual 26, 3) := by decide +kernel
theorem dL_law_248 : decode cL_law 248 = .ok (.aload_n 2, 1) := by decide +kernel
theorem dL_law_249 : decode cL_law 249 = .ok (.aload_n 0, 1) := by decide +kernel
theorem dL_law_250 : decode cL_law 250 = .ok (.iload_n 3, 1) := by decide +kernel
theorem dL_law_251 : decode cL_law 251 = .ok (.iconst 1, 1) := by decide +kernel
theorem dL_law_252 : decode cL_law 252 = .ok (.iadd, 1) := by decide +kernel
theorem dL_law_253 : decode cL_law 253 = .ok (.iaload, 1) := by decide +kernel
theorem dL_law_254 : decode cL_law 254 = .ok (.invokevirtual 30, 3) := by decide +kernel
theorem dL_law_257 : decode cL_law 257 = .ok (.if_icmp .eq 553, 3) := by decide +kernel
theorem dL_law_260 : decode cL_law 260 = .ok (.iconst 0, 1) := by decide +kernel
theorem dL_law_261 : decode cL_law 261 = .ok (.ireturn, 1) := by decide +kernel
theorem dL_law_262 : decode cL_law 262 = .ok (.aload_n 1, 1) := by decide +kernel
theorem dL_law_263 : decode cL_law 263 = .ok (.invokevirtual 31, 3) := by decide +kernel
theorem dL_law_266 : decode cL_law 266 = .ok (.aload_n 2, 1) := by decide +kernel
theorem dL_law_267 : decode cL_law 267 = .ok (.invokevirtual 35, 3) := by decide +kernel
theorem dL_law_270 : decode cL_law 270 = .ok (.if_icmp .eq 540, 3) := by decide +kernel
theorem dL_law_273 : decode cL_law 273 = .ok (.iconst 0, 1) := by decide +kernel
theorem dL_law_274 : decode cL_law 274 = .ok (.ireturn, 1) := by decide +kernel
theorem dL_law_275 : decode cL_law 275 = .ok (.aload_n 1, 1) := by decide +kernel
theorem dL_law_276 : decode cL_law 276 = .ok (.aload_n 0, 1) := by decide +kernel
theorem dL_law_277 : decode cL_law 277 = .ok (.iload_n 3, 1) := by decide +kernel
theorem dL_law_278 : decode cL_law 278 = .ok (.iconst 1, 1) := by decide +kernel
theorem dL_law_279 : decode cL_law 279 = .ok (.iadd, 1) := by decide +kernel
theorem dL_law_280 : decode cL_law 280 = .ok (.iaload, 1) := by decide +kernel
theorem dL_law_281 : decode cL_law 281 = .ok (.invokevirtual 36, 3) := by decide +kernel
theorem dL_law_284 : decode cL_law 284 = .ok (.aload_n 2, 1) := by decide +kernel
theorem dL_law_285 : decode cL_law 285 = .ok (.aload_n 0, 1) := by decide +kernel
theorem dL_law_286 : decode cL_law 286 = .ok (.iload_n 3, 1) := by decide +kernel
theorem dL_law_287 : decode cL_law 287 = .ok (.iconst 1, 1) := by decide +kernel
theorem dL_law_288 : decode cL_law 288 = .ok (.iadd, 1) := by decide +kernel
theorem dL_law_289 : decode cL_law 289 = .ok (.iaload, 1) := by decide +kernel
theorem dL_law_290 : decode cL_law 290 = .ok (.invokevirtual 39, 3) := by decide +kernel
theorem dL_law_293 : decode cL_law 293 = .ok (.if_icmp .eq 517, 3) := by decide +kernel
theorem dL_law_296 : decode cL_law 296 = .ok (.iconst 0, 1) := by decide +kernel
theorem dL_law_297 : decode cL_law 297 = .ok (.ireturn, 1) := by decide +kernel
theorem dL_law_298 : decode cL_law 298 = .ok (.aload_n 1, 1) := by decide +kernel
theorem dL_law_299 : decode cL_law 299 = .ok (.aload_n 0, 1) := by decide +kernel
theorem dL_law_300 : decode cL_law 300 = .ok (.iload_n 3, 1) := by decide +kernel
theorem dL_law_301 : decode cL_law 301 = .ok (.iconst 1, 1) := by decide +kernel
theorem dL_law_302 : decode cL_law 302 = .ok (.iadd, 1) := by decide +kernel
theorem dL_law_303 : decode cL_law 303 = .ok (.iaload, 1) := by decide +kernel
theorem dL_law_304 : decode cL_law 304 = .ok (.aload_n 0, 1) := by decide +kernel
theorem dL_law_305 : decode cL_law 305 = .ok (.iload_n 3, 1) := by decide +kernel
theorem dL_law_306 : decode cL_law 306 = .ok (.iconst 2, 1) := by decide +kernel
theorem dL_law_307 : decode cL_law 307 = .ok (.iadd, 1) := by decide +kernel
theorem dL_law_308 : decode cL_law 308 = .ok (.iaload, 1) := by decide +kernel
theorem dL_law_309 : decode cL_law 309 = .ok (.invokevirtual 40, 3) := by decide +kernel
theorem dL_law_312 : decode cL_law 312 = .ok (.aload_n 2, 1) := by decide +kernel
theorem dL_law_313 : decode cL_law 313 = .ok (.aload_n 0, 1) := by decide +kernel
theorem dL_law_314 : decode cL_law 314 = .ok (.iload_n 3, 1) := by decide +kernel
theorem dL_law_315 : decode cL_law 315 = .ok (.iconst 1, 1) := by decide +kernel
theorem dL_law_316 : decode cL_law 316 = .ok (.iadd, 1) := by decide +kernel
theorem dL_law_317 : decode cL_law 317 = .ok (.iaload, 1) := by decide +kernel
theorem dL_law_318 : decode cL_law 318 = .ok (.aload_n 0, 1) := by decide +kernel
theorem dL_law_319 : decode cL_law 319 = .ok (.iload_n 3, 1) := by decide +kernel
theorem dL_law_320 : decode cL_law 320 = .ok (.iconst 2, 1) := by decide +kernel
theorem dL_law_321 : decode cL_law 321 = .ok (.iadd, 1) := by decide +kernel
theorem dL_law_322 : decode cL_law 322 = .ok (.iaload, 1) := by decide +kernel
theorem dL_law_323 : decode cL_law 323 = .ok (.invokevirtual 43, 3) := by decide +kernel
theorem dL_law_326 : decode cL_law 326 = .ok (.if_icmp .eq 484, 3) := by decide +kernel
theorem dL_law_329 : decode cL_law 329 = .ok (.iconst 0, 1) := by decide +kernel
theorem dL_law_330 : decode cL_law 330 = .ok (.ireturn, 1) := by decide +kernel
theorem dL_law_331 : decode cL_law 331 = .ok (.aload_n 1, 1) := by decide +kernel
theorem dL_law_332 : decode cL_law 332 = .ok (.aload_n 0, 1) := by decide +kernel
theorem dL_law_333 : decode cL_law 333 = .ok (.iload_n 3, 1) := by decide +kernel
theorem dL_law_334 : decode cL_law 334 = .ok (.iconst 1, 1) := by decide +kernel
theorem dL_law_335 : decode cL_law 335 = .ok (.iadd, 1) := by decide +kernel
theorem dL_law_336 : decode cL_law 336 = .ok (.iaload, 1) := by decide +kernel
theorem dL_law_337 : decode cL_law 337 = .ok (.aload_n 0, 1) := by decide +kernel
theorem dL_law_338 : decode cL_law 338 = .ok (.iload_n 3, 1) := by decide +kernel
theorem dL_law_339 : decode cL_law 339 = .ok (.iconst 2, 1) := by decide +kernel
theorem dL_law_340 : decode cL_law 340 = .ok (.iadd, 1) := by decide +kernel
theorem dL_law_341 : decode cL_law 341 = .ok (.iaload, 1) := by decide +kernel
theorem dL_law_342 : decode cL_law 342 = .ok (.invokevirtual 44, 3) := by decide +kernel
theorem dL_law_345 : decode cL_law 345 = .ok (.aload_n 2, 1) := by decide +kernel
theorem dL_law_346 : decode cL_law 346 = .ok (.aload_n 0, 1) := by decide +kernel
theorem dL_law_347 : decode cL_law 347 = .ok (.iload_n 3, 1) := by decide +kernel
theorem dL_law_348 : decode cL_law 348 = .ok (.iconst 1, 1) := by decide +kernel
theorem dL_law_349 : decode cL_law 349 = .ok (.iadd, 1) := by decide +kernel
theorem dL_law_350 : decode cL_law 350 = .ok (.iaload, 1) := by decide +kernel
theorem dL_law_351 : decode cL_law 351 = .ok (.aload_n 0, 1) := by decide +kernel
theorem dL_law_352 : decode cL_law 352 = .ok (.iload_n 3, 1) := by decide +kernel
theorem dL_law_353 : decode cL_law 353 = .ok (.iconst 2, 1) := by decide +kernel
theorem dL_law_354 : decode cL_law 354 = .ok (.iadd, 1) := by decide +kernel
theorem dL_law_355 : decode cL_law 355 = .ok (.iaload, 1) := by decide +kernel
theorem dL_law_356 : decode cL_law 356 = .ok (.invokevirtual 47, 3) := by decide +kernel
theorem dL_law_359 : decode cL_law 359 = .ok (.if_icmp .eq 451, 3) := by decide +kernel
theorem dL_law_362 : decode cL_law 362 = .ok (.iconst 0, 1) := by decide +kernel
theorem dL_law_363 : decode cL_law 363 = .ok (.ireturn, 1) := by decide +kernel
theorem dL_law_364 : decode cL_law 364 = .ok (.aload_n 1, 1) := by decide +kernel
theorem dL_law_365 : decode cL_law 365 = .ok (.aload_n 0, 1) := by decide +kernel
theorem dL_law_366 : decode cL_law 366 = .ok (.iload_n 3, 1) := by decide +kernel
theorem dL_law_367 : decode cL_law 367 = .ok (.iconst 1, 1) := by decide +kernel
theorem dL_law_368 : decode cL_law 368 = .ok (.iadd, 1) := by decide +kernel
theorem dL_law_369 : decode cL_law 369 = .ok (.iaload, 1) := by decide +kernel
theorem dL_law_370 : decode cL_law 370 = .ok (.aload_n 0, 1) := by decide +kernel
theorem dL_law_371 : decode cL_law 371 = .ok (.iload_n 3, 1) := by decide +kernel
theorem dL_law_372 : decode cL_law 372 = .ok (.iconst 2, 1) := by decide +kernel
theorem dL_law_373 : decode cL_law 373 = .ok (.iadd, 1) := by decide +kernel
theorem dL_law_374 : decode cL_law 374 = .ok (.iaload, 1) := by decide +kernel
theorem dL_law_375 : decode cL_law 375 = .ok (.aload_n 0, 1) := by decide +kernel
theorem dL_law_376 : decode cL_law 376 = .ok (.iload_n 3, 1) := by decide +kernel
theorem dL_law_377 : decode cL_law 377 = .ok (.iconst 3, 1) := by decide +kernel
theorem dL_law_378 : decode cL_law 378 = .ok (.iadd, 1) := by decide +kernel
theorem dL_law_379 : decode cL_law 379 = .ok (.iaload, 1) := by decide +kernel
theorem dL_law_380 : decode cL_law 380 = .ok (.invokevirtual 48, 3) := by decide +kernel
theorem dL_law_383 : decode cL_law 383 = .ok (.aload_n 2, 1) := by decide +kernel
theorem dL_law_384 : decode cL_law 384 = .ok (.aload_n 0, 1) := by decide +kernel
theorem dL_law_385 : decode cL_law 385 = .ok (.iload_n 3, 1) := by decide +kernel
theorem dL_law_386 : decode cL_law 386 = .ok (.iconst 1, 1) := by decide +kernel
theorem dL_law_387 : decode cL_law 387 = .ok (.iadd, 1) := by decide +kernel
theorem dL_law_388 : decode cL_law 388 = .ok (.iaload, 1) := by decide +kernel
theorem dL_law_389 : decode cL_law 389 = .ok (.aload_n 0, 1) := by decide +kernel
theorem dL_law_390 : decode cL_law 390 = .ok (.iload_n 3, 1) := by decide +kernel
theorem dL_law_391 : decode cL_law 391 = .ok (.iconst 2, 1) := by decide +kernel
theorem dL_law_392 : decode cL_law 392 = .ok (.iadd, 1) := by decide +kernel
theorem dL_law_393 : decode cL_law 393 = .ok (.iaload, 1) := by decide +kernel
theorem dL_law_394 : decode cL_law 394 = .ok (.aload_n 0, 1) := by decide +kernel
theorem dL_law_395 : decode cL_law 395 = .ok (.iload_n 3, 1) := by decide +kernel
theorem dL_law_396 : decode cL_law 396 = .ok (.iconst 3, 1) := by decide +kernel
theorem dL_law_397 : decode cL_law 397 = .ok (.iadd, 1) := by decide +kernel
theorem dL_law_398 : decode cL_law 398 = .ok (.iaload, 1) := by decide +kernel
theorem dL_law_399 : decode cL_law 399 = .ok (.invokevirtual 52, 3) := by decide +kernel
theorem dL_law_402 : decode cL_law 402 = .ok (.if_icmp .eq 408, 3) := by decide +kernel
theorem dL_law_405 : decode cL_law 405 = .ok (.iconst 0, 1) := by decide +kernel
theorem dL_law_406 : decode cL_law 406 = .ok (.ireturn, 1) := by decide +kernel
theorem dL_law_407 : decode cL_law 407 = .ok (.aload_n 1, 1) := by decide +kernel
theorem dL_law_408 : decode cL_law 408 = .ok (.aload_n 0, 1) := by decide +kernel
theorem dL_law_409 : decode cL_law 409 = .ok (.iload_n 3, 1) := by decide +kernel
theorem dL_law_410 : decode cL_law 410 = .ok (.iconst 1, 1) := by decide +kernel
theorem dL_law_411 : decode cL_law 411 = .ok (.iadd, 1) := by decide +kernel
theorem dL_law_412 : decode cL_law 412 = .ok (.iaload, 1) := by decide +kernel
theorem dL_law_413 : decode cL_law 413 = .ok (.aload_n 0, 1) := by decide +kernel
theorem dL_law_414 : decode cL_law 414 = .ok (.iload_n 3, 1) := by decide +kernel
theorem dL_law_415 : decode cL_law 415 = .ok (.iconst 2, 1) := by decide +kernel
theorem dL_law_416 : decode cL_law 416 = .ok (.iadd, 1) := by decide +kernel
theorem dL_law_417 : decode cL_law 417 = .ok (.iaload, 1) := by decide +kernel
theorem dL_law_418 : decode cL_law 418 = .ok (.aload_n 0, 1) := by decide +kernel
theorem dL_law_419 : decode cL_law 419 = .ok (.iload_n 3, 1) := by decide +kernel
theorem dL_law_420 : decode cL_law 420 = .ok (.iconst 3, 1) := by decide +kernel
theorem dL_law_421 : decode cL_law 421 = .ok (.iadd, 1) := by decide +kernel
theorem dL_law_422 : decode cL_law 422 = .ok (.iaload, 1) := by decide +kernel
theorem dL_law_423 : decode cL_law 423 = .ok (.invokevirtual 53, 3) := by decide +kernel
theorem dL_law_426 : decode cL_law 426 = .ok (.aload_n 2, 1) := by decide +kernel
theorem dL_law_427 : decode cL_law 427 = .ok (.aload_n 0, 1) := by decide +kernel
theorem dL_law_428 : decode cL_law 428 = .ok (.iload_n 3, 1) := by decide +kernel
theorem dL_law_429 : decode cL_law 429 = .ok (.iconst 1, 1) := by decide +kernel
theorem dL_law_430 : decode cL_law 430 = .ok (.iadd, 1) := by decide +kernel
theorem dL_law_431 : decode cL_law 431 = .ok (.iaload, 1) := by decide +kernel
theorem dL_law_432 : decode cL_law 432 = .ok (.aload_n 0, 1) := by decide +kernel
theorem dL_law_433 : decode cL_law 433 = .ok (.iload_n 3, 1) := by decide +kernel
theorem dL_law_434 : decode cL_law 434 = .ok (.iconst 2, 1) := by decide +kernel
theorem dL_law_435 : decode cL_law 435 = .ok (.iadd, 1) := by decide +kernel
theorem dL_law_436 : decode cL_law 436 = .ok (.iaload, 1) := by decide +kernel
theorem dL_law_437 : decode cL_law 437 = .ok (.aload_n 0, 1) := by decide +kernel
theorem dL_law_438 : decode cL_law 438 = .ok (.iload_n 3, 1) := by decide +kernel
theorem dL_law_439 : decode cL_law 439 = .ok (.iconst 3, 1) := by decide +kernel
theorem dL_law_440 : decode cL_law 440 = .ok (.iadd, 1) := by decide +kernel
theorem dL_law_441 : decode cL_law 441 = .ok (.iaload, 1) := by decide +kernel
theorem dL_law_442 : decode cL_law 442 = .ok (.invokevirtual 56, 3) := by decide +kernel
theorem dL_law_445 : decode cL_law 445 = .ok (.if_icmp .eq 365, 3) := by decide +kernel
theorem dL_law_448 : decode cL_law 448 = .ok (.iconst 0, 1) := by decide +kernel
theorem dL_law_449 : decode cL_law 449 = .ok (.ireturn, 1) := by decide +kernel
theorem dL_law_450 : decode cL_law 450 = .ok (.aload_n 1, 1) := by decide +kernel
theorem dL_law_451 : decode cL_law 451 = .ok (.aload_n 0, 1) := by decide +kernel
theorem dL_law_452 : decode cL_law 452 = .ok (.iload_n 3, 1) := by decide +kernel
theorem dL_law_453 : decode cL_law 453 = .ok (.iconst 1, 1) := by decide +kernel
theorem dL_law_454 : decode cL_law 454 = .ok (.iadd, 1) := by decide +kernel
theorem dL_law_455 : decode cL_law 455 = .ok (.iaload, 1) := by decide +kernel
theorem dL_law_456 : decode cL_law 456 = .ok (.aload_n 0, 1) := by decide +kernel
theorem dL_law_457 : decode cL_law 457 = .ok (.iload_n 3, 1) := by decide +kernel
theorem dL_law_458 : decode cL_law 458 = .ok (.iconst 2, 1) := by decide +kernel
theorem dL_law_459 : decode cL_law 459 = .ok (.iadd, 1) := by decide +kernel
theorem dL_law_460 : decode cL_law 460 = .ok (.iaload, 1) := by decide +kernel
theorem dL_law_461 : decode cL_law 461 = .ok (.invokevirtual 57, 3) := by decide +kernel
theorem dL_law_464 : decode cL_law 464 = .ok (.aload_n 2, 1) := by decide +kernel
theorem dL_law_465 : decode cL_law 465 = .ok (.aload_n 0, 1) := by decide +kernel
theorem dL_law_466 : decode cL_law 466 = .ok (.iload_n 3, 1) := by decide +kernel
theorem dL_law_467 : decode cL_law 467 = .ok (.iconst 1, 1) := by decide +kernel
theorem dL_law_468 : decode cL_law 468 = .ok (.iadd, 1) := by decide +kernel
theorem dL_law_469 : decode cL_law 469 = .ok (.iaload, 1) := by decide +kernel
theorem dL_law_470 : decode cL_law 470 = .ok (.aload_n 0, 1) := by decide +kernel
theorem dL_law_471 : decode cL_law 471 = .ok (.iload_n 3, 1) := by decide +kernel
theorem dL_law_472 : decode cL_law 472 = .ok (.iconst 2, 1) := by decide +kernel
theorem dL_law_473 : decode cL_law 473 = .ok (.iadd, 1) := by decide +kernel
theorem dL_law_474 : decode cL_law 474 = .ok (.iaload, 1) := by decide +kernel
theorem dL_law_475 : decode cL_law 475 = .ok (.invokevirtual 61, 3) := by decide +kernel
theorem dL_law_478 : decode cL_law 478 = .ok (.lcmp, 1) := by decide +kernel
theorem dL_law_479 : decode cL_law 479 = .ok (.ifCond .eq 331, 3) := by decide +kernel
theorem dL_law_482 : decode cL_law 482 = .ok (.iconst 0, 1) := by decide +kernel
theorem dL_law_483 : decode cL_law 483 = .ok (.ireturn, 1) := by decide +kernel
theorem dL_law_484 : decode cL_law 484 = .ok (.aload_n 1, 1) := by decide +kernel
theorem dL_law_485 : decode cL_law 485 = .ok (.aload_n 0, 1) := by decide +kernel
theorem dL_law_486 : decode cL_law 486 = .ok (.iload_n 3, 1) := by decide +kernel
theorem dL_law_487 : decode cL_law 487 = .ok (.iconst 1, 1) := by decide +kernel
theorem dL_law_488 : decode cL_law 488 = .ok (.iadd, 1) := by decide +kernel
theorem dL_law_489 : decode cL_law 489 = .ok (.iaload, 1) := by decide +kernel
theorem dL_law_490 : decode cL_law 490 = .ok (.aload_n 0, 1) := by decide +kernel
theorem dL_law_491 : decode cL_law 491 = .ok (.iload_n 3, 1) := by decide +kernel
theorem dL_law_492 : decode cL_law 492 = .ok (.iconst 2, 1) := by decide +kernel
theorem dL_law_493 : decode cL_law 493 = .ok (.iadd, 1) := by decide +kernel
theorem dL_law_494 : decode cL_law 494 = .ok (.iaload, 1) := by decide +kernel
theorem dL_law_495 : decode cL_law 495 = .ok (.aload_n 0, 1) := by decide +kernel
theorem dL_law_496 : decode cL_law 496 = .ok (.iload_n 3, 1) := by decide +kernel
theorem dL_law_497 : decode cL_law 497 = .ok (.iconst 3, 1) := by decide +kernel
theorem dL_law_498 : decode cL_law 498 = .ok (.iadd, 1) := by decide +kernel
theorem dL_law_499 : decode cL_law 499 = .ok (.iaload, 1) := by decide +kernel
theorem dL_law_500 : decode cL_law 500 = .ok (.invokevirtual 62, 3) := by decide +kernel
theorem dL_law_503 : decode cL_law 503 = .ok (.aload_n 2, 1) := by decide +kernel
theorem dL_law_504 : decode cL_law 504 = .ok (.aload_n 0, 1) := by decide +kernel
theorem dL_law_505 : decode cL_law 505 = .ok (.iload_n 3, 1) := by decide +kernel
theorem dL_law_506 : decode cL_law 506 = .ok (.iconst 1, 1) := by decide +kernel
theorem dL_law_507 : decode cL_law 507 = .ok (.iadd, 1) := by decide +kernel
theorem dL_law_508 : decode cL_law 508 = .ok (.iaload, 1) := by decide +kernel
theorem dL_law_509 : decode cL_law 509 = .ok (.aload_n 0, 1) := by decide +kernel
theorem dL_law_510 : decode cL_law 510 = .ok (.iload_n 3, 1) := by decide +kernel
theorem dL_law_511 : decode cL_law 511 = .ok (.iconst 2, 1) := by decide +kernel
theorem dL_law_512 : decode cL_law 512 = .ok (.iadd, 1) := by decide +kernel
theorem dL_law_513 : decode cL_law 513 = .ok (.iaload, 1) := by decide +kernel
theorem dL_law_514 : decode cL_law 514 = .ok (.aload_n 0, 1) := by decide +kernel
theorem dL_law_515 : decode cL_law 515 = .ok (.iload_n 3, 1) := by decide +kernel
theorem dL_law_516 : decode cL_law 516 = .ok (.iconst 3, 1) := by decide +kernel
theorem dL_law_517 : decode cL_law 517 = .ok (.iadd, 1) := by decide +kernel
theorem dL_law_518 : decode cL_law 518 = .ok (.iaload, 1) := by decide +kernel
theorem dL_law_519 : decode cL_law 519 = .ok (.invokevirtual 65, 3) := by decide +kernel
theorem dL_law_522 : decode cL_law 522 = .ok (.if_icmp .eq 288, 3) := by decide +kernel
theorem dL_law_525 : decode cL_law 525 = .ok (.iconst 0, 1) := by decide +kernel
theorem dL_law_526 : decode cL_law 526 = .ok (.ireturn, 1) := by decide +kernel
theorem dL_law_527 : decode cL_law 527 = .ok (.aload_n 1, 1) := by decide +kernel
theorem dL_law_528 : decode cL_law 528 = .ok (.aload_n 0, 1) := by decide +kernel
theorem dL_law_529 : decode cL_law 529 = .ok (.iload_n 3, 1) := by decide +kernel
theorem dL_law_530 : decode cL_law 530 = .ok (.iconst 1, 1) := by decide +kernel
theorem dL_law_531 : decode cL_law 531 = .ok (.iadd, 1) := by decide +kernel
theorem dL_law_532 : decode cL_law 532 = .ok (.iaload, 1) := by decide +kernel
theorem dL_law_533 : decode cL_law 533 = .ok (.aload_n 0, 1) := by decide +kernel
theorem dL_law_534 : decode cL_law 534 = .ok (.iload_n 3, 1) := by decide +kernel
theorem dL_law_535 : decode cL_law 535 = .ok (.iconst 2, 1) := by decide +kernel
theorem dL_law_536 : decode cL_law 536 = .ok (.iadd, 1) := by decide +kernel
theorem dL_law_537 : decode cL_law 537 = .ok (.iaload, 1) := by decide +kernel
theorem dL_law_538 : decode cL_law 538 = .ok (.invokevirtual 66, 3) := by decide +kernel
theorem dL_law_541 : decode cL_law 541 = .ok (.aload_n 2, 1) := by decide +kernel
theorem dL_law_542 : decode cL_law 542 = .ok (.aload_n 0, 1) := by decide +kernel
theorem dL_law_543 : decode cL_law 543 = .ok (.iload_n 3, 1) := by decide +kernel
theorem dL_law_544 : decode cL_law 544 = .ok (.iconst 1, 1) := by decide +kernel
theorem dL_law_545 : decode cL_law 545 = .ok (.iadd, 1) := by decide +kernel
theorem dL_law_546 : decode cL_law 546 = .ok (.iaload, 1) := by decide +kernel
theorem dL_law_547 : decode cL_law 547 = .ok (.aload_n 0, 1) := by decide +kernel
theorem dL_law_548 : decode cL_law 548 = .ok (.iload_n 3, 1) := by decide +kernel
theorem dL_law_549 : decode cL_law 549 = .ok (.iconst 2, 1) := by decide +kernel
theorem dL_law_550 : decode cL_law 550 = .ok (.iadd, 1) := by decide +kernel
theorem dL_law_551 : decode cL_law 551 = .ok (.iaload, 1) := by decide +kernel
theorem dL_law_552 : decode cL_law 552 = .ok (.invokevirtual 69, 3) := by decide +kernel
theorem dL_law_555 : decode cL_law 555 = .ok (.if_icmp .eq 255, 3) := by decide +kernel
theorem dL_law_558 : decode cL_law 558 = .ok (.iconst 0, 1) := by decide +kernel
theorem dL_law_559 : decode cL_law 559 = .ok (.ireturn, 1) := by decide +kernel
theorem dL_law_560 : decode cL_law 560 = .ok (.aload_n 1, 1) := by decide +kernel
theorem dL_law_561 : decode cL_law 561 = .ok (.aload_n 0, 1) := by decide +kernel
theorem dL_law_562 : decode cL_law 562 = .ok (.iload_n 3, 1) := by decide +kernel
theorem dL_law_563 : decode cL_law 563 = .ok (.iconst 1, 1) := by decide +kernel
theorem dL_law_564 : decode cL_law 564 = .ok (.iadd, 1) := by decide +kernel
theorem dL_law_565 : decode cL_law 565 = .ok (.iaload, 1) := by decide +kernel
theorem dL_law_566 : decode cL_law 566 = .ok (.invokevirtual 70, 3) := by decide +kernel
theorem dL_law_569 : decode cL_law 569 = .ok (.aload_n 2, 1) := by decide +kernel
theorem dL_law_570 : decode cL_law 570 = .ok (.aload_n 0, 1) := by decide +kernel
theorem dL_law_571 : decode cL_law 571 = .ok (.iload_n 3, 1) := by decide +kernel
theorem dL_law_572 : decode cL_law 572 = .ok (.iconst 1, 1) := by decide +kernel
theorem dL_law_573 : decode cL_law 573 = .ok (.iadd, 1) := by decide +kernel
theorem dL_law_574 : decode cL_law 574 = .ok (.iaload, 1) := by decide +kernel
theorem dL_law_575 : decode cL_law 575 = .ok (.invokevirtual 73, 3) := by decide +kernel
theorem dL_law_578 : decode cL_law 578 = .ok (.if_icmp .eq 232, 3) := by decide +kernel
theorem dL_law_581 : decode cL_law 581 = .ok (.iconst 0, 1) := by decide +kernel
theorem dL_law_582 : decode cL_law 582 = .ok (.ireturn, 1) := by decide +kernel
theorem dL_law_583 : decode cL_law 583 = .ok (.aload_n 1, 1) := by decide +kernel
theorem dL_law_584 : decode cL_law 584 = .ok (.aload_n 0, 1) := by decide +kernel
theorem dL_law_585 : decode cL_law 585 = .ok (.iload_n 3, 1) := by decide +kernel
theorem dL_law_586 : decode cL_law 586 = .ok (.iconst 1, 1) := by decide +kernel
theorem dL_law_587 : decode cL_law 587 = .ok (.iadd, 1) := by decide +kernel
theorem dL_law_588 : decode cL_law 588 = .ok (.iaload, 1) := by decide +kernel
theorem dL_law_589 : decode cL_law 589 = .ok (.invokevirtual 74, 3) := by decide +kernel
theorem dL_law_592 : decode cL_law 592 = .ok (.aload_n 2, 1) := by decide +kernel
theorem dL_law_593 : decode cL_law 593 = .ok (.aload_n 0, 1) := by decide +kernel
theorem dL_law_594 : decode cL_law 594 = .ok (.iload_n 3, 1) := by decide +kernel
theorem dL_law_595 : decode cL_law 595 = .ok (.iconst 1, 1) := by decide +kernel
theorem dL_law_596 : decode cL_law 596 = .ok (.iadd, 1) := by decide +kernel
theorem dL_law_597 : decode cL_law 597 = .ok (.iaload, 1) := by decide +kernel
theorem dL_law_598 : decode cL_law 598 = .ok (.invokevirtual 77, 3) := by decide +kernel
theorem dL_law_601 : decode cL_law 601 = .ok (.if_icmp .eq 209, 3) := by decide +kernel
theorem dL_law_604 : decode cL_law 604 = .ok (.iconst 0, 1) := by decide +kernel
theorem dL_law_605 : decode cL_law 605 = .ok (.ireturn, 1) := by decide +kernel
theorem dL_law_606 : decode cL_law 606 = .ok (.aload_n 1, 1) := by decide +kernel
theorem dL_law_607 : decode cL_law 607 = .ok (.aload_n 0, 1) := by decide +kernel
theorem dL_law_608 : decode cL_law 608 = .ok (.iload_n 3, 1) := by decide +kernel
theorem dL_law_609 : decode cL_law 609 = .ok (.iconst 1, 1) := by decide +kernel
theorem dL_law_610 : decode cL_law 610 = .ok (.iadd, 1) := by decide +kernel
theorem dL_law_611 : decode cL_law 611 = .ok (.iaload, 1) := by decide +kernel
theorem dL_law_612 : decode cL_law 612 = .ok (.aload_n 0, 1) := by decide +kernel
theorem dL_law_613 : decode cL_law 613 = .ok (.iload_n 3, 1) := by decide +kernel
theorem dL_law_614 : decode cL_law 614 = .ok (.iconst 2, 1) := by decide +kernel
theorem dL_law_615 : decode cL_law 615 = .ok (.iadd, 1) := by decide +kernel
theorem dL_law_616 : decode cL_law 616 = .ok (.iaload, 1) := by decide +kernel
theorem dL_law_617 : decode cL_law 617 = .ok (.invokevirtual 78, 3) := by decide +kernel
theorem dL_law_620 : decode cL_law 620 = .ok (.aload_n 2, 1) := by decide +kernel
theorem dL_law_621 : decode cL_law 621 = .ok (.aload_n 0, 1) := by decide +kernel
theorem dL_law_622 : decode cL_law 622 = .ok (.iload_n 3, 1) := by decide +kernel
theorem dL_law_623 : decode cL_law 623 = .ok (.iconst 1, 1) := by decide +kernel
theorem dL_law_624 : decode cL_law 624 = .ok (.iadd, 1) := by decide +kernel
theorem dL_law_625 : decode cL_law 625 = .ok (.iaload, 1) := by decide +kernel
theorem dL_law_626 : decode cL_law 626 = .ok (.aload_n 0, 1) := by decide +kernel
theorem dL_law_627 : decode cL_law 627 = .ok (.iload_n 3, 1) := by decide +kernel
theorem dL_law_628 : decode cL_law 628 = .ok (.iconst 2, 1) := by decide +kernel
theorem dL_law_629 : decode cL_law 629 = .ok (.iadd, 1) := by decide +kernel
theorem dL_law_630 : decode cL_law 630 = .ok (.iaload, 1) := by decide +kernel
theorem dL_law_631 : decode cL_law 631 = .ok (.invokevirtual 81, 3) := by decide +kernel
theorem dL_law_634 : decode cL_law 634 = .ok (.if_icmp .eq 176, 3) := by decide +kernel
theorem dL_law_637 : decode cL_law 637 = .ok (.iconst 0, 1) := by decide +kernel
theorem dL_law_638 : decode cL_law 638 = .ok (.ireturn, 1) := by decide +kernel
theorem dL_law_639 : decode cL_law 639 = .ok (.aload_n 1, 1) := by decide +kernel
theorem dL_law_640 : decode cL_law 640 = .ok (.aload_n 0, 1) := by decide +kernel
theorem dL_law_641 : decode cL_law 641 = .ok (.iload_n 3, 1) := by decide +kernel
theorem dL_law_642 : decode cL_law 642 = .ok (.iconst 1, 1) := by decide +kernel
theorem dL_law_643 : decode cL_law 643 = .ok (.iadd, 1) := by decide +kernel
theorem dL_law_644 : decode cL_law 644 = .ok (.iaload, 1) := by decide +kernel
theorem dL_law_645 : decode cL_law 645 = .ok (.aload_n 0, 1) := by decide +kernel
theorem dL_law_646 : decode cL_law 646 = .ok (.iload_n 3, 1) := by decide +kernel
theorem dL_law_647 : decode cL_law 647 = .ok (.iconst 2, 1) := by decide +kernel
theorem dL_law_648 : decode cL_law 648 = .ok (.iadd, 1) := by decide +kernel
theorem dL_law_649 : decode cL_law 649 = .ok (.iaload, 1) := by decide +kernel
theorem dL_law_650 : decode cL_law 650 = .ok (.aload_n 0, 1) := by decide +kernel
theorem dL_law_651 : decode cL_law 651 = .ok (.iload_n 3, 1) := by decide +kernel
theorem dL_law_652 : decode cL_law 652 = .ok (.iconst 3, 1) := by decide +kernel
theorem dL_law_653 : decode cL_law 653 = .ok (.iadd, 1) := by decide +kernel
theorem dL_law_654 : decode cL_law 654 = .ok (.iaload, 1) := by decide +kernel
theorem dL_law_655 : decode cL_law 655 = .ok (.invokevirtual 82, 3) := by decide +kernel
theorem dL_law_658 : decode cL_law 658 = .ok (.aload_n 2, 1) := by decide +kernel
theorem dL_law_659 : decode cL_law 659 = .ok (.aload_n 0, 1) := by decide +kernel
theorem dL_law_660 : decode cL_law 660 = .ok (.iload_n 3, 1) := by decide +kernel
theorem dL_law_661 : decode cL_law 661 = .ok (.iconst 1, 1) := by decide +kernel
theorem dL_law_662 : decode cL_law 662 = .ok (.iadd, 1) := by decide +kernel
theorem dL_law_663 : decode cL_law 663 = .ok (.iaload, 1) := by decide +kernel
theorem dL_law_664 : decode cL_law 664 = .ok (.aload_n 0, 1) := by decide +kernel
theorem dL_law_665 : decode cL_law 665 = .ok (.iload_n 3, 1) := by decide +kernel
theorem dL_law_666 : decode cL_law 666 = .ok (.iconst 2, 1) := by decide +kernel
theorem dL_law_667 : decode cL_law 667 = .ok (.iadd, 1) := by decide +kernel
theorem dL_law_668 : decode cL_law 668 = .ok (.iaload, 1) := by decide +kernel
theorem dL_law_669 : decode cL_law 669 = .ok (.aload_n 0, 1) := by decide +kernel
theorem dL_law_670 : decode cL_law 670 = .ok (.iload_n 3, 1) := by decide +kernel
theorem dL_law_671 : decode cL_law 671 = .ok (.iconst 3, 1) := by decide +kernel
theorem dL_law_672 : decode cL_law 672 = .ok (.iadd, 1) := by decide +kernel
theorem dL_law_673 : decode cL_law 673 = .ok (.iaload, 1) := by decide +kernel
theorem dL_law_674 : decode cL_law 674 = .ok (.invokevirtual 85, 3) := by decide +kernel
theorem dL_law_677 : decode cL_law 677 = .ok (.if_icmp .eq 133, 3) := by decide +kernel
theorem dL_law_680 : decode cL_law 680 = .ok (.iconst 0, 1) := by decide +kernel
theorem dL_law_681 : decode cL_law 681 = .ok (.ireturn, 1) := by decide +kernel
theorem dL_law_682 : decode cL_law 682 = .ok (.aload_n 1, 1) := by decide +kernel
theorem dL_law_683 : decode cL_law 683 = .ok (.aload_n 0, 1) := by decide +kernel
theorem dL_law_684 : decode cL_law 684 = .ok (.iload_n 3, 1) := by decide +kernel
theorem dL_law_685 : decode cL_law 685 = .ok (.iconst 1, 1) := by decide +kernel
theorem dL_law_686 : decode cL_law 686 = .ok (.iadd, 1) := by decide +kernel
theorem dL_law_687 : decode cL_law 687 = .ok (.iaload, 1) := by decide +kernel
theorem dL_law_688 : decode cL_law 688 = .ok (.invokevirtual 86, 3) := by decide +kernel
theorem dL_law_691 : decode cL_law 691 = .ok (.aload_n 2, 1) := by decide +kernel
theorem dL_law_692 : decode cL_law 692 = .ok (.aload_n 0, 1) := by decide +kernel
theorem dL_law_693 : decode cL_law 693 = .ok (.iload_n 3, 1) := by decide +kernel
theorem dL_law_694 : decode cL_law 694 = .ok (.iconst 1, 1) := by decide +kernel
theorem dL_law_695 : decode cL_law 695 = .ok (.iadd, 1) := by decide +kernel
theorem dL_law_696 : decode cL_law 696 = .ok (.iaload, 1) := by decide +kernel
theorem dL_law_697 : decode cL_law 697 = .ok (.invokevirtual 89, 3) := by decide +kernel
theorem dL_law_700 : decode cL_law 700 = .ok (.if_icmp .eq 110, 3) := by decide +kernel
theorem dL_law_703 : decode cL_law 703 = .ok (.iconst 0, 1) := by decide +kernel
theorem dL_law_704 : decode cL_law 704 = .ok (.ireturn, 1) := by decide +kernel
theorem dL_law_705 : decode cL_law 705 = .ok (.aload_n 1, 1) := by decide +kernel
theorem dL_law_706 : decode cL_law 706 = .ok (.invokevirtual 90, 3) := by decide +kernel
theorem dL_law_709 : decode cL_law 709 = .ok (.aload_n 2, 1) := by decide +kernel
theorem dL_law_710 : decode cL_law 710 = .ok (.invokevirtual 93, 3) := by decide +kernel
theorem dL_law_713 : decode cL_law 713 = .ok (.if_icmp .eq 97, 3) := by decide +kernel
theorem dL_law_716 : decode cL_law 716 = .ok (.iconst 0, 1) := by decide +kernel
theorem dL_law_717 : decode cL_law 717 = .ok (.ireturn, 1) := by decide +kernel
theorem dL_law_718 : decode cL_law 718 = .ok (.aload_n 1, 1) := by decide +kernel
theorem dL_law_719 : decode cL_law 719 = .ok (.aload_n 0, 1) := by decide +kernel
theorem dL_law_720 : decode cL_law 720 = .ok (.iload_n 3, 1) := by decide +kernel
theorem dL_law_721 : decode cL_law 721 = .ok (.iconst 1, 1) := by decide +kernel
theorem dL_law_722 : decode cL_law 722 = .ok (.iadd, 1) := by decide +kernel
theorem dL_law_723 : decode cL_law 723 = .ok (.iaload, 1) := by decide +kernel
theorem dL_law_724 : decode cL_law 724 = .ok (.invokevirtual 94, 3) := by decide +kernel
theorem dL_law_727 : decode cL_law 727 = .ok (.aload_n 2, 1) := by decide +kernel
theorem dL_law_728 : decode cL_law 728 = .ok (.aload_n 0, 1) := by decide +kernel
theorem dL_law_729 : decode cL_law 729 = .ok (.iload_n 3, 1) := by decide +kernel
theorem dL_law_730 : decode cL_law 730 = .ok (.iconst 1, 1) := by decide +kernel
theorem dL_law_731 : decode cL_law 731 = .ok (.iadd, 1) := by decide +kernel
theorem dL_law_732 : decode cL_law 732 = .ok (.iaload, 1) := by decide +kernel
theorem dL_law_733 : decode cL_law 733 = .ok (.invokevirtual 97, 3) := by decide +kernel
theorem dL_law_736 : decode cL_law 736 = .ok (.if_icmp .eq 74, 3) := by decide +kernel
theorem dL_law_739 : decode cL_law 739 = .ok (.iconst 0, 1) := by decide +kernel
theorem dL_law_740 : decode cL_law 740 = .ok (.ireturn, 1) := by decide +kernel
theorem dL_law_741 : decode cL_law 741 = .ok (.aload_n 1, 1) := by decide +kernel
theorem dL_law_742 : decode cL_law 742 = .ok (.invokevirtual 98, 3) := by decide +kernel
theorem dL_law_745 : decode cL_law 745 = .ok (.aload_n 2, 1) := by decide +kernel
theorem dL_law_746 : decode cL_law 746 = .ok (.invokevirtual 101, 3) := by decide +kernel
theorem dL_law_749 : decode cL_law 749 = .ok (.if_icmp .eq 61, 3) := by decide +kernel
theorem dL_law_752 : decode cL_law 752 = .ok (.iconst 0, 1) := by decide +kernel
theorem dL_law_753 : decode cL_law 753 = .ok (.ireturn, 1) := by decide +kernel
theorem dL_law_754 : decode cL_law 754 = .ok (.aload_n 1, 1) := by decide +kernel
theorem dL_law_755 : decode cL_law 755 = .ok (.aload_n 0, 1) := by decide +kernel
theorem dL_law_756 : decode cL_law 756 = .ok (.iload_n 3, 1) := by decide +kernel
theorem dL_law_757 : decode cL_law 757 = .ok (.iconst 1, 1) := by decide +kernel
theorem dL_law_758 : decode cL_law 758 = .ok (.iadd, 1) := by decide +kernel
theorem dL_law_759 : decode cL_law 759 = .ok (.iaload, 1) := by decide +kernel
theorem dL_law_760 : decode cL_law 760 = .ok (.aload_n 0, 1) := by decide +kernel
theorem dL_law_761 : decode cL_law 761 = .ok (.iload_n 3, 1) := by decide +kernel
theorem dL_law_762 : decode cL_law 762 = .ok (.iconst 2, 1) := by decide +kernel
theorem dL_law_763 : decode cL_law 763 = .ok (.iadd, 1) := by decide +kernel
theorem dL_law_764 : decode cL_law 764 = .ok (.iaload, 1) := by decide +kernel
theorem dL_law_765 : decode cL_law 765 = .ok (.invokevirtual 102, 3) := by decide +kernel
theorem dL_law_768 : decode cL_law 768 = .ok (.aload_n 2, 1) := by decide +kernel
theorem dL_law_769 : decode cL_law 769 = .ok (.aload_n 0, 1) := by decide +kernel
theorem dL_law_770 : decode cL_law 770 = .ok (.iload_n 3, 1) := by decide +kernel
theorem dL_law_771 : decode cL_law 771 = .ok (.iconst 1, 1) := by decide +kernel
theorem dL_law_772 : decode cL_law 772 = .ok (.iadd, 1) := by decide +kernel
theorem dL_law_773 : decode cL_law 773 = .ok (.iaload, 1) := by decide +kernel
theorem dL_law_774 : decode cL_law 774 = .ok (.aload_n 0, 1) := by decide +kernel
theorem dL_law_775 : decode cL_law 775 = .ok (.iload_n 3, 1) := by decide +kernel
theorem dL_law_776 : decode cL_law 776 = .ok (.iconst 2, 1) := by decide +kernel
theorem dL_law_777 : decode cL_law 777 = .ok (.iadd, 1) := by decide +kernel
theorem dL_law_778 : decode cL_law 778 = .ok (.iaload, 1) := by decide +kernel
theorem dL_law_779 : decode cL_law 779 = .ok (.invokevirtual 105, 3) := by decide +kernel
theorem dL_law_782 : decode cL_law 782 = .ok (.if_icmp .eq 28, 3) := by decide +kernel
theorem dL_law_785 : decode cL_law 785 = .ok (.iconst 0, 1) := by decide +kernel
theorem dL_law_786 : decode cL_law 786 = .ok (.ireturn, 1) := by decide +kernel
theorem dL_law_787 : decode cL_law 787 = .ok (.aload_n 1, 1) := by decide +kernel
theorem dL_law_788 : decode cL_law 788 = .ok (.aload_n 0, 1) := by decide +kernel
theorem dL_law_789 : decode cL_law 789 = .ok (.iload_n 3, 1) := by decide +kernel
theorem dL_law_790 : decode cL_law 790 = .ok (.iconst 1, 1) := by decide +kernel
theorem dL_law_791 : decode cL_law 791 = .ok (.iadd, 1) := by decide +kernel
theorem dL_law_792 : decode cL_law 792 = .ok (.iaload, 1) := by decide +kernel
theorem dL_law_793 : decode cL_law 793 = .ok (.invokevirtual 106, 3) := by decide +kernel
theorem dL_law_796 : decode cL_law 796 = .ok (.aload_n 2, 1) := by decide +kernel
theorem dL_law_797 : decode cL_law 797 = .ok (.aload_n 0, 1) := by decide +kernel
theorem dL_law_798 : decode cL_law 798 = .ok (.iload_n 3, 1) := by decide +kernel
theorem dL_law_799 : decode cL_law 799 = .ok (.iconst 1, 1) := by decide +kernel
theorem dL_law_800 : decode cL_law 800 = .ok (.iadd, 1) := by decide +kernel
theorem dL_law_801 : decode cL_law 801 = .ok (.iaload, 1) := by decide +kernel
theorem dL_law_802 : decode cL_law 802 = .ok (.invokevirtual 109, 3) := by decide +kernel
theorem dL_law_805 : decode cL_law 805 = .ok (.if_icmp .eq 5, 3) := by decide +kernel
theorem dL_law_808 : decode cL_law 808 = .ok (.iconst 0, 1) := by decide +kernel
theorem dL_law_809 : decode cL_law 809 = .ok (.ireturn, 1) := by decide +kernel
theorem dL_law_810 : decode cL_law 810 = .ok (.iinc 3 4, 3) := by decide +kernel
theorem dL_law_813 : decode cL_law 813 = .ok (.goto (-795), 3) := by decide +kernel
theorem dL_law_816 : decode cL_law 816 = .ok (.iconst 1, 1) := by decide +kernel
theorem dL_law_817 : decode cL_law 817 = .ok (.ireturn, 1) := by decide +kernel
