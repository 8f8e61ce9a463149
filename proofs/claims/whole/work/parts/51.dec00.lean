theorem d_TP_init_0 : decode b_TP_init 0 = .ok (.aload_n 0, 1) := by decide +kernel
theorem d_TP_init_1 : decode b_TP_init 1 = .ok (.invokespecial 3, 3) := by decide +kernel
theorem d_TP_init_4 : decode b_TP_init 4 = .ok (.aload_n 0, 1) := by decide +kernel
theorem d_TP_init_5 : decode b_TP_init 5 = .ok (.new 9, 3) := by decide +kernel
theorem d_TP_init_8 : decode b_TP_init 8 = .ok (.dup, 1) := by decide +kernel
theorem d_TP_init_9 : decode b_TP_init 9 = .ok (.invokespecial 11, 3) := by decide +kernel
theorem d_TP_init_12 : decode b_TP_init 12 = .ok (.putfield 12, 3) := by decide +kernel
theorem d_TP_init_15 : decode b_TP_init 15 = .ok (.aload_n 0, 1) := by decide +kernel
theorem d_TP_init_16 : decode b_TP_init 16 = .ok (.new 9, 3) := by decide +kernel
theorem d_TP_init_19 : decode b_TP_init 19 = .ok (.dup, 1) := by decide +kernel
theorem d_TP_init_20 : decode b_TP_init 20 = .ok (.invokespecial 11, 3) := by decide +kernel
theorem d_TP_init_23 : decode b_TP_init 23 = .ok (.putfield 16, 3) := by decide +kernel
theorem d_TP_init_26 : decode b_TP_init 26 = .ok (.aload_n 0, 1) := by decide +kernel
theorem d_TP_init_27 : decode b_TP_init 27 = .ok (.new 9, 3) := by decide +kernel
theorem d_TP_init_30 : decode b_TP_init 30 = .ok (.dup, 1) := by decide +kernel
theorem d_TP_init_31 : decode b_TP_init 31 = .ok (.invokespecial 11, 3) := by decide +kernel
theorem d_TP_init_34 : decode b_TP_init 34 = .ok (.putfield 19, 3) := by decide +kernel
theorem d_TP_init_37 : decode b_TP_init 37 = .ok (.aload_n 0, 1) := by decide +kernel
theorem d_TP_init_38 : decode b_TP_init 38 = .ok (.new 22, 3) := by decide +kernel
theorem d_TP_init_41 : decode b_TP_init 41 = .ok (.dup, 1) := by decide +kernel
theorem d_TP_init_42 : decode b_TP_init 42 = .ok (.invokespecial 24, 3) := by decide +kernel
theorem d_TP_init_45 : decode b_TP_init 45 = .ok (.putfield 25, 3) := by decide +kernel
theorem d_TP_init_48 : decode b_TP_init 48 = .ok (.aload_n 0, 1) := by decide +kernel
theorem d_TP_init_49 : decode b_TP_init 49 = .ok (.new 29, 3) := by decide +kernel
theorem d_TP_init_52 : decode b_TP_init 52 = .ok (.dup, 1) := by decide +kernel
theorem d_TP_init_53 : decode b_TP_init 53 = .ok (.invokespecial 31, 3) := by decide +kernel
theorem d_TP_init_56 : decode b_TP_init 56 = .ok (.putfield 32, 3) := by decide +kernel
theorem d_TP_init_59 : decode b_TP_init 59 = .ok (.aload_n 0, 1) := by decide +kernel
theorem d_TP_init_60 : decode b_TP_init 60 = .ok (.new 36, 3) := by decide +kernel
theorem d_TP_init_63 : decode b_TP_init 63 = .ok (.dup, 1) := by decide +kernel
theorem d_TP_init_64 : decode b_TP_init 64 = .ok (.invokespecial 38, 3) := by decide +kernel
theorem d_TP_init_67 : decode b_TP_init 67 = .ok (.putfield 39, 3) := by decide +kernel
theorem d_TP_init_70 : decode b_TP_init 70 = .ok (.return_, 1) := by decide +kernel
theorem d_TP_feed_0 : decode b_TP_feed 0 = .ok (.aload_n 0, 1) := by decide +kernel
theorem d_TP_feed_1 : decode b_TP_feed 1 = .ok (.getfield 12, 3) := by decide +kernel
theorem d_TP_feed_4 : decode b_TP_feed 4 = .ok (.invokevirtual 43, 3) := by decide +kernel
theorem d_TP_feed_7 : decode b_TP_feed 7 = .ok (.bipush 20, 2) := by decide +kernel
theorem d_TP_feed_9 : decode b_TP_feed 9 = .ok (.iadd, 1) := by decide +kernel
theorem d_TP_feed_10 : decode b_TP_feed 10 = .ok (.ldc 47, 2) := by decide +kernel
theorem d_TP_feed_12 : decode b_TP_feed 12 = .ok (.if_icmp .le 13, 3) := by decide +kernel
theorem d_TP_feed_15 : decode b_TP_feed 15 = .ok (.new 48, 3) := by decide +kernel
theorem d_TP_feed_18 : decode b_TP_feed 18 = .ok (.dup, 1) := by decide +kernel
theorem d_TP_feed_19 : decode b_TP_feed 19 = .ok (.ldc 50, 2) := by decide +kernel
theorem d_TP_feed_21 : decode b_TP_feed 21 = .ok (.invokespecial 52, 3) := by decide +kernel
theorem d_TP_feed_24 : decode b_TP_feed 24 = .ok (.athrow, 1) := by decide +kernel
theorem d_TP_feed_25 : decode b_TP_feed 25 = .ok (.aload_n 0, 1) := by decide +kernel
theorem d_TP_feed_26 : decode b_TP_feed 26 = .ok (.getfield 12, 3) := by decide +kernel
theorem d_TP_feed_29 : decode b_TP_feed 29 = .ok (.iload_n 1, 1) := by decide +kernel
theorem d_TP_feed_30 : decode b_TP_feed 30 = .ok (.invokevirtual 55, 3) := by decide +kernel
theorem d_TP_feed_33 : decode b_TP_feed 33 = .ok (.aload_n 0, 1) := by decide +kernel
theorem d_TP_feed_34 : decode b_TP_feed 34 = .ok (.getfield 12, 3) := by decide +kernel
theorem d_TP_feed_37 : decode b_TP_feed 37 = .ok (.iload_n 2, 1) := by decide +kernel
theorem d_TP_feed_38 : decode b_TP_feed 38 = .ok (.invokevirtual 55, 3) := by decide +kernel
theorem d_TP_feed_41 : decode b_TP_feed 41 = .ok (.aload_n 0, 1) := by decide +kernel
theorem d_TP_feed_42 : decode b_TP_feed 42 = .ok (.getfield 12, 3) := by decide +kernel
theorem d_TP_feed_45 : decode b_TP_feed 45 = .ok (.iload_n 3, 1) := by decide +kernel
theorem d_TP_feed_46 : decode b_TP_feed 46 = .ok (.invokevirtual 55, 3) := by decide +kernel
theorem d_TP_feed_49 : decode b_TP_feed 49 = .ok (.aload_n 0, 1) := by decide +kernel
theorem d_TP_feed_50 : decode b_TP_feed 50 = .ok (.getfield 12, 3) := by decide +kernel
theorem d_TP_feed_53 : decode b_TP_feed 53 = .ok (.iload 4, 2) := by decide +kernel
theorem d_TP_feed_55 : decode b_TP_feed 55 = .ok (.invokevirtual 55, 3) := by decide +kernel
theorem d_TP_feed_58 : decode b_TP_feed 58 = .ok (.aload_n 0, 1) := by decide +kernel
theorem d_TP_feed_59 : decode b_TP_feed 59 = .ok (.getfield 12, 3) := by decide +kernel
theorem d_TP_feed_62 : decode b_TP_feed 62 = .ok (.iload 5, 2) := by decide +kernel
theorem d_TP_feed_64 : decode b_TP_feed 64 = .ok (.invokevirtual 55, 3) := by decide +kernel
theorem d_TP_feed_67 : decode b_TP_feed 67 = .ok (.aload_n 0, 1) := by decide +kernel
theorem d_TP_feed_68 : decode b_TP_feed 68 = .ok (.getfield 12, 3) := by decide +kernel
theorem d_TP_feed_71 : decode b_TP_feed 71 = .ok (.invokevirtual 43, 3) := by decide +kernel
theorem d_TP_feed_74 : decode b_TP_feed 74 = .ok (.ireturn, 1) := by decide +kernel
theorem d_TP_end_0 : decode b_TP_end 0 = .ok (.iload_n 1, 1) := by decide +kernel
theorem d_TP_end_1 : decode b_TP_end 1 = .ok (.ifCond .lt 14, 3) := by decide +kernel
theorem d_TP_end_4 : decode b_TP_end 4 = .ok (.iload_n 1, 1) := by decide +kernel
theorem d_TP_end_5 : decode b_TP_end 5 = .ok (.aload_n 0, 1) := by decide +kernel
theorem d_TP_end_6 : decode b_TP_end 6 = .ok (.getfield 12, 3) := by decide +kernel
theorem d_TP_end_9 : decode b_TP_end 9 = .ok (.invokevirtual 43, 3) := by decide +kernel
theorem d_TP_end_12 : decode b_TP_end 12 = .ok (.if_icmp .le 13, 3) := by decide +kernel
theorem d_TP_end_15 : decode b_TP_end 15 = .ok (.new 59, 3) := by decide +kernel
theorem d_TP_end_18 : decode b_TP_end 18 = .ok (.dup, 1) := by decide +kernel
theorem d_TP_end_19 : decode b_TP_end 19 = .ok (.ldc 61, 2) := by decide +kernel
theorem d_TP_end_21 : decode b_TP_end 21 = .ok (.invokespecial 63, 3) := by decide +kernel
theorem d_TP_end_24 : decode b_TP_end 24 = .ok (.athrow, 1) := by decide +kernel
theorem d_TP_end_25 : decode b_TP_end 25 = .ok (.aload_n 0, 1) := by decide +kernel
theorem d_TP_end_26 : decode b_TP_end 26 = .ok (.getfield 12, 3) := by decide +kernel
theorem d_TP_end_29 : decode b_TP_end 29 = .ok (.aload_n 0, 1) := by decide +kernel
theorem d_TP_end_30 : decode b_TP_end 30 = .ok (.getfield 12, 3) := by decide +kernel
theorem d_TP_end_33 : decode b_TP_end 33 = .ok (.invokevirtual 43, 3) := by decide +kernel
theorem d_TP_end_36 : decode b_TP_end 36 = .ok (.iload_n 1, 1) := by decide +kernel
theorem d_TP_end_37 : decode b_TP_end 37 = .ok (.isub, 1) := by decide +kernel
theorem d_TP_end_38 : decode b_TP_end 38 = .ok (.invokevirtual 64, 3) := by decide +kernel
theorem d_TP_end_41 : decode b_TP_end 41 = .ok (.aload_n 0, 1) := by decide +kernel
theorem d_TP_end_42 : decode b_TP_end 42 = .ok (.getfield 12, 3) := by decide +kernel
theorem d_TP_end_45 : decode b_TP_end 45 = .ok (.invokevirtual 43, 3) := by decide +kernel
theorem d_TP_end_48 : decode b_TP_end 48 = .ok (.ireturn, 1) := by decide +kernel
theorem d_TP_change_0 : decode b_TP_change 0 = .ok (.aload_n 0, 1) := by decide +kernel
theorem d_TP_change_1 : decode b_TP_change 1 = .ok (.getfield 12, 3) := by decide +kernel
theorem d_TP_change_4 : decode b_TP_change 4 = .ok (.iload_n 1, 1) := by decide +kernel
theorem d_TP_change_5 : decode b_TP_change 5 = .ok (.invokevirtual 67, 3) := by decide +kernel
theorem d_TP_change_8 : decode b_TP_change 8 = .ok (.ifCond .eq 14, 3) := by decide +kernel
theorem d_TP_change_11 : decode b_TP_change 11 = .ok (.iload_n 2, 1) := by decide +kernel
theorem d_TP_change_12 : decode b_TP_change 12 = .ok (.ifCond .lt 10, 3) := by decide +kernel
theorem d_TP_change_15 : decode b_TP_change 15 = .ok (.iload_n 2, 1) := by decide +kernel
theorem d_TP_change_16 : decode b_TP_change 16 = .ok (.sipush 255, 3) := by decide +kernel
theorem d_TP_change_19 : decode b_TP_change 19 = .ok (.if_icmp .le 13, 3) := by decide +kernel
theorem d_TP_change_22 : decode b_TP_change 22 = .ok (.new 59, 3) := by decide +kernel
theorem d_TP_change_25 : decode b_TP_change 25 = .ok (.dup, 1) := by decide +kernel
theorem d_TP_change_26 : decode b_TP_change 26 = .ok (.ldc 71, 2) := by decide +kernel
theorem d_TP_change_28 : decode b_TP_change 28 = .ok (.invokespecial 63, 3) := by decide +kernel
theorem d_TP_change_31 : decode b_TP_change 31 = .ok (.athrow, 1) := by decide +kernel
theorem d_TP_change_32 : decode b_TP_change 32 = .ok (.aload_n 0, 1) := by decide +kernel
theorem d_TP_change_33 : decode b_TP_change 33 = .ok (.getfield 12, 3) := by decide +kernel
theorem d_TP_change_36 : decode b_TP_change 36 = .ok (.iload_n 1, 1) := by decide +kernel
theorem d_TP_change_37 : decode b_TP_change 37 = .ok (.aload_n 0, 1) := by decide +kernel
theorem d_TP_change_38 : decode b_TP_change 38 = .ok (.getfield 12, 3) := by decide +kernel
theorem d_TP_change_41 : decode b_TP_change 41 = .ok (.iload_n 1, 1) := by decide +kernel
theorem d_TP_change_42 : decode b_TP_change 42 = .ok (.invokevirtual 73, 3) := by decide +kernel
theorem d_TP_change_45 : decode b_TP_change 45 = .ok (.iload_n 2, 1) := by decide +kernel
theorem d_TP_change_46 : decode b_TP_change 46 = .ok (.ixor, 1) := by decide +kernel
theorem d_TP_change_47 : decode b_TP_change 47 = .ok (.invokevirtual 77, 3) := by decide +kernel
theorem d_TP_change_50 : decode b_TP_change 50 = .ok (.return_, 1) := by decide +kernel
theorem d_TP_press_0 : decode b_TP_press 0 = .ok (.aload_n 0, 1) := by decide +kernel
theorem d_TP_press_1 : decode b_TP_press 1 = .ok (.getfield 32, 3) := by decide +kernel
theorem d_TP_press_4 : decode b_TP_press 4 = .ok (.aload_n 0, 1) := by decide +kernel
theorem d_TP_press_5 : decode b_TP_press 5 = .ok (.getfield 12, 3) := by decide +kernel
theorem d_TP_press_8 : decode b_TP_press 8 = .ok (.aload_n 0, 1) := by decide +kernel
theorem d_TP_press_9 : decode b_TP_press 9 = .ok (.getfield 16, 3) := by decide +kernel
theorem d_TP_press_12 : decode b_TP_press 12 = .ok (.invokevirtual 81, 3) := by decide +kernel
theorem d_TP_press_15 : decode b_TP_press 15 = .ok (.aload_n 0, 1) := by decide +kernel
theorem d_TP_press_16 : decode b_TP_press 16 = .ok (.getfield 16, 3) := by decide +kernel
theorem d_TP_press_19 : decode b_TP_press 19 = .ok (.invokevirtual 43, 3) := by decide +kernel
theorem d_TP_press_22 : decode b_TP_press 22 = .ok (.ireturn, 1) := by decide +kernel
theorem d_TP_open_0 : decode b_TP_open 0 = .ok (.aload_n 0, 1) := by decide +kernel
theorem d_TP_open_1 : decode b_TP_open 1 = .ok (.getfield 39, 3) := by decide +kernel
theorem d_TP_open_4 : decode b_TP_open 4 = .ok (.aload_n 0, 1) := by decide +kernel
theorem d_TP_open_5 : decode b_TP_open 5 = .ok (.getfield 12, 3) := by decide +kernel
theorem d_TP_open_8 : decode b_TP_open 8 = .ok (.aload_n 0, 1) := by decide +kernel
theorem d_TP_open_9 : decode b_TP_open 9 = .ok (.getfield 19, 3) := by decide +kernel
theorem d_TP_open_12 : decode b_TP_open 12 = .ok (.invokevirtual 85, 3) := by decide +kernel
theorem d_TP_open_15 : decode b_TP_open 15 = .ok (.ifCond .ne 23, 3) := by decide +kernel
theorem d_TP_open_18 : decode b_TP_open 18 = .ok (.aload_n 0, 1) := by decide +kernel
theorem d_TP_open_19 : decode b_TP_open 19 = .ok (.dup, 1) := by decide +kernel
theorem d_TP_open_20 : decode b_TP_open 20 = .ok (.getfield 89, 3) := by decide +kernel
theorem d_TP_open_23 : decode b_TP_open 23 = .ok (.iconst 1, 1) := by decide +kernel
theorem d_TP_open_24 : decode b_TP_open 24 = .ok (.iadd, 1) := by decide +kernel
theorem d_TP_open_25 : decode b_TP_open 25 = .ok (.putfield 89, 3) := by decide +kernel
theorem d_TP_open_28 : decode b_TP_open 28 = .ok (.new 93, 3) := by decide +kernel
theorem d_TP_open_31 : decode b_TP_open 31 = .ok (.dup, 1) := by decide +kernel
theorem d_TP_open_32 : decode b_TP_open 32 = .ok (.ldc 95, 2) := by decide +kernel
theorem d_TP_open_34 : decode b_TP_open 34 = .ok (.invokespecial 97, 3) := by decide +kernel
theorem d_TP_open_37 : decode b_TP_open 37 = .ok (.athrow, 1) := by decide +kernel
theorem d_TP_open_38 : decode b_TP_open 38 = .ok (.aload_n 0, 1) := by decide +kernel
theorem d_TP_open_39 : decode b_TP_open 39 = .ok (.getfield 19, 3) := by decide +kernel
theorem d_TP_open_42 : decode b_TP_open 42 = .ok (.astore_n 1, 1) := by decide +kernel
theorem d_TP_open_43 : decode b_TP_open 43 = .ok (.aload_n 0, 1) := by decide +kernel
theorem d_TP_open_44 : decode b_TP_open 44 = .ok (.aload_n 0, 1) := by decide +kernel
theorem d_TP_open_45 : decode b_TP_open 45 = .ok (.getfield 16, 3) := by decide +kernel
theorem d_TP_open_48 : decode b_TP_open 48 = .ok (.putfield 19, 3) := by decide +kernel
theorem d_TP_open_51 : decode b_TP_open 51 = .ok (.aload_n 0, 1) := by decide +kernel
theorem d_TP_open_52 : decode b_TP_open 52 = .ok (.aload_n 1, 1) := by decide +kernel
theorem d_TP_open_53 : decode b_TP_open 53 = .ok (.putfield 16, 3) := by decide +kernel
theorem d_TP_open_56 : decode b_TP_open 56 = .ok (.aload_n 0, 1) := by decide +kernel
theorem d_TP_open_57 : decode b_TP_open 57 = .ok (.aload_n 0, 1) := by decide +kernel
theorem d_TP_open_58 : decode b_TP_open 58 = .ok (.getfield 39, 3) := by decide +kernel
theorem d_TP_open_61 : decode b_TP_open 61 = .ok (.invokevirtual 98, 3) := by decide +kernel
theorem d_TP_open_64 : decode b_TP_open 64 = .ok (.putfield 101, 3) := by decide +kernel
theorem d_TP_open_67 : decode b_TP_open 67 = .ok (.aload_n 0, 1) := by decide +kernel
theorem d_TP_open_68 : decode b_TP_open 68 = .ok (.aload_n 0, 1) := by decide +kernel
theorem d_TP_open_69 : decode b_TP_open 69 = .ok (.getfield 39, 3) := by decide +kernel
theorem d_TP_open_72 : decode b_TP_open 72 = .ok (.invokevirtual 103, 3) := by decide +kernel
theorem d_TP_open_75 : decode b_TP_open 75 = .ok (.putfield 106, 3) := by decide +kernel
theorem d_TP_open_78 : decode b_TP_open 78 = .ok (.aload_n 0, 1) := by decide +kernel
theorem d_TP_open_79 : decode b_TP_open 79 = .ok (.getfield 16, 3) := by decide +kernel
theorem d_TP_open_82 : decode b_TP_open 82 = .ok (.invokevirtual 43, 3) := by decide +kernel
theorem d_TP_open_85 : decode b_TP_open 85 = .ok (.ireturn, 1) := by decide +kernel
theorem d_TP_turn_0 : decode b_TP_turn 0 = .ok (.aload_n 0, 1) := by decide +kernel
theorem d_TP_turn_1 : decode b_TP_turn 1 = .ok (.getfield 16, 3) := by decide +kernel
theorem d_TP_turn_4 : decode b_TP_turn 4 = .ok (.invokevirtual 43, 3) := by decide +kernel
theorem d_TP_turn_7 : decode b_TP_turn 7 = .ok (.ldc 47, 2) := by decide +kernel
theorem d_TP_turn_9 : decode b_TP_turn 9 = .ok (.if_icmp .le 13, 3) := by decide +kernel
theorem d_TP_turn_12 : decode b_TP_turn 12 = .ok (.new 48, 3) := by decide +kernel
theorem d_TP_turn_15 : decode b_TP_turn 15 = .ok (.dup, 1) := by decide +kernel
theorem d_TP_turn_16 : decode b_TP_turn 16 = .ok (.ldc 50, 2) := by decide +kernel
theorem d_TP_turn_18 : decode b_TP_turn 18 = .ok (.invokespecial 52, 3) := by decide +kernel
theorem d_TP_turn_21 : decode b_TP_turn 21 = .ok (.athrow, 1) := by decide +kernel
theorem d_TP_turn_22 : decode b_TP_turn 22 = .ok (.aload_n 0, 1) := by decide +kernel
theorem d_TP_turn_23 : decode b_TP_turn 23 = .ok (.getfield 12, 3) := by decide +kernel
theorem d_TP_turn_26 : decode b_TP_turn 26 = .ok (.aload_n 0, 1) := by decide +kernel
theorem d_TP_turn_27 : decode b_TP_turn 27 = .ok (.getfield 16, 3) := by decide +kernel
theorem d_TP_turn_30 : decode b_TP_turn 30 = .ok (.invokevirtual 108, 3) := by decide +kernel
theorem d_TP_turn_33 : decode b_TP_turn 33 = .ok (.aload_n 0, 1) := by decide +kernel
theorem d_TP_turn_34 : decode b_TP_turn 34 = .ok (.getfield 12, 3) := by decide +kernel
theorem d_TP_turn_37 : decode b_TP_turn 37 = .ok (.invokevirtual 43, 3) := by decide +kernel
theorem d_TP_turn_40 : decode b_TP_turn 40 = .ok (.ireturn, 1) := by decide +kernel
theorem d_TP_hash_0 : decode b_TP_hash 0 = .ok (.iload_n 1, 1) := by decide +kernel
theorem d_TP_hash_1 : decode b_TP_hash 1 = .ok (.ifCond .lt 8, 3) := by decide +kernel
theorem d_TP_hash_4 : decode b_TP_hash 4 = .ok (.iload_n 1, 1) := by decide +kernel
theorem d_TP_hash_5 : decode b_TP_hash 5 = .ok (.iconst 2, 1) := by decide +kernel
theorem d_TP_hash_6 : decode b_TP_hash 6 = .ok (.if_icmp .le 13, 3) := by decide +kernel
theorem d_TP_hash_9 : decode b_TP_hash 9 = .ok (.new 59, 3) := by decide +kernel
theorem d_TP_hash_12 : decode b_TP_hash 12 = .ok (.dup, 1) := by decide +kernel
theorem d_TP_hash_13 : decode b_TP_hash 13 = .ok (.ldc 112, 2) := by decide +kernel
theorem d_TP_hash_15 : decode b_TP_hash 15 = .ok (.invokespecial 63, 3) := by decide +kernel
theorem d_TP_hash_18 : decode b_TP_hash 18 = .ok (.athrow, 1) := by decide +kernel
theorem d_TP_hash_19 : decode b_TP_hash 19 = .ok (.aload_n 0, 1) := by decide +kernel
theorem d_TP_hash_20 : decode b_TP_hash 20 = .ok (.getfield 25, 3) := by decide +kernel
theorem d_TP_hash_23 : decode b_TP_hash 23 = .ok (.aload_n 0, 1) := by decide +kernel
theorem d_TP_hash_24 : decode b_TP_hash 24 = .ok (.getfield 12, 3) := by decide +kernel
theorem d_TP_hash_27 : decode b_TP_hash 27 = .ok (.invokevirtual 114, 3) := by decide +kernel
theorem d_TP_hash_30 : decode b_TP_hash 30 = .ok (.iload_n 1, 1) := by decide +kernel
theorem d_TP_hash_31 : decode b_TP_hash 31 = .ok (.iconst 2, 1) := by decide +kernel
theorem d_TP_hash_32 : decode b_TP_hash 32 = .ok (.if_icmp .ne 12, 3) := by decide +kernel
theorem d_TP_hash_35 : decode b_TP_hash 35 = .ok (.aload_n 0, 1) := by decide +kernel
theorem d_TP_hash_36 : decode b_TP_hash 36 = .ok (.getfield 25, 3) := by decide +kernel
theorem d_TP_hash_39 : decode b_TP_hash 39 = .ok (.iconst 4, 1) := by decide +kernel
theorem d_TP_hash_40 : decode b_TP_hash 40 = .ok (.invokevirtual 116, 3) := by decide +kernel
theorem d_TP_hash_43 : decode b_TP_hash 43 = .ok (.lreturn, 1) := by decide +kernel
theorem d_TP_hash_44 : decode b_TP_hash 44 = .ok (.aload_n 0, 1) := by decide +kernel
theorem d_TP_hash_45 : decode b_TP_hash 45 = .ok (.getfield 25, 3) := by decide +kernel
theorem d_TP_hash_48 : decode b_TP_hash 48 = .ok (.iconst 2, 1) := by decide +kernel
theorem d_TP_hash_49 : decode b_TP_hash 49 = .ok (.iload_n 1, 1) := by decide +kernel
theorem d_TP_hash_50 : decode b_TP_hash 50 = .ok (.imul, 1) := by decide +kernel
theorem d_TP_hash_51 : decode b_TP_hash 51 = .ok (.invokevirtual 116, 3) := by decide +kernel
theorem d_TP_hash_54 : decode b_TP_hash 54 = .ok (.bipush 32, 2) := by decide +kernel
theorem d_TP_hash_56 : decode b_TP_hash 56 = .ok (.lshl, 1) := by decide +kernel
theorem d_TP_hash_57 : decode b_TP_hash 57 = .ok (.aload_n 0, 1) := by decide +kernel
theorem d_TP_hash_58 : decode b_TP_hash 58 = .ok (.getfield 25, 3) := by decide +kernel
theorem d_TP_hash_61 : decode b_TP_hash 61 = .ok (.iconst 2, 1) := by decide +kernel
theorem d_TP_hash_62 : decode b_TP_hash 62 = .ok (.iload_n 1, 1) := by decide +kernel
theorem d_TP_hash_63 : decode b_TP_hash 63 = .ok (.imul, 1) := by decide +kernel
theorem d_TP_hash_64 : decode b_TP_hash 64 = .ok (.iconst 1, 1) := by decide +kernel
theorem d_TP_hash_65 : decode b_TP_hash 65 = .ok (.iadd, 1) := by decide +kernel
theorem d_TP_hash_66 : decode b_TP_hash 66 = .ok (.invokevirtual 116, 3) := by decide +kernel
theorem d_TP_hash_69 : decode b_TP_hash 69 = .ok (.lor, 1) := by decide +kernel
theorem d_TP_hash_70 : decode b_TP_hash 70 = .ok (.lreturn, 1) := by decide +kernel
theorem d_TP_letter_0 : decode b_TP_letter 0 = .ok (.aload_n 0, 1) := by decide +kernel
theorem d_TP_letter_1 : decode b_TP_letter 1 = .ok (.getfield 16, 3) := by decide +kernel
theorem d_TP_letter_4 : decode b_TP_letter 4 = .ok (.iload_n 1, 1) := by decide +kernel
theorem d_TP_letter_5 : decode b_TP_letter 5 = .ok (.invokevirtual 67, 3) := by decide +kernel
theorem d_TP_letter_8 : decode b_TP_letter 8 = .ok (.ifCond .ne 13, 3) := by decide +kernel
theorem d_TP_letter_11 : decode b_TP_letter 11 = .ok (.new 120, 3) := by decide +kernel
theorem d_TP_letter_14 : decode b_TP_letter 14 = .ok (.dup, 1) := by decide +kernel
theorem d_TP_letter_15 : decode b_TP_letter 15 = .ok (.ldc 122, 2) := by decide +kernel
theorem d_TP_letter_17 : decode b_TP_letter 17 = .ok (.invokespecial 124, 3) := by decide +kernel
theorem d_TP_letter_20 : decode b_TP_letter 20 = .ok (.athrow, 1) := by decide +kernel
theorem d_TP_letter_21 : decode b_TP_letter 21 = .ok (.aload_n 0, 1) := by decide +kernel
theorem d_TP_letter_22 : decode b_TP_letter 22 = .ok (.getfield 16, 3) := by decide +kernel
theorem d_TP_letter_25 : decode b_TP_letter 25 = .ok (.iload_n 1, 1) := by decide +kernel
theorem d_TP_letter_26 : decode b_TP_letter 26 = .ok (.invokevirtual 73, 3) := by decide +kernel
theorem d_TP_letter_29 : decode b_TP_letter 29 = .ok (.ireturn, 1) := by decide +kernel
theorem d_TP_count_0 : decode b_TP_count 0 = .ok (.iload_n 1, 1) := by decide +kernel
theorem d_TP_count_1 : decode b_TP_count 1 = .ok (.tableswitch 90 0 6 #[43, 51, 59, 67, 75, 80, 85], 43) := by decide +kernel
theorem d_TP_count_44 : decode b_TP_count 44 = .ok (.aload_n 0, 1) := by decide +kernel
theorem d_TP_count_45 : decode b_TP_count 45 = .ok (.getfield 12, 3) := by decide +kernel
theorem d_TP_count_48 : decode b_TP_count 48 = .ok (.invokevirtual 43, 3) := by decide +kernel
theorem d_TP_count_51 : decode b_TP_count 51 = .ok (.ireturn, 1) := by decide +kernel
theorem d_TP_count_52 : decode b_TP_count 52 = .ok (.aload_n 0, 1) := by decide +kernel
theorem d_TP_count_53 : decode b_TP_count 53 = .ok (.getfield 16, 3) := by decide +kernel
theorem d_TP_count_56 : decode b_TP_count 56 = .ok (.invokevirtual 43, 3) := by decide +kernel
theorem d_TP_count_59 : decode b_TP_count 59 = .ok (.ireturn, 1) := by decide +kernel
theorem d_TP_count_60 : decode b_TP_count 60 = .ok (.aload_n 0, 1) := by decide +kernel
theorem d_TP_count_61 : decode b_TP_count 61 = .ok (.getfield 32, 3) := by decide +kernel
theorem d_TP_count_64 : decode b_TP_count 64 = .ok (.invokevirtual 125, 3) := by decide +kernel
theorem d_TP_count_67 : decode b_TP_count 67 = .ok (.ireturn, 1) := by decide +kernel
theorem d_TP_count_68 : decode b_TP_count 68 = .ok (.aload_n 0, 1) := by decide +kernel
theorem d_TP_count_69 : decode b_TP_count 69 = .ok (.getfield 32, 3) := by decide +kernel
theorem d_TP_count_72 : decode b_TP_count 72 = .ok (.invokevirtual 128, 3) := by decide +kernel
theorem d_TP_count_75 : decode b_TP_count 75 = .ok (.ireturn, 1) := by decide +kernel
theorem d_TP_count_76 : decode b_TP_count 76 = .ok (.aload_n 0, 1) := by decide +kernel
theorem d_TP_count_77 : decode b_TP_count 77 = .ok (.getfield 101, 3) := by decide +kernel
theorem d_TP_count_80 : decode b_TP_count 80 = .ok (.ireturn, 1) := by decide +kernel
theorem d_TP_count_81 : decode b_TP_count 81 = .ok (.aload_n 0, 1) := by decide +kernel
theorem d_TP_count_82 : decode b_TP_count 82 = .ok (.getfield 106, 3) := by decide +kernel
theorem d_TP_count_85 : decode b_TP_count 85 = .ok (.ireturn, 1) := by decide +kernel
theorem d_TP_count_86 : decode b_TP_count 86 = .ok (.aload_n 0, 1) := by decide +kernel
theorem d_TP_count_87 : decode b_TP_count 87 = .ok (.getfield 89, 3) := by decide +kernel
theorem d_TP_count_90 : decode b_TP_count 90 = .ok (.ireturn, 1) := by decide +kernel
theorem d_TP_count_91 : decode b_TP_count 91 = .ok (.iconst (-1), 1) := by decide +kernel
theorem d_TP_count_92 : decode b_TP_count 92 = .ok (.ireturn, 1) := by decide +kernel
theorem d_Row_init_0 : decode b_Row_init 0 = .ok (.aload_n 0, 1) := by decide +kernel
theorem d_Row_init_1 : decode b_Row_init 1 = .ok (.invokespecial 3, 3) := by decide +kernel
theorem d_Row_init_4 : decode b_Row_init 4 = .ok (.aload_n 0, 1) := by decide +kernel
theorem d_Row_init_5 : decode b_Row_init 5 = .ok (.bipush 64, 2) := by decide +kernel
theorem d_Row_init_7 : decode b_Row_init 7 = .ok (.newarray .byte, 2) := by decide +kernel
theorem d_Row_init_9 : decode b_Row_init 9 = .ok (.putfield 9, 3) := by decide +kernel
theorem d_Row_init_12 : decode b_Row_init 12 = .ok (.aload_n 0, 1) := by decide +kernel
theorem d_Row_init_13 : decode b_Row_init 13 = .ok (.iconst 0, 1) := by decide +kernel
theorem d_Row_init_14 : decode b_Row_init 14 = .ok (.putfield 15, 3) := by decide +kernel
theorem d_Row_init_17 : decode b_Row_init 17 = .ok (.return_, 1) := by decide +kernel
theorem d_Row_length_0 : decode b_Row_length 0 = .ok (.aload_n 0, 1) := by decide +kernel
theorem d_Row_length_1 : decode b_Row_length 1 = .ok (.getfield 15, 3) := by decide +kernel
theorem d_Row_length_4 : decode b_Row_length 4 = .ok (.ireturn, 1) := by decide +kernel
theorem d_Row_bytes_0 : decode b_Row_bytes 0 = .ok (.aload_n 0, 1) := by decide +kernel
theorem d_Row_bytes_1 : decode b_Row_bytes 1 = .ok (.getfield 9, 3) := by decide +kernel
theorem d_Row_bytes_4 : decode b_Row_bytes 4 = .ok (.areturn, 1) := by decide +kernel
theorem d_Row_has_0 : decode b_Row_has 0 = .ok (.iload_n 1, 1) := by decide +kernel
theorem d_Row_has_1 : decode b_Row_has 1 = .ok (.ifCond .lt 15, 3) := by decide +kernel
theorem d_Row_has_4 : decode b_Row_has 4 = .ok (.iload_n 1, 1) := by decide +kernel
theorem d_Row_has_5 : decode b_Row_has 5 = .ok (.aload_n 0, 1) := by decide +kernel
theorem d_Row_has_6 : decode b_Row_has 6 = .ok (.getfield 15, 3) := by decide +kernel
theorem d_Row_has_9 : decode b_Row_has 9 = .ok (.if_icmp .ge 7, 3) := by decide +kernel
theorem d_Row_has_12 : decode b_Row_has 12 = .ok (.iconst 1, 1) := by decide +kernel
theorem d_Row_has_13 : decode b_Row_has 13 = .ok (.goto 4, 3) := by decide +kernel
theorem d_Row_has_16 : decode b_Row_has 16 = .ok (.iconst 0, 1) := by decide +kernel
theorem d_Row_has_17 : decode b_Row_has 17 = .ok (.ireturn, 1) := by decide +kernel
theorem d_Row_at_0 : decode b_Row_at 0 = .ok (.aload_n 0, 1) := by decide +kernel
theorem d_Row_at_1 : decode b_Row_at 1 = .ok (.iload_n 1, 1) := by decide +kernel
theorem d_Row_at_2 : decode b_Row_at 2 = .ok (.invokevirtual 19, 3) := by decide +kernel
theorem d_Row_at_5 : decode b_Row_at 5 = .ok (.ifCond .eq 16, 3) := by decide +kernel
theorem d_Row_at_8 : decode b_Row_at 8 = .ok (.aload_n 0, 1) := by decide +kernel
theorem d_Row_at_9 : decode b_Row_at 9 = .ok (.getfield 9, 3) := by decide +kernel
theorem d_Row_at_12 : decode b_Row_at 12 = .ok (.iload_n 1, 1) := by decide +kernel
theorem d_Row_at_13 : decode b_Row_at 13 = .ok (.baload, 1) := by decide +kernel
theorem d_Row_at_14 : decode b_Row_at 14 = .ok (.sipush 255, 3) := by decide +kernel
theorem d_Row_at_17 : decode b_Row_at 17 = .ok (.iand, 1) := by decide +kernel
theorem d_Row_at_18 : decode b_Row_at 18 = .ok (.goto 4, 3) := by decide +kernel
theorem d_Row_at_21 : decode b_Row_at 21 = .ok (.iconst 0, 1) := by decide +kernel
theorem d_Row_at_22 : decode b_Row_at 22 = .ok (.ireturn, 1) := by decide +kernel
theorem d_Row_put_0 : decode b_Row_put 0 = .ok (.aload_n 0, 1) := by decide +kernel
theorem d_Row_put_1 : decode b_Row_put 1 = .ok (.iload_n 1, 1) := by decide +kernel
theorem d_Row_put_2 : decode b_Row_put 2 = .ok (.invokevirtual 19, 3) := by decide +kernel
theorem d_Row_put_5 : decode b_Row_put 5 = .ok (.ifCond .eq 11, 3) := by decide +kernel
theorem d_Row_put_8 : decode b_Row_put 8 = .ok (.aload_n 0, 1) := by decide +kernel
theorem d_Row_put_9 : decode b_Row_put 9 = .ok (.getfield 9, 3) := by decide +kernel
theorem d_Row_put_12 : decode b_Row_put 12 = .ok (.iload_n 1, 1) := by decide +kernel
theorem d_Row_put_13 : decode b_Row_put 13 = .ok (.iload_n 2, 1) := by decide +kernel
theorem d_Row_put_14 : decode b_Row_put 14 = .ok (.i2b, 1) := by decide +kernel
theorem d_Row_put_15 : decode b_Row_put 15 = .ok (.bastore, 1) := by decide +kernel
theorem d_Row_put_16 : decode b_Row_put 16 = .ok (.return_, 1) := by decide +kernel
theorem d_Row_add_0 : decode b_Row_add 0 = .ok (.aload_n 0, 1) := by decide +kernel
theorem d_Row_add_1 : decode b_Row_add 1 = .ok (.aload_n 0, 1) := by decide +kernel
theorem d_Row_add_2 : decode b_Row_add 2 = .ok (.getfield 15, 3) := by decide +kernel
theorem d_Row_add_5 : decode b_Row_add 5 = .ok (.iconst 1, 1) := by decide +kernel
theorem d_Row_add_6 : decode b_Row_add 6 = .ok (.iadd, 1) := by decide +kernel
theorem d_Row_add_7 : decode b_Row_add 7 = .ok (.invokevirtual 23, 3) := by decide +kernel
theorem d_Row_add_10 : decode b_Row_add 10 = .ok (.aload_n 0, 1) := by decide +kernel
theorem d_Row_add_11 : decode b_Row_add 11 = .ok (.getfield 9, 3) := by decide +kernel
theorem d_Row_add_14 : decode b_Row_add 14 = .ok (.aload_n 0, 1) := by decide +kernel
theorem d_Row_add_15 : decode b_Row_add 15 = .ok (.getfield 15, 3) := by decide +kernel
theorem d_Row_add_18 : decode b_Row_add 18 = .ok (.iload_n 1, 1) := by decide +kernel
theorem d_Row_add_19 : decode b_Row_add 19 = .ok (.i2b, 1) := by decide +kernel
theorem d_Row_add_20 : decode b_Row_add 20 = .ok (.bastore, 1) := by decide +kernel
theorem d_Row_add_21 : decode b_Row_add 21 = .ok (.aload_n 0, 1) := by decide +kernel
theorem d_Row_add_22 : decode b_Row_add 22 = .ok (.dup, 1) := by decide +kernel
theorem d_Row_add_23 : decode b_Row_add 23 = .ok (.getfield 15, 3) := by decide +kernel
theorem d_Row_add_26 : decode b_Row_add 26 = .ok (.iconst 1, 1) := by decide +kernel
theorem d_Row_add_27 : decode b_Row_add 27 = .ok (.iadd, 1) := by decide +kernel
theorem d_Row_add_28 : decode b_Row_add 28 = .ok (.putfield 15, 3) := by decide +kernel
theorem d_Row_add_31 : decode b_Row_add 31 = .ok (.return_, 1) := by decide +kernel
theorem d_Row_addNumber_0 : decode b_Row_addNumber 0 = .ok (.aload_n 0, 1) := by decide +kernel
theorem d_Row_addNumber_1 : decode b_Row_addNumber 1 = .ok (.iload_n 1, 1) := by decide +kernel
theorem d_Row_addNumber_2 : decode b_Row_addNumber 2 = .ok (.bipush 24, 2) := by decide +kernel
theorem d_Row_addNumber_4 : decode b_Row_addNumber 4 = .ok (.iushr, 1) := by decide +kernel
theorem d_Row_addNumber_5 : decode b_Row_addNumber 5 = .ok (.invokevirtual 27, 3) := by decide +kernel
theorem d_Row_addNumber_8 : decode b_Row_addNumber 8 = .ok (.aload_n 0, 1) := by decide +kernel
theorem d_Row_addNumber_9 : decode b_Row_addNumber 9 = .ok (.iload_n 1, 1) := by decide +kernel
theorem d_Row_addNumber_10 : decode b_Row_addNumber 10 = .ok (.bipush 16, 2) := by decide +kernel
theorem d_Row_addNumber_12 : decode b_Row_addNumber 12 = .ok (.iushr, 1) := by decide +kernel
theorem d_Row_addNumber_13 : decode b_Row_addNumber 13 = .ok (.invokevirtual 27, 3) := by decide +kernel
theorem d_Row_addNumber_16 : decode b_Row_addNumber 16 = .ok (.aload_n 0, 1) := by decide +kernel
theorem d_Row_addNumber_17 : decode b_Row_addNumber 17 = .ok (.iload_n 1, 1) := by decide +kernel
theorem d_Row_addNumber_18 : decode b_Row_addNumber 18 = .ok (.bipush 8, 2) := by decide +kernel
theorem d_Row_addNumber_20 : decode b_Row_addNumber 20 = .ok (.iushr, 1) := by decide +kernel
theorem d_Row_addNumber_21 : decode b_Row_addNumber 21 = .ok (.invokevirtual 27, 3) := by decide +kernel
theorem d_Row_addNumber_24 : decode b_Row_addNumber 24 = .ok (.aload_n 0, 1) := by decide +kernel
theorem d_Row_addNumber_25 : decode b_Row_addNumber 25 = .ok (.iload_n 1, 1) := by decide +kernel
theorem d_Row_addNumber_26 : decode b_Row_addNumber 26 = .ok (.invokevirtual 27, 3) := by decide +kernel
theorem d_Row_addNumber_29 : decode b_Row_addNumber 29 = .ok (.return_, 1) := by decide +kernel
theorem d_Row_shorten_0 : decode b_Row_shorten 0 = .ok (.iload_n 1, 1) := by decide +kernel
theorem d_Row_shorten_1 : decode b_Row_shorten 1 = .ok (.ifCond .lt 16, 3) := by decide +kernel
theorem d_Row_shorten_4 : decode b_Row_shorten 4 = .ok (.iload_n 1, 1) := by decide +kernel
theorem d_Row_shorten_5 : decode b_Row_shorten 5 = .ok (.aload_n 0, 1) := by decide +kernel
theorem d_Row_shorten_6 : decode b_Row_shorten 6 = .ok (.getfield 15, 3) := by decide +kernel
theorem d_Row_shorten_9 : decode b_Row_shorten 9 = .ok (.if_icmp .gt 8, 3) := by decide +kernel
theorem d_Row_shorten_12 : decode b_Row_shorten 12 = .ok (.aload_n 0, 1) := by decide +kernel
theorem d_Row_shorten_13 : decode b_Row_shorten 13 = .ok (.iload_n 1, 1) := by decide +kernel
theorem d_Row_shorten_14 : decode b_Row_shorten 14 = .ok (.putfield 15, 3) := by decide +kernel
theorem d_Row_shorten_17 : decode b_Row_shorten 17 = .ok (.return_, 1) := by decide +kernel
theorem d_Row_copyFrom_0 : decode b_Row_copyFrom 0 = .ok (.aload_n 0, 1) := by decide +kernel
theorem d_Row_copyFrom_1 : decode b_Row_copyFrom 1 = .ok (.aload_n 1, 1) := by decide +kernel
theorem d_Row_copyFrom_2 : decode b_Row_copyFrom 2 = .ok (.getfield 15, 3) := by decide +kernel
theorem d_Row_copyFrom_5 : decode b_Row_copyFrom 5 = .ok (.invokevirtual 23, 3) := by decide +kernel
theorem d_Row_copyFrom_8 : decode b_Row_copyFrom 8 = .ok (.aload_n 1, 1) := by decide +kernel
theorem d_Row_copyFrom_9 : decode b_Row_copyFrom 9 = .ok (.getfield 9, 3) := by decide +kernel
theorem d_Row_copyFrom_12 : decode b_Row_copyFrom 12 = .ok (.iconst 0, 1) := by decide +kernel
theorem d_Row_copyFrom_13 : decode b_Row_copyFrom 13 = .ok (.aload_n 0, 1) := by decide +kernel
theorem d_Row_copyFrom_14 : decode b_Row_copyFrom 14 = .ok (.getfield 9, 3) := by decide +kernel
theorem d_Row_copyFrom_17 : decode b_Row_copyFrom 17 = .ok (.iconst 0, 1) := by decide +kernel
theorem d_Row_copyFrom_18 : decode b_Row_copyFrom 18 = .ok (.aload_n 1, 1) := by decide +kernel
theorem d_Row_copyFrom_19 : decode b_Row_copyFrom 19 = .ok (.getfield 15, 3) := by decide +kernel
theorem d_Row_copyFrom_22 : decode b_Row_copyFrom 22 = .ok (.invokestatic 30, 3) := by decide +kernel
theorem d_Row_copyFrom_25 : decode b_Row_copyFrom 25 = .ok (.aload_n 0, 1) := by decide +kernel
theorem d_Row_copyFrom_26 : decode b_Row_copyFrom 26 = .ok (.aload_n 1, 1) := by decide +kernel
theorem d_Row_copyFrom_27 : decode b_Row_copyFrom 27 = .ok (.getfield 15, 3) := by decide +kernel
theorem d_Row_copyFrom_30 : decode b_Row_copyFrom 30 = .ok (.putfield 15, 3) := by decide +kernel
theorem d_Row_copyFrom_33 : decode b_Row_copyFrom 33 = .ok (.return_, 1) := by decide +kernel
theorem d_Row_adler32_0 : decode b_Row_adler32 0 = .ok (.iconst 1, 1) := by decide +kernel
theorem d_Row_adler32_1 : decode b_Row_adler32 1 = .ok (.istore_n 1, 1) := by decide +kernel
theorem d_Row_adler32_2 : decode b_Row_adler32 2 = .ok (.iconst 0, 1) := by decide +kernel
theorem d_Row_adler32_3 : decode b_Row_adler32 3 = .ok (.istore_n 2, 1) := by decide +kernel
theorem d_Row_adler32_4 : decode b_Row_adler32 4 = .ok (.iconst 0, 1) := by decide +kernel
theorem d_Row_adler32_5 : decode b_Row_adler32 5 = .ok (.istore_n 3, 1) := by decide +kernel
theorem d_Row_adler32_6 : decode b_Row_adler32 6 = .ok (.iload_n 3, 1) := by decide +kernel
theorem d_Row_adler32_7 : decode b_Row_adler32 7 = .ok (.aload_n 0, 1) := by decide +kernel
theorem d_Row_adler32_8 : decode b_Row_adler32 8 = .ok (.getfield 15, 3) := by decide +kernel
theorem d_Row_adler32_11 : decode b_Row_adler32 11 = .ok (.if_icmp .ge 32, 3) := by decide +kernel
theorem d_Row_adler32_14 : decode b_Row_adler32 14 = .ok (.iload_n 1, 1) := by decide +kernel
theorem d_Row_adler32_15 : decode b_Row_adler32 15 = .ok (.aload_n 0, 1) := by decide +kernel
theorem d_Row_adler32_16 : decode b_Row_adler32 16 = .ok (.getfield 9, 3) := by decide +kernel
theorem d_Row_adler32_19 : decode b_Row_adler32 19 = .ok (.iload_n 3, 1) := by decide +kernel
theorem d_Row_adler32_20 : decode b_Row_adler32 20 = .ok (.baload, 1) := by decide +kernel
theorem d_Row_adler32_21 : decode b_Row_adler32 21 = .ok (.sipush 255, 3) := by decide +kernel
theorem d_Row_adler32_24 : decode b_Row_adler32 24 = .ok (.iand, 1) := by decide +kernel
theorem d_Row_adler32_25 : decode b_Row_adler32 25 = .ok (.iadd, 1) := by decide +kernel
theorem d_Row_adler32_26 : decode b_Row_adler32 26 = .ok (.ldc 36, 2) := by decide +kernel
theorem d_Row_adler32_28 : decode b_Row_adler32 28 = .ok (.irem, 1) := by decide +kernel
theorem d_Row_adler32_29 : decode b_Row_adler32 29 = .ok (.istore_n 1, 1) := by decide +kernel
theorem d_Row_adler32_30 : decode b_Row_adler32 30 = .ok (.iload_n 2, 1) := by decide +kernel
theorem d_Row_adler32_31 : decode b_Row_adler32 31 = .ok (.iload_n 1, 1) := by decide +kernel
theorem d_Row_adler32_32 : decode b_Row_adler32 32 = .ok (.iadd, 1) := by decide +kernel
theorem d_Row_adler32_33 : decode b_Row_adler32 33 = .ok (.ldc 36, 2) := by decide +kernel
theorem d_Row_adler32_35 : decode b_Row_adler32 35 = .ok (.irem, 1) := by decide +kernel
theorem d_Row_adler32_36 : decode b_Row_adler32 36 = .ok (.istore_n 2, 1) := by decide +kernel
theorem d_Row_adler32_37 : decode b_Row_adler32 37 = .ok (.iinc 3 1, 3) := by decide +kernel
theorem d_Row_adler32_40 : decode b_Row_adler32 40 = .ok (.goto (-34), 3) := by decide +kernel
theorem d_Row_adler32_43 : decode b_Row_adler32 43 = .ok (.iload_n 2, 1) := by decide +kernel
theorem d_Row_adler32_44 : decode b_Row_adler32 44 = .ok (.bipush 16, 2) := by decide +kernel
theorem d_Row_adler32_46 : decode b_Row_adler32 46 = .ok (.ishl, 1) := by decide +kernel
theorem d_Row_adler32_47 : decode b_Row_adler32 47 = .ok (.iload_n 1, 1) := by decide +kernel
theorem d_Row_adler32_48 : decode b_Row_adler32 48 = .ok (.ior, 1) := by decide +kernel
theorem d_Row_adler32_49 : decode b_Row_adler32 49 = .ok (.ireturn, 1) := by decide +kernel
theorem d_Row_makeRoom_0 : decode b_Row_makeRoom 0 = .ok (.iload_n 1, 1) := by decide +kernel
theorem d_Row_makeRoom_1 : decode b_Row_makeRoom 1 = .ok (.aload_n 0, 1) := by decide +kernel
theorem d_Row_makeRoom_2 : decode b_Row_makeRoom 2 = .ok (.getfield 9, 3) := by decide +kernel
theorem d_Row_makeRoom_5 : decode b_Row_makeRoom 5 = .ok (.arraylength, 1) := by decide +kernel
theorem d_Row_makeRoom_6 : decode b_Row_makeRoom 6 = .ok (.if_icmp .le 32, 3) := by decide +kernel
theorem d_Row_makeRoom_9 : decode b_Row_makeRoom 9 = .ok (.iconst 4, 1) := by decide +kernel
theorem d_Row_makeRoom_10 : decode b_Row_makeRoom 10 = .ok (.aload_n 0, 1) := by decide +kernel
theorem d_Row_makeRoom_11 : decode b_Row_makeRoom 11 = .ok (.getfield 9, 3) := by decide +kernel
theorem d_Row_makeRoom_14 : decode b_Row_makeRoom 14 = .ok (.arraylength, 1) := by decide +kernel
theorem d_Row_makeRoom_15 : decode b_Row_makeRoom 15 = .ok (.imul, 1) := by decide +kernel
theorem d_Row_makeRoom_16 : decode b_Row_makeRoom 16 = .ok (.ldc 37, 2) := by decide +kernel
theorem d_Row_makeRoom_18 : decode b_Row_makeRoom 18 = .ok (.invokestatic 38, 3) := by decide +kernel
theorem d_Row_makeRoom_21 : decode b_Row_makeRoom 21 = .ok (.istore_n 2, 1) := by decide +kernel
theorem d_Row_makeRoom_22 : decode b_Row_makeRoom 22 = .ok (.aload_n 0, 1) := by decide +kernel
theorem d_Row_makeRoom_23 : decode b_Row_makeRoom 23 = .ok (.aload_n 0, 1) := by decide +kernel
theorem d_Row_makeRoom_24 : decode b_Row_makeRoom 24 = .ok (.getfield 9, 3) := by decide +kernel
theorem d_Row_makeRoom_27 : decode b_Row_makeRoom 27 = .ok (.iload_n 1, 1) := by decide +kernel
theorem d_Row_makeRoom_28 : decode b_Row_makeRoom 28 = .ok (.iload_n 2, 1) := by decide +kernel
theorem d_Row_makeRoom_29 : decode b_Row_makeRoom 29 = .ok (.invokestatic 44, 3) := by decide +kernel
theorem d_Row_makeRoom_32 : decode b_Row_makeRoom 32 = .ok (.invokestatic 47, 3) := by decide +kernel
theorem d_Row_makeRoom_35 : decode b_Row_makeRoom 35 = .ok (.putfield 9, 3) := by decide +kernel
theorem d_Row_makeRoom_38 : decode b_Row_makeRoom 38 = .ok (.return_, 1) := by decide +kernel
theorem d_Sha_init_0 : decode b_Sha_init 0 = .ok (.aload_n 0, 1) := by decide +kernel
theorem d_Sha_init_1 : decode b_Sha_init 1 = .ok (.invokespecial 1, 3) := by decide +kernel
theorem d_Sha_init_4 : decode b_Sha_init 4 = .ok (.aload_n 0, 1) := by decide +kernel
theorem d_Sha_init_5 : decode b_Sha_init 5 = .ok (.bipush 80, 2) := by decide +kernel
theorem d_Sha_init_7 : decode b_Sha_init 7 = .ok (.newarray .int, 2) := by decide +kernel
theorem d_Sha_init_9 : decode b_Sha_init 9 = .ok (.putfield 7, 3) := by decide +kernel
theorem d_Sha_init_12 : decode b_Sha_init 12 = .ok (.aload_n 0, 1) := by decide +kernel
theorem d_Sha_init_13 : decode b_Sha_init 13 = .ok (.iconst 5, 1) := by decide +kernel
theorem d_Sha_init_14 : decode b_Sha_init 14 = .ok (.newarray .int, 2) := by decide +kernel
theorem d_Sha_init_16 : decode b_Sha_init 16 = .ok (.putfield 13, 3) := by decide +kernel
theorem d_Sha_init_19 : decode b_Sha_init 19 = .ok (.return_, 1) := by decide +kernel
theorem d_Sha_run_0 : decode b_Sha_run 0 = .ok (.aload_n 0, 1) := by decide +kernel
theorem d_Sha_run_1 : decode b_Sha_run 1 = .ok (.getfield 13, 3) := by decide +kernel
theorem d_Sha_run_4 : decode b_Sha_run 4 = .ok (.iconst 0, 1) := by decide +kernel
theorem d_Sha_run_5 : decode b_Sha_run 5 = .ok (.ldc 16, 2) := by decide +kernel
theorem d_Sha_run_7 : decode b_Sha_run 7 = .ok (.iastore, 1) := by decide +kernel
theorem d_Sha_run_8 : decode b_Sha_run 8 = .ok (.aload_n 0, 1) := by decide +kernel
theorem d_Sha_run_9 : decode b_Sha_run 9 = .ok (.getfield 13, 3) := by decide +kernel
theorem d_Sha_run_12 : decode b_Sha_run 12 = .ok (.iconst 1, 1) := by decide +kernel
theorem d_Sha_run_13 : decode b_Sha_run 13 = .ok (.ldc 17, 2) := by decide +kernel
theorem d_Sha_run_15 : decode b_Sha_run 15 = .ok (.iastore, 1) := by decide +kernel
theorem d_Sha_run_16 : decode b_Sha_run 16 = .ok (.aload_n 0, 1) := by decide +kernel
theorem d_Sha_run_17 : decode b_Sha_run 17 = .ok (.getfield 13, 3) := by decide +kernel
theorem d_Sha_run_20 : decode b_Sha_run 20 = .ok (.iconst 2, 1) := by decide +kernel
theorem d_Sha_run_21 : decode b_Sha_run 21 = .ok (.ldc 18, 2) := by decide +kernel
theorem d_Sha_run_23 : decode b_Sha_run 23 = .ok (.iastore, 1) := by decide +kernel
theorem d_Sha_run_24 : decode b_Sha_run 24 = .ok (.aload_n 0, 1) := by decide +kernel
theorem d_Sha_run_25 : decode b_Sha_run 25 = .ok (.getfield 13, 3) := by decide +kernel
theorem d_Sha_run_28 : decode b_Sha_run 28 = .ok (.iconst 3, 1) := by decide +kernel
theorem d_Sha_run_29 : decode b_Sha_run 29 = .ok (.ldc 19, 2) := by decide +kernel
theorem d_Sha_run_31 : decode b_Sha_run 31 = .ok (.iastore, 1) := by decide +kernel
theorem d_Sha_run_32 : decode b_Sha_run 32 = .ok (.aload_n 0, 1) := by decide +kernel
theorem d_Sha_run_33 : decode b_Sha_run 33 = .ok (.getfield 13, 3) := by decide +kernel
theorem d_Sha_run_36 : decode b_Sha_run 36 = .ok (.iconst 4, 1) := by decide +kernel
theorem d_Sha_run_37 : decode b_Sha_run 37 = .ok (.ldc 20, 2) := by decide +kernel
theorem d_Sha_run_39 : decode b_Sha_run 39 = .ok (.iastore, 1) := by decide +kernel
theorem d_Sha_run_40 : decode b_Sha_run 40 = .ok (.aload_n 1, 1) := by decide +kernel
theorem d_Sha_run_41 : decode b_Sha_run 41 = .ok (.invokevirtual 21, 3) := by decide +kernel
theorem d_Sha_run_44 : decode b_Sha_run 44 = .ok (.bipush 8, 2) := by decide +kernel
theorem d_Sha_run_46 : decode b_Sha_run 46 = .ok (.iadd, 1) := by decide +kernel
theorem d_Sha_run_47 : decode b_Sha_run 47 = .ok (.bipush 64, 2) := by decide +kernel
theorem d_Sha_run_49 : decode b_Sha_run 49 = .ok (.idiv, 1) := by decide +kernel
theorem d_Sha_run_50 : decode b_Sha_run 50 = .ok (.iconst 1, 1) := by decide +kernel
theorem d_Sha_run_51 : decode b_Sha_run 51 = .ok (.iadd, 1) := by decide +kernel
theorem d_Sha_run_52 : decode b_Sha_run 52 = .ok (.bipush 64, 2) := by decide +kernel
theorem d_Sha_run_54 : decode b_Sha_run 54 = .ok (.imul, 1) := by decide +kernel
theorem d_Sha_run_55 : decode b_Sha_run 55 = .ok (.istore_n 2, 1) := by decide +kernel
theorem d_Sha_run_56 : decode b_Sha_run 56 = .ok (.iconst 0, 1) := by decide +kernel
theorem d_Sha_run_57 : decode b_Sha_run 57 = .ok (.istore_n 3, 1) := by decide +kernel
theorem d_Sha_run_58 : decode b_Sha_run 58 = .ok (.iload_n 3, 1) := by decide +kernel
theorem d_Sha_run_59 : decode b_Sha_run 59 = .ok (.iload_n 2, 1) := by decide +kernel
theorem d_Sha_run_60 : decode b_Sha_run 60 = .ok (.if_icmp .ge 20, 3) := by decide +kernel
theorem d_Sha_run_63 : decode b_Sha_run 63 = .ok (.aload_n 0, 1) := by decide +kernel
theorem d_Sha_run_64 : decode b_Sha_run 64 = .ok (.aload_n 1, 1) := by decide +kernel
theorem d_Sha_run_65 : decode b_Sha_run 65 = .ok (.iload_n 3, 1) := by decide +kernel
theorem d_Sha_run_66 : decode b_Sha_run 66 = .ok (.iload_n 2, 1) := by decide +kernel
theorem d_Sha_run_67 : decode b_Sha_run 67 = .ok (.invokevirtual 27, 3) := by decide +kernel
theorem d_Sha_run_70 : decode b_Sha_run 70 = .ok (.aload_n 0, 1) := by decide +kernel
theorem d_Sha_run_71 : decode b_Sha_run 71 = .ok (.invokevirtual 31, 3) := by decide +kernel
theorem d_Sha_run_74 : decode b_Sha_run 74 = .ok (.iinc 3 64, 3) := by decide +kernel
theorem d_Sha_run_77 : decode b_Sha_run 77 = .ok (.goto (-19), 3) := by decide +kernel
theorem d_Sha_run_80 : decode b_Sha_run 80 = .ok (.return_, 1) := by decide +kernel
theorem d_Sha_word_0 : decode b_Sha_word 0 = .ok (.iload_n 1, 1) := by decide +kernel
theorem d_Sha_word_1 : decode b_Sha_word 1 = .ok (.ifCond .lt 26, 3) := by decide +kernel
theorem d_Sha_word_4 : decode b_Sha_word 4 = .ok (.iload_n 1, 1) := by decide +kernel
theorem d_Sha_word_5 : decode b_Sha_word 5 = .ok (.aload_n 0, 1) := by decide +kernel
theorem d_Sha_word_6 : decode b_Sha_word 6 = .ok (.getfield 13, 3) := by decide +kernel
theorem d_Sha_word_9 : decode b_Sha_word 9 = .ok (.arraylength, 1) := by decide +kernel
theorem d_Sha_word_10 : decode b_Sha_word 10 = .ok (.if_icmp .ge 17, 3) := by decide +kernel
theorem d_Sha_word_13 : decode b_Sha_word 13 = .ok (.aload_n 0, 1) := by decide +kernel
theorem d_Sha_word_14 : decode b_Sha_word 14 = .ok (.getfield 13, 3) := by decide +kernel
theorem d_Sha_word_17 : decode b_Sha_word 17 = .ok (.iload_n 1, 1) := by decide +kernel
theorem d_Sha_word_18 : decode b_Sha_word 18 = .ok (.iaload, 1) := by decide +kernel
theorem d_Sha_word_19 : decode b_Sha_word 19 = .ok (.i2l, 1) := by decide +kernel
theorem d_Sha_word_20 : decode b_Sha_word 20 = .ok (.ldc2_w 34, 3) := by decide +kernel
theorem d_Sha_word_23 : decode b_Sha_word 23 = .ok (.land, 1) := by decide +kernel
theorem d_Sha_word_24 : decode b_Sha_word 24 = .ok (.goto 4, 3) := by decide +kernel
theorem d_Sha_word_27 : decode b_Sha_word 27 = .ok (.lconst 0, 1) := by decide +kernel
theorem d_Sha_word_28 : decode b_Sha_word 28 = .ok (.lreturn, 1) := by decide +kernel
theorem d_Sha_fillWords_0 : decode b_Sha_fillWords 0 = .ok (.iconst 0, 1) := by decide +kernel
theorem d_Sha_fillWords_1 : decode b_Sha_fillWords 1 = .ok (.istore 4, 2) := by decide +kernel
theorem d_Sha_fillWords_3 : decode b_Sha_fillWords 3 = .ok (.iload 4, 2) := by decide +kernel
theorem d_Sha_fillWords_5 : decode b_Sha_fillWords 5 = .ok (.bipush 16, 2) := by decide +kernel
theorem d_Sha_fillWords_7 : decode b_Sha_fillWords 7 = .ok (.if_icmp .ge 58, 3) := by decide +kernel
theorem d_Sha_fillWords_10 : decode b_Sha_fillWords 10 = .ok (.iconst 0, 1) := by decide +kernel
theorem d_Sha_fillWords_11 : decode b_Sha_fillWords 11 = .ok (.istore 5, 2) := by decide +kernel
theorem d_Sha_fillWords_13 : decode b_Sha_fillWords 13 = .ok (.iconst 0, 1) := by decide +kernel
theorem d_Sha_fillWords_14 : decode b_Sha_fillWords 14 = .ok (.istore 6, 2) := by decide +kernel
theorem d_Sha_fillWords_16 : decode b_Sha_fillWords 16 = .ok (.iload 6, 2) := by decide +kernel
theorem d_Sha_fillWords_18 : decode b_Sha_fillWords 18 = .ok (.iconst 4, 1) := by decide +kernel
theorem d_Sha_fillWords_19 : decode b_Sha_fillWords 19 = .ok (.if_icmp .ge 31, 3) := by decide +kernel
theorem d_Sha_fillWords_22 : decode b_Sha_fillWords 22 = .ok (.iload 5, 2) := by decide +kernel
theorem d_Sha_fillWords_24 : decode b_Sha_fillWords 24 = .ok (.bipush 8, 2) := by decide +kernel
theorem d_Sha_fillWords_26 : decode b_Sha_fillWords 26 = .ok (.ishl, 1) := by decide +kernel
theorem d_Sha_fillWords_27 : decode b_Sha_fillWords 27 = .ok (.aload_n 1, 1) := by decide +kernel
theorem d_Sha_fillWords_28 : decode b_Sha_fillWords 28 = .ok (.iload_n 2, 1) := by decide +kernel
theorem d_Sha_fillWords_29 : decode b_Sha_fillWords 29 = .ok (.iconst 4, 1) := by decide +kernel
theorem d_Sha_fillWords_30 : decode b_Sha_fillWords 30 = .ok (.iload 4, 2) := by decide +kernel
theorem d_Sha_fillWords_32 : decode b_Sha_fillWords 32 = .ok (.imul, 1) := by decide +kernel
theorem d_Sha_fillWords_33 : decode b_Sha_fillWords 33 = .ok (.iadd, 1) := by decide +kernel
theorem d_Sha_fillWords_34 : decode b_Sha_fillWords 34 = .ok (.iload 6, 2) := by decide +kernel
theorem d_Sha_fillWords_36 : decode b_Sha_fillWords 36 = .ok (.iadd, 1) := by decide +kernel
theorem d_Sha_fillWords_37 : decode b_Sha_fillWords 37 = .ok (.iload_n 3, 1) := by decide +kernel
theorem d_Sha_fillWords_38 : decode b_Sha_fillWords 38 = .ok (.invokestatic 36, 3) := by decide +kernel
theorem d_Sha_fillWords_41 : decode b_Sha_fillWords 41 = .ok (.ior, 1) := by decide +kernel
theorem d_Sha_fillWords_42 : decode b_Sha_fillWords 42 = .ok (.istore 5, 2) := by decide +kernel
theorem d_Sha_fillWords_44 : decode b_Sha_fillWords 44 = .ok (.iinc 6 1, 3) := by decide +kernel
theorem d_Sha_fillWords_47 : decode b_Sha_fillWords 47 = .ok (.goto (-31), 3) := by decide +kernel
theorem d_Sha_fillWords_50 : decode b_Sha_fillWords 50 = .ok (.aload_n 0, 1) := by decide +kernel
theorem d_Sha_fillWords_51 : decode b_Sha_fillWords 51 = .ok (.getfield 7, 3) := by decide +kernel
theorem d_Sha_fillWords_54 : decode b_Sha_fillWords 54 = .ok (.iload 4, 2) := by decide +kernel
theorem d_Sha_fillWords_56 : decode b_Sha_fillWords 56 = .ok (.iload 5, 2) := by decide +kernel
theorem d_Sha_fillWords_58 : decode b_Sha_fillWords 58 = .ok (.iastore, 1) := by decide +kernel
theorem d_Sha_fillWords_59 : decode b_Sha_fillWords 59 = .ok (.iinc 4 1, 3) := by decide +kernel
theorem d_Sha_fillWords_62 : decode b_Sha_fillWords 62 = .ok (.goto (-59), 3) := by decide +kernel
theorem d_Sha_fillWords_65 : decode b_Sha_fillWords 65 = .ok (.bipush 16, 2) := by decide +kernel
theorem d_Sha_fillWords_67 : decode b_Sha_fillWords 67 = .ok (.istore 4, 2) := by decide +kernel
theorem d_Sha_fillWords_69 : decode b_Sha_fillWords 69 = .ok (.iload 4, 2) := by decide +kernel
theorem d_Sha_fillWords_71 : decode b_Sha_fillWords 71 = .ok (.aload_n 0, 1) := by decide +kernel
theorem d_Sha_fillWords_72 : decode b_Sha_fillWords 72 = .ok (.getfield 7, 3) := by decide +kernel
theorem d_Sha_fillWords_75 : decode b_Sha_fillWords 75 = .ok (.arraylength, 1) := by decide +kernel
theorem d_Sha_fillWords_76 : decode b_Sha_fillWords 76 = .ok (.if_icmp .ge 66, 3) := by decide +kernel
theorem d_Sha_fillWords_79 : decode b_Sha_fillWords 79 = .ok (.aload_n 0, 1) := by decide +kernel
theorem d_Sha_fillWords_80 : decode b_Sha_fillWords 80 = .ok (.getfield 7, 3) := by decide +kernel
theorem d_Sha_fillWords_83 : decode b_Sha_fillWords 83 = .ok (.iload 4, 2) := by decide +kernel
theorem d_Sha_fillWords_85 : decode b_Sha_fillWords 85 = .ok (.iconst 3, 1) := by decide +kernel
theorem d_Sha_fillWords_86 : decode b_Sha_fillWords 86 = .ok (.isub, 1) := by decide +kernel
theorem d_Sha_fillWords_87 : decode b_Sha_fillWords 87 = .ok (.iaload, 1) := by decide +kernel
theorem d_Sha_fillWords_88 : decode b_Sha_fillWords 88 = .ok (.aload_n 0, 1) := by decide +kernel
theorem d_Sha_fillWords_89 : decode b_Sha_fillWords 89 = .ok (.getfield 7, 3) := by decide +kernel
theorem d_Sha_fillWords_92 : decode b_Sha_fillWords 92 = .ok (.iload 4, 2) := by decide +kernel
theorem d_Sha_fillWords_94 : decode b_Sha_fillWords 94 = .ok (.bipush 8, 2) := by decide +kernel
theorem d_Sha_fillWords_96 : decode b_Sha_fillWords 96 = .ok (.isub, 1) := by decide +kernel
theorem d_Sha_fillWords_97 : decode b_Sha_fillWords 97 = .ok (.iaload, 1) := by decide +kernel
theorem d_Sha_fillWords_98 : decode b_Sha_fillWords 98 = .ok (.ixor, 1) := by decide +kernel
theorem d_Sha_fillWords_99 : decode b_Sha_fillWords 99 = .ok (.aload_n 0, 1) := by decide +kernel
theorem d_Sha_fillWords_100 : decode b_Sha_fillWords 100 = .ok (.getfield 7, 3) := by decide +kernel
theorem d_Sha_fillWords_103 : decode b_Sha_fillWords 103 = .ok (.iload 4, 2) := by decide +kernel
theorem d_Sha_fillWords_105 : decode b_Sha_fillWords 105 = .ok (.bipush 14, 2) := by decide +kernel
theorem d_Sha_fillWords_107 : decode b_Sha_fillWords 107 = .ok (.isub, 1) := by decide +kernel
theorem d_Sha_fillWords_108 : decode b_Sha_fillWords 108 = .ok (.iaload, 1) := by decide +kernel
theorem d_Sha_fillWords_109 : decode b_Sha_fillWords 109 = .ok (.ixor, 1) := by decide +kernel
theorem d_Sha_fillWords_110 : decode b_Sha_fillWords 110 = .ok (.aload_n 0, 1) := by decide +kernel
theorem d_Sha_fillWords_111 : decode b_Sha_fillWords 111 = .ok (.getfield 7, 3) := by decide +kernel
theorem d_Sha_fillWords_114 : decode b_Sha_fillWords 114 = .ok (.iload 4, 2) := by decide +kernel
theorem d_Sha_fillWords_116 : decode b_Sha_fillWords 116 = .ok (.bipush 16, 2) := by decide +kernel
theorem d_Sha_fillWords_118 : decode b_Sha_fillWords 118 = .ok (.isub, 1) := by decide +kernel
theorem d_Sha_fillWords_119 : decode b_Sha_fillWords 119 = .ok (.iaload, 1) := by decide +kernel
theorem d_Sha_fillWords_120 : decode b_Sha_fillWords 120 = .ok (.ixor, 1) := by decide +kernel
