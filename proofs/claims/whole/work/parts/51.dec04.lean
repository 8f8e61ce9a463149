theorem d_Mo_init_83 : decode b_Mo_init 83 = .ok (.putfield 40, 3) := by decide +kernel
theorem d_Mo_init_86 : decode b_Mo_init 86 = .ok (.return_, 1) := by decide +kernel
theorem d_Mo_thrown_0 : decode b_Mo_thrown 0 = .ok (.aload_n 0, 1) := by decide +kernel
theorem d_Mo_thrown_1 : decode b_Mo_thrown 1 = .ok (.getfield 43, 3) := by decide +kernel
theorem d_Mo_thrown_4 : decode b_Mo_thrown 4 = .ok (.ireturn, 1) := by decide +kernel
theorem d_Mo_refuse_0 : decode b_Mo_refuse 0 = .ok (.aload_n 0, 1) := by decide +kernel
theorem d_Mo_refuse_1 : decode b_Mo_refuse 1 = .ok (.iload_n 1, 1) := by decide +kernel
theorem d_Mo_refuse_2 : decode b_Mo_refuse 2 = .ok (.putfield 43, 3) := by decide +kernel
theorem d_Mo_refuse_5 : decode b_Mo_refuse 5 = .ok (.iconst 0, 1) := by decide +kernel
theorem d_Mo_refuse_6 : decode b_Mo_refuse 6 = .ok (.ireturn, 1) := by decide +kernel
theorem d_Mo_feed_0 : decode b_Mo_feed 0 = .ok (.aload_n 0, 1) := by decide +kernel
theorem d_Mo_feed_1 : decode b_Mo_feed 1 = .ok (.iconst 0, 1) := by decide +kernel
theorem d_Mo_feed_2 : decode b_Mo_feed 2 = .ok (.putfield 43, 3) := by decide +kernel
theorem d_Mo_feed_5 : decode b_Mo_feed 5 = .ok (.aload_n 0, 1) := by decide +kernel
theorem d_Mo_feed_6 : decode b_Mo_feed 6 = .ok (.getfield 47, 3) := by decide +kernel
theorem d_Mo_feed_9 : decode b_Mo_feed 9 = .ok (.bipush 20, 2) := by decide +kernel
theorem d_Mo_feed_11 : decode b_Mo_feed 11 = .ok (.iadd, 1) := by decide +kernel
theorem d_Mo_feed_12 : decode b_Mo_feed 12 = .ok (.ldc 7, 2) := by decide +kernel
theorem d_Mo_feed_14 : decode b_Mo_feed 14 = .ok (.if_icmp .le 9, 3) := by decide +kernel
theorem d_Mo_feed_17 : decode b_Mo_feed 17 = .ok (.aload_n 0, 1) := by decide +kernel
theorem d_Mo_feed_18 : decode b_Mo_feed 18 = .ok (.iconst 1, 1) := by decide +kernel
theorem d_Mo_feed_19 : decode b_Mo_feed 19 = .ok (.invokevirtual 50, 3) := by decide +kernel
theorem d_Mo_feed_22 : decode b_Mo_feed 22 = .ok (.ireturn, 1) := by decide +kernel
theorem d_Mo_feed_23 : decode b_Mo_feed 23 = .ok (.iconst 0, 1) := by decide +kernel
theorem d_Mo_feed_24 : decode b_Mo_feed 24 = .ok (.istore 6, 2) := by decide +kernel
theorem d_Mo_feed_26 : decode b_Mo_feed 26 = .ok (.iload 6, 2) := by decide +kernel
theorem d_Mo_feed_28 : decode b_Mo_feed 28 = .ok (.bipush 20, 2) := by decide +kernel
theorem d_Mo_feed_30 : decode b_Mo_feed 30 = .ok (.if_icmp .ge 90, 3) := by decide +kernel
theorem d_Mo_feed_33 : decode b_Mo_feed 33 = .ok (.iload 6, 2) := by decide +kernel
theorem d_Mo_feed_35 : decode b_Mo_feed 35 = .ok (.iconst 4, 1) := by decide +kernel
theorem d_Mo_feed_36 : decode b_Mo_feed 36 = .ok (.if_icmp .ge 7, 3) := by decide +kernel
theorem d_Mo_feed_39 : decode b_Mo_feed 39 = .ok (.iload_n 1, 1) := by decide +kernel
theorem d_Mo_feed_40 : decode b_Mo_feed 40 = .ok (.goto 39, 3) := by decide +kernel
theorem d_Mo_feed_43 : decode b_Mo_feed 43 = .ok (.iload 6, 2) := by decide +kernel
theorem d_Mo_feed_45 : decode b_Mo_feed 45 = .ok (.bipush 8, 2) := by decide +kernel
theorem d_Mo_feed_47 : decode b_Mo_feed 47 = .ok (.if_icmp .ge 7, 3) := by decide +kernel
theorem d_Mo_feed_50 : decode b_Mo_feed 50 = .ok (.iload_n 2, 1) := by decide +kernel
theorem d_Mo_feed_51 : decode b_Mo_feed 51 = .ok (.goto 28, 3) := by decide +kernel
theorem d_Mo_feed_54 : decode b_Mo_feed 54 = .ok (.iload 6, 2) := by decide +kernel
theorem d_Mo_feed_56 : decode b_Mo_feed 56 = .ok (.bipush 12, 2) := by decide +kernel
theorem d_Mo_feed_58 : decode b_Mo_feed 58 = .ok (.if_icmp .ge 7, 3) := by decide +kernel
theorem d_Mo_feed_61 : decode b_Mo_feed 61 = .ok (.iload_n 3, 1) := by decide +kernel
theorem d_Mo_feed_62 : decode b_Mo_feed 62 = .ok (.goto 17, 3) := by decide +kernel
theorem d_Mo_feed_65 : decode b_Mo_feed 65 = .ok (.iload 6, 2) := by decide +kernel
theorem d_Mo_feed_67 : decode b_Mo_feed 67 = .ok (.bipush 16, 2) := by decide +kernel
theorem d_Mo_feed_69 : decode b_Mo_feed 69 = .ok (.if_icmp .ge 8, 3) := by decide +kernel
theorem d_Mo_feed_72 : decode b_Mo_feed 72 = .ok (.iload 4, 2) := by decide +kernel
theorem d_Mo_feed_74 : decode b_Mo_feed 74 = .ok (.goto 5, 3) := by decide +kernel
theorem d_Mo_feed_77 : decode b_Mo_feed 77 = .ok (.iload 5, 2) := by decide +kernel
theorem d_Mo_feed_79 : decode b_Mo_feed 79 = .ok (.istore 7, 2) := by decide +kernel
theorem d_Mo_feed_81 : decode b_Mo_feed 81 = .ok (.aload_n 0, 1) := by decide +kernel
theorem d_Mo_feed_82 : decode b_Mo_feed 82 = .ok (.getfield 8, 3) := by decide +kernel
theorem d_Mo_feed_85 : decode b_Mo_feed 85 = .ok (.aload_n 0, 1) := by decide +kernel
theorem d_Mo_feed_86 : decode b_Mo_feed 86 = .ok (.getfield 47, 3) := by decide +kernel
theorem d_Mo_feed_89 : decode b_Mo_feed 89 = .ok (.iload 7, 2) := by decide +kernel
theorem d_Mo_feed_91 : decode b_Mo_feed 91 = .ok (.bipush 24, 2) := by decide +kernel
theorem d_Mo_feed_93 : decode b_Mo_feed 93 = .ok (.iload 6, 2) := by decide +kernel
theorem d_Mo_feed_95 : decode b_Mo_feed 95 = .ok (.iconst 4, 1) := by decide +kernel
theorem d_Mo_feed_96 : decode b_Mo_feed 96 = .ok (.irem, 1) := by decide +kernel
theorem d_Mo_feed_97 : decode b_Mo_feed 97 = .ok (.bipush 8, 2) := by decide +kernel
theorem d_Mo_feed_99 : decode b_Mo_feed 99 = .ok (.imul, 1) := by decide +kernel
theorem d_Mo_feed_100 : decode b_Mo_feed 100 = .ok (.isub, 1) := by decide +kernel
theorem d_Mo_feed_101 : decode b_Mo_feed 101 = .ok (.iushr, 1) := by decide +kernel
theorem d_Mo_feed_102 : decode b_Mo_feed 102 = .ok (.i2b, 1) := by decide +kernel
theorem d_Mo_feed_103 : decode b_Mo_feed 103 = .ok (.bastore, 1) := by decide +kernel
theorem d_Mo_feed_104 : decode b_Mo_feed 104 = .ok (.aload_n 0, 1) := by decide +kernel
theorem d_Mo_feed_105 : decode b_Mo_feed 105 = .ok (.dup, 1) := by decide +kernel
theorem d_Mo_feed_106 : decode b_Mo_feed 106 = .ok (.getfield 47, 3) := by decide +kernel
theorem d_Mo_feed_109 : decode b_Mo_feed 109 = .ok (.iconst 1, 1) := by decide +kernel
theorem d_Mo_feed_110 : decode b_Mo_feed 110 = .ok (.iadd, 1) := by decide +kernel
theorem d_Mo_feed_111 : decode b_Mo_feed 111 = .ok (.putfield 47, 3) := by decide +kernel
theorem d_Mo_feed_114 : decode b_Mo_feed 114 = .ok (.iinc 6 1, 3) := by decide +kernel
theorem d_Mo_feed_117 : decode b_Mo_feed 117 = .ok (.goto (-91), 3) := by decide +kernel
theorem d_Mo_feed_120 : decode b_Mo_feed 120 = .ok (.aload_n 0, 1) := by decide +kernel
theorem d_Mo_feed_121 : decode b_Mo_feed 121 = .ok (.getfield 47, 3) := by decide +kernel
theorem d_Mo_feed_124 : decode b_Mo_feed 124 = .ok (.ireturn, 1) := by decide +kernel
theorem d_Mo_end_0 : decode b_Mo_end 0 = .ok (.aload_n 0, 1) := by decide +kernel
theorem d_Mo_end_1 : decode b_Mo_end 1 = .ok (.iconst 0, 1) := by decide +kernel
theorem d_Mo_end_2 : decode b_Mo_end 2 = .ok (.putfield 43, 3) := by decide +kernel
theorem d_Mo_end_5 : decode b_Mo_end 5 = .ok (.iload_n 1, 1) := by decide +kernel
theorem d_Mo_end_6 : decode b_Mo_end 6 = .ok (.ifCond .lt 11, 3) := by decide +kernel
theorem d_Mo_end_9 : decode b_Mo_end 9 = .ok (.iload_n 1, 1) := by decide +kernel
theorem d_Mo_end_10 : decode b_Mo_end 10 = .ok (.aload_n 0, 1) := by decide +kernel
theorem d_Mo_end_11 : decode b_Mo_end 11 = .ok (.getfield 47, 3) := by decide +kernel
theorem d_Mo_end_14 : decode b_Mo_end 14 = .ok (.if_icmp .le 9, 3) := by decide +kernel
theorem d_Mo_end_17 : decode b_Mo_end 17 = .ok (.aload_n 0, 1) := by decide +kernel
theorem d_Mo_end_18 : decode b_Mo_end 18 = .ok (.iconst 1, 1) := by decide +kernel
theorem d_Mo_end_19 : decode b_Mo_end 19 = .ok (.invokevirtual 50, 3) := by decide +kernel
theorem d_Mo_end_22 : decode b_Mo_end 22 = .ok (.ireturn, 1) := by decide +kernel
theorem d_Mo_end_23 : decode b_Mo_end 23 = .ok (.aload_n 0, 1) := by decide +kernel
theorem d_Mo_end_24 : decode b_Mo_end 24 = .ok (.dup, 1) := by decide +kernel
theorem d_Mo_end_25 : decode b_Mo_end 25 = .ok (.getfield 47, 3) := by decide +kernel
theorem d_Mo_end_28 : decode b_Mo_end 28 = .ok (.iload_n 1, 1) := by decide +kernel
theorem d_Mo_end_29 : decode b_Mo_end 29 = .ok (.isub, 1) := by decide +kernel
theorem d_Mo_end_30 : decode b_Mo_end 30 = .ok (.putfield 47, 3) := by decide +kernel
theorem d_Mo_end_33 : decode b_Mo_end 33 = .ok (.aload_n 0, 1) := by decide +kernel
theorem d_Mo_end_34 : decode b_Mo_end 34 = .ok (.getfield 47, 3) := by decide +kernel
theorem d_Mo_end_37 : decode b_Mo_end 37 = .ok (.ireturn, 1) := by decide +kernel
theorem d_Mo_change_0 : decode b_Mo_change 0 = .ok (.aload_n 0, 1) := by decide +kernel
theorem d_Mo_change_1 : decode b_Mo_change 1 = .ok (.iconst 0, 1) := by decide +kernel
theorem d_Mo_change_2 : decode b_Mo_change 2 = .ok (.putfield 43, 3) := by decide +kernel
theorem d_Mo_change_5 : decode b_Mo_change 5 = .ok (.iload_n 1, 1) := by decide +kernel
theorem d_Mo_change_6 : decode b_Mo_change 6 = .ok (.ifCond .lt 22, 3) := by decide +kernel
theorem d_Mo_change_9 : decode b_Mo_change 9 = .ok (.iload_n 1, 1) := by decide +kernel
theorem d_Mo_change_10 : decode b_Mo_change 10 = .ok (.aload_n 0, 1) := by decide +kernel
theorem d_Mo_change_11 : decode b_Mo_change 11 = .ok (.getfield 47, 3) := by decide +kernel
theorem d_Mo_change_14 : decode b_Mo_change 14 = .ok (.if_icmp .ge 14, 3) := by decide +kernel
theorem d_Mo_change_17 : decode b_Mo_change 17 = .ok (.iload_n 2, 1) := by decide +kernel
theorem d_Mo_change_18 : decode b_Mo_change 18 = .ok (.ifCond .lt 10, 3) := by decide +kernel
theorem d_Mo_change_21 : decode b_Mo_change 21 = .ok (.iload_n 2, 1) := by decide +kernel
theorem d_Mo_change_22 : decode b_Mo_change 22 = .ok (.sipush 255, 3) := by decide +kernel
theorem d_Mo_change_25 : decode b_Mo_change 25 = .ok (.if_icmp .le 11, 3) := by decide +kernel
theorem d_Mo_change_28 : decode b_Mo_change 28 = .ok (.aload_n 0, 1) := by decide +kernel
theorem d_Mo_change_29 : decode b_Mo_change 29 = .ok (.iconst 1, 1) := by decide +kernel
theorem d_Mo_change_30 : decode b_Mo_change 30 = .ok (.putfield 43, 3) := by decide +kernel
theorem d_Mo_change_33 : decode b_Mo_change 33 = .ok (.goto 18, 3) := by decide +kernel
theorem d_Mo_change_36 : decode b_Mo_change 36 = .ok (.aload_n 0, 1) := by decide +kernel
theorem d_Mo_change_37 : decode b_Mo_change 37 = .ok (.getfield 8, 3) := by decide +kernel
theorem d_Mo_change_40 : decode b_Mo_change 40 = .ok (.iload_n 1, 1) := by decide +kernel
theorem d_Mo_change_41 : decode b_Mo_change 41 = .ok (.aload_n 0, 1) := by decide +kernel
theorem d_Mo_change_42 : decode b_Mo_change 42 = .ok (.getfield 8, 3) := by decide +kernel
theorem d_Mo_change_45 : decode b_Mo_change 45 = .ok (.iload_n 1, 1) := by decide +kernel
theorem d_Mo_change_46 : decode b_Mo_change 46 = .ok (.baload, 1) := by decide +kernel
theorem d_Mo_change_47 : decode b_Mo_change 47 = .ok (.iload_n 2, 1) := by decide +kernel
theorem d_Mo_change_48 : decode b_Mo_change 48 = .ok (.ixor, 1) := by decide +kernel
theorem d_Mo_change_49 : decode b_Mo_change 49 = .ok (.i2b, 1) := by decide +kernel
theorem d_Mo_change_50 : decode b_Mo_change 50 = .ok (.bastore, 1) := by decide +kernel
theorem d_Mo_change_51 : decode b_Mo_change 51 = .ok (.return_, 1) := by decide +kernel
theorem d_Mo_putBit_0 : decode b_Mo_putBit 0 = .ok (.iconst 2, 1) := by decide +kernel
theorem d_Mo_putBit_1 : decode b_Mo_putBit 1 = .ok (.aload_n 0, 1) := by decide +kernel
theorem d_Mo_putBit_2 : decode b_Mo_putBit 2 = .ok (.getfield 54, 3) := by decide +kernel
theorem d_Mo_putBit_5 : decode b_Mo_putBit 5 = .ok (.bipush 8, 2) := by decide +kernel
theorem d_Mo_putBit_7 : decode b_Mo_putBit 7 = .ok (.idiv, 1) := by decide +kernel
theorem d_Mo_putBit_8 : decode b_Mo_putBit 8 = .ok (.iadd, 1) := by decide +kernel
theorem d_Mo_putBit_9 : decode b_Mo_putBit 9 = .ok (.istore_n 2, 1) := by decide +kernel
theorem d_Mo_putBit_10 : decode b_Mo_putBit 10 = .ok (.aload_n 0, 1) := by decide +kernel
theorem d_Mo_putBit_11 : decode b_Mo_putBit 11 = .ok (.getfield 54, 3) := by decide +kernel
theorem d_Mo_putBit_14 : decode b_Mo_putBit 14 = .ok (.bipush 8, 2) := by decide +kernel
theorem d_Mo_putBit_16 : decode b_Mo_putBit 16 = .ok (.irem, 1) := by decide +kernel
theorem d_Mo_putBit_17 : decode b_Mo_putBit 17 = .ok (.ifCond .ne 10, 3) := by decide +kernel
theorem d_Mo_putBit_20 : decode b_Mo_putBit 20 = .ok (.aload_n 0, 1) := by decide +kernel
theorem d_Mo_putBit_21 : decode b_Mo_putBit 21 = .ok (.getfield 15, 3) := by decide +kernel
theorem d_Mo_putBit_24 : decode b_Mo_putBit 24 = .ok (.iload_n 2, 1) := by decide +kernel
theorem d_Mo_putBit_25 : decode b_Mo_putBit 25 = .ok (.iconst 0, 1) := by decide +kernel
theorem d_Mo_putBit_26 : decode b_Mo_putBit 26 = .ok (.bastore, 1) := by decide +kernel
theorem d_Mo_putBit_27 : decode b_Mo_putBit 27 = .ok (.iload_n 1, 1) := by decide +kernel
theorem d_Mo_putBit_28 : decode b_Mo_putBit 28 = .ok (.ifCond .eq 26, 3) := by decide +kernel
theorem d_Mo_putBit_31 : decode b_Mo_putBit 31 = .ok (.aload_n 0, 1) := by decide +kernel
theorem d_Mo_putBit_32 : decode b_Mo_putBit 32 = .ok (.getfield 15, 3) := by decide +kernel
theorem d_Mo_putBit_35 : decode b_Mo_putBit 35 = .ok (.iload_n 2, 1) := by decide +kernel
theorem d_Mo_putBit_36 : decode b_Mo_putBit 36 = .ok (.aload_n 0, 1) := by decide +kernel
theorem d_Mo_putBit_37 : decode b_Mo_putBit 37 = .ok (.getfield 15, 3) := by decide +kernel
theorem d_Mo_putBit_40 : decode b_Mo_putBit 40 = .ok (.iload_n 2, 1) := by decide +kernel
theorem d_Mo_putBit_41 : decode b_Mo_putBit 41 = .ok (.baload, 1) := by decide +kernel
theorem d_Mo_putBit_42 : decode b_Mo_putBit 42 = .ok (.iconst 1, 1) := by decide +kernel
theorem d_Mo_putBit_43 : decode b_Mo_putBit 43 = .ok (.aload_n 0, 1) := by decide +kernel
theorem d_Mo_putBit_44 : decode b_Mo_putBit 44 = .ok (.getfield 54, 3) := by decide +kernel
theorem d_Mo_putBit_47 : decode b_Mo_putBit 47 = .ok (.bipush 8, 2) := by decide +kernel
theorem d_Mo_putBit_49 : decode b_Mo_putBit 49 = .ok (.irem, 1) := by decide +kernel
theorem d_Mo_putBit_50 : decode b_Mo_putBit 50 = .ok (.ishl, 1) := by decide +kernel
theorem d_Mo_putBit_51 : decode b_Mo_putBit 51 = .ok (.ior, 1) := by decide +kernel
theorem d_Mo_putBit_52 : decode b_Mo_putBit 52 = .ok (.i2b, 1) := by decide +kernel
theorem d_Mo_putBit_53 : decode b_Mo_putBit 53 = .ok (.bastore, 1) := by decide +kernel
theorem d_Mo_putBit_54 : decode b_Mo_putBit 54 = .ok (.aload_n 0, 1) := by decide +kernel
theorem d_Mo_putBit_55 : decode b_Mo_putBit 55 = .ok (.dup, 1) := by decide +kernel
theorem d_Mo_putBit_56 : decode b_Mo_putBit 56 = .ok (.getfield 54, 3) := by decide +kernel
theorem d_Mo_putBit_59 : decode b_Mo_putBit 59 = .ok (.iconst 1, 1) := by decide +kernel
theorem d_Mo_putBit_60 : decode b_Mo_putBit 60 = .ok (.iadd, 1) := by decide +kernel
theorem d_Mo_putBit_61 : decode b_Mo_putBit 61 = .ok (.putfield 54, 3) := by decide +kernel
theorem d_Mo_putBit_64 : decode b_Mo_putBit 64 = .ok (.return_, 1) := by decide +kernel
theorem d_Mo_putCode_0 : decode b_Mo_putCode 0 = .ok (.iload_n 2, 1) := by decide +kernel
theorem d_Mo_putCode_1 : decode b_Mo_putCode 1 = .ok (.iconst 1, 1) := by decide +kernel
theorem d_Mo_putCode_2 : decode b_Mo_putCode 2 = .ok (.isub, 1) := by decide +kernel
theorem d_Mo_putCode_3 : decode b_Mo_putCode 3 = .ok (.istore_n 3, 1) := by decide +kernel
theorem d_Mo_putCode_4 : decode b_Mo_putCode 4 = .ok (.iload_n 3, 1) := by decide +kernel
theorem d_Mo_putCode_5 : decode b_Mo_putCode 5 = .ok (.ifCond .lt 18, 3) := by decide +kernel
theorem d_Mo_putCode_8 : decode b_Mo_putCode 8 = .ok (.aload_n 0, 1) := by decide +kernel
theorem d_Mo_putCode_9 : decode b_Mo_putCode 9 = .ok (.iload_n 1, 1) := by decide +kernel
theorem d_Mo_putCode_10 : decode b_Mo_putCode 10 = .ok (.iload_n 3, 1) := by decide +kernel
theorem d_Mo_putCode_11 : decode b_Mo_putCode 11 = .ok (.iushr, 1) := by decide +kernel
theorem d_Mo_putCode_12 : decode b_Mo_putCode 12 = .ok (.iconst 1, 1) := by decide +kernel
theorem d_Mo_putCode_13 : decode b_Mo_putCode 13 = .ok (.iand, 1) := by decide +kernel
theorem d_Mo_putCode_14 : decode b_Mo_putCode 14 = .ok (.invokevirtual 57, 3) := by decide +kernel
theorem d_Mo_putCode_17 : decode b_Mo_putCode 17 = .ok (.iinc 3 (-1), 3) := by decide +kernel
theorem d_Mo_putCode_20 : decode b_Mo_putCode 20 = .ok (.goto (-16), 3) := by decide +kernel
theorem d_Mo_putCode_23 : decode b_Mo_putCode 23 = .ok (.return_, 1) := by decide +kernel
theorem d_Mo_putNumber_0 : decode b_Mo_putNumber 0 = .ok (.iconst 0, 1) := by decide +kernel
theorem d_Mo_putNumber_1 : decode b_Mo_putNumber 1 = .ok (.istore_n 3, 1) := by decide +kernel
theorem d_Mo_putNumber_2 : decode b_Mo_putNumber 2 = .ok (.iload_n 3, 1) := by decide +kernel
theorem d_Mo_putNumber_3 : decode b_Mo_putNumber 3 = .ok (.iload_n 2, 1) := by decide +kernel
theorem d_Mo_putNumber_4 : decode b_Mo_putNumber 4 = .ok (.if_icmp .ge 18, 3) := by decide +kernel
theorem d_Mo_putNumber_7 : decode b_Mo_putNumber 7 = .ok (.aload_n 0, 1) := by decide +kernel
theorem d_Mo_putNumber_8 : decode b_Mo_putNumber 8 = .ok (.iload_n 1, 1) := by decide +kernel
theorem d_Mo_putNumber_9 : decode b_Mo_putNumber 9 = .ok (.iload_n 3, 1) := by decide +kernel
theorem d_Mo_putNumber_10 : decode b_Mo_putNumber 10 = .ok (.iushr, 1) := by decide +kernel
theorem d_Mo_putNumber_11 : decode b_Mo_putNumber 11 = .ok (.iconst 1, 1) := by decide +kernel
theorem d_Mo_putNumber_12 : decode b_Mo_putNumber 12 = .ok (.iand, 1) := by decide +kernel
theorem d_Mo_putNumber_13 : decode b_Mo_putNumber 13 = .ok (.invokevirtual 57, 3) := by decide +kernel
theorem d_Mo_putNumber_16 : decode b_Mo_putNumber 16 = .ok (.iinc 3 1, 3) := by decide +kernel
theorem d_Mo_putNumber_19 : decode b_Mo_putNumber 19 = .ok (.goto (-17), 3) := by decide +kernel
theorem d_Mo_putNumber_22 : decode b_Mo_putNumber 22 = .ok (.return_, 1) := by decide +kernel
theorem d_Mo_putSign_0 : decode b_Mo_putSign 0 = .ok (.iload_n 1, 1) := by decide +kernel
theorem d_Mo_putSign_1 : decode b_Mo_putSign 1 = .ok (.sipush 144, 3) := by decide +kernel
theorem d_Mo_putSign_4 : decode b_Mo_putSign 4 = .ok (.if_icmp .ge 16, 3) := by decide +kernel
theorem d_Mo_putSign_7 : decode b_Mo_putSign 7 = .ok (.aload_n 0, 1) := by decide +kernel
theorem d_Mo_putSign_8 : decode b_Mo_putSign 8 = .ok (.bipush 48, 2) := by decide +kernel
theorem d_Mo_putSign_10 : decode b_Mo_putSign 10 = .ok (.iload_n 1, 1) := by decide +kernel
theorem d_Mo_putSign_11 : decode b_Mo_putSign 11 = .ok (.iadd, 1) := by decide +kernel
theorem d_Mo_putSign_12 : decode b_Mo_putSign 12 = .ok (.bipush 8, 2) := by decide +kernel
theorem d_Mo_putSign_14 : decode b_Mo_putSign 14 = .ok (.invokevirtual 61, 3) := by decide +kernel
theorem d_Mo_putSign_17 : decode b_Mo_putSign 17 = .ok (.goto 64, 3) := by decide +kernel
theorem d_Mo_putSign_20 : decode b_Mo_putSign 20 = .ok (.iload_n 1, 1) := by decide +kernel
theorem d_Mo_putSign_21 : decode b_Mo_putSign 21 = .ok (.sipush 256, 3) := by decide +kernel
theorem d_Mo_putSign_24 : decode b_Mo_putSign 24 = .ok (.if_icmp .ge 21, 3) := by decide +kernel
theorem d_Mo_putSign_27 : decode b_Mo_putSign 27 = .ok (.aload_n 0, 1) := by decide +kernel
theorem d_Mo_putSign_28 : decode b_Mo_putSign 28 = .ok (.sipush 400, 3) := by decide +kernel
theorem d_Mo_putSign_31 : decode b_Mo_putSign 31 = .ok (.iload_n 1, 1) := by decide +kernel
theorem d_Mo_putSign_32 : decode b_Mo_putSign 32 = .ok (.iadd, 1) := by decide +kernel
theorem d_Mo_putSign_33 : decode b_Mo_putSign 33 = .ok (.sipush 144, 3) := by decide +kernel
theorem d_Mo_putSign_36 : decode b_Mo_putSign 36 = .ok (.isub, 1) := by decide +kernel
theorem d_Mo_putSign_37 : decode b_Mo_putSign 37 = .ok (.bipush 9, 2) := by decide +kernel
theorem d_Mo_putSign_39 : decode b_Mo_putSign 39 = .ok (.invokevirtual 61, 3) := by decide +kernel
theorem d_Mo_putSign_42 : decode b_Mo_putSign 42 = .ok (.goto 39, 3) := by decide +kernel
theorem d_Mo_putSign_45 : decode b_Mo_putSign 45 = .ok (.iload_n 1, 1) := by decide +kernel
theorem d_Mo_putSign_46 : decode b_Mo_putSign 46 = .ok (.sipush 280, 3) := by decide +kernel
theorem d_Mo_putSign_49 : decode b_Mo_putSign 49 = .ok (.if_icmp .ge 17, 3) := by decide +kernel
theorem d_Mo_putSign_52 : decode b_Mo_putSign 52 = .ok (.aload_n 0, 1) := by decide +kernel
theorem d_Mo_putSign_53 : decode b_Mo_putSign 53 = .ok (.iload_n 1, 1) := by decide +kernel
theorem d_Mo_putSign_54 : decode b_Mo_putSign 54 = .ok (.sipush 256, 3) := by decide +kernel
theorem d_Mo_putSign_57 : decode b_Mo_putSign 57 = .ok (.isub, 1) := by decide +kernel
theorem d_Mo_putSign_58 : decode b_Mo_putSign 58 = .ok (.bipush 7, 2) := by decide +kernel
theorem d_Mo_putSign_60 : decode b_Mo_putSign 60 = .ok (.invokevirtual 61, 3) := by decide +kernel
theorem d_Mo_putSign_63 : decode b_Mo_putSign 63 = .ok (.goto 18, 3) := by decide +kernel
theorem d_Mo_putSign_66 : decode b_Mo_putSign 66 = .ok (.aload_n 0, 1) := by decide +kernel
theorem d_Mo_putSign_67 : decode b_Mo_putSign 67 = .ok (.sipush 192, 3) := by decide +kernel
theorem d_Mo_putSign_70 : decode b_Mo_putSign 70 = .ok (.iload_n 1, 1) := by decide +kernel
theorem d_Mo_putSign_71 : decode b_Mo_putSign 71 = .ok (.iadd, 1) := by decide +kernel
theorem d_Mo_putSign_72 : decode b_Mo_putSign 72 = .ok (.sipush 280, 3) := by decide +kernel
theorem d_Mo_putSign_75 : decode b_Mo_putSign 75 = .ok (.isub, 1) := by decide +kernel
theorem d_Mo_putSign_76 : decode b_Mo_putSign 76 = .ok (.bipush 8, 2) := by decide +kernel
theorem d_Mo_putSign_78 : decode b_Mo_putSign 78 = .ok (.invokevirtual 61, 3) := by decide +kernel
theorem d_Mo_putSign_81 : decode b_Mo_putSign 81 = .ok (.return_, 1) := by decide +kernel
theorem d_Mo_lengthBits_0 : decode b_Mo_lengthBits 0 = .ok (.iload_n 0, 1) := by decide +kernel
theorem d_Mo_lengthBits_1 : decode b_Mo_lengthBits 1 = .ok (.sipush 265, 3) := by decide +kernel
theorem d_Mo_lengthBits_4 : decode b_Mo_lengthBits 4 = .ok (.if_icmp .lt 10, 3) := by decide +kernel
theorem d_Mo_lengthBits_7 : decode b_Mo_lengthBits 7 = .ok (.iload_n 0, 1) := by decide +kernel
theorem d_Mo_lengthBits_8 : decode b_Mo_lengthBits 8 = .ok (.sipush 285, 3) := by decide +kernel
theorem d_Mo_lengthBits_11 : decode b_Mo_lengthBits 11 = .ok (.if_icmp .ne 7, 3) := by decide +kernel
theorem d_Mo_lengthBits_14 : decode b_Mo_lengthBits 14 = .ok (.iconst 0, 1) := by decide +kernel
theorem d_Mo_lengthBits_15 : decode b_Mo_lengthBits 15 = .ok (.goto 10, 3) := by decide +kernel
theorem d_Mo_lengthBits_18 : decode b_Mo_lengthBits 18 = .ok (.iload_n 0, 1) := by decide +kernel
theorem d_Mo_lengthBits_19 : decode b_Mo_lengthBits 19 = .ok (.sipush 261, 3) := by decide +kernel
theorem d_Mo_lengthBits_22 : decode b_Mo_lengthBits 22 = .ok (.isub, 1) := by decide +kernel
theorem d_Mo_lengthBits_23 : decode b_Mo_lengthBits 23 = .ok (.iconst 4, 1) := by decide +kernel
theorem d_Mo_lengthBits_24 : decode b_Mo_lengthBits 24 = .ok (.idiv, 1) := by decide +kernel
theorem d_Mo_lengthBits_25 : decode b_Mo_lengthBits 25 = .ok (.ireturn, 1) := by decide +kernel
theorem d_Mo_lengthBase_0 : decode b_Mo_lengthBase 0 = .ok (.iconst 3, 1) := by decide +kernel
theorem d_Mo_lengthBase_1 : decode b_Mo_lengthBase 1 = .ok (.istore_n 1, 1) := by decide +kernel
theorem d_Mo_lengthBase_2 : decode b_Mo_lengthBase 2 = .ok (.sipush 257, 3) := by decide +kernel
theorem d_Mo_lengthBase_5 : decode b_Mo_lengthBase 5 = .ok (.istore_n 2, 1) := by decide +kernel
theorem d_Mo_lengthBase_6 : decode b_Mo_lengthBase 6 = .ok (.iload_n 2, 1) := by decide +kernel
theorem d_Mo_lengthBase_7 : decode b_Mo_lengthBase 7 = .ok (.iload_n 0, 1) := by decide +kernel
theorem d_Mo_lengthBase_8 : decode b_Mo_lengthBase 8 = .ok (.if_icmp .ge 18, 3) := by decide +kernel
theorem d_Mo_lengthBase_11 : decode b_Mo_lengthBase 11 = .ok (.iload_n 1, 1) := by decide +kernel
theorem d_Mo_lengthBase_12 : decode b_Mo_lengthBase 12 = .ok (.iconst 1, 1) := by decide +kernel
theorem d_Mo_lengthBase_13 : decode b_Mo_lengthBase 13 = .ok (.iload_n 2, 1) := by decide +kernel
theorem d_Mo_lengthBase_14 : decode b_Mo_lengthBase 14 = .ok (.invokestatic 65, 3) := by decide +kernel
theorem d_Mo_lengthBase_17 : decode b_Mo_lengthBase 17 = .ok (.ishl, 1) := by decide +kernel
theorem d_Mo_lengthBase_18 : decode b_Mo_lengthBase 18 = .ok (.iadd, 1) := by decide +kernel
theorem d_Mo_lengthBase_19 : decode b_Mo_lengthBase 19 = .ok (.istore_n 1, 1) := by decide +kernel
theorem d_Mo_lengthBase_20 : decode b_Mo_lengthBase 20 = .ok (.iinc 2 1, 3) := by decide +kernel
theorem d_Mo_lengthBase_23 : decode b_Mo_lengthBase 23 = .ok (.goto (-17), 3) := by decide +kernel
theorem d_Mo_lengthBase_26 : decode b_Mo_lengthBase 26 = .ok (.iload_n 0, 1) := by decide +kernel
theorem d_Mo_lengthBase_27 : decode b_Mo_lengthBase 27 = .ok (.sipush 285, 3) := by decide +kernel
theorem d_Mo_lengthBase_30 : decode b_Mo_lengthBase 30 = .ok (.if_icmp .ne 9, 3) := by decide +kernel
theorem d_Mo_lengthBase_33 : decode b_Mo_lengthBase 33 = .ok (.sipush 258, 3) := by decide +kernel
theorem d_Mo_lengthBase_36 : decode b_Mo_lengthBase 36 = .ok (.goto 4, 3) := by decide +kernel
theorem d_Mo_lengthBase_39 : decode b_Mo_lengthBase 39 = .ok (.iload_n 1, 1) := by decide +kernel
theorem d_Mo_lengthBase_40 : decode b_Mo_lengthBase 40 = .ok (.ireturn, 1) := by decide +kernel
theorem d_Mo_distanceBits_0 : decode b_Mo_distanceBits 0 = .ok (.iload_n 0, 1) := by decide +kernel
theorem d_Mo_distanceBits_1 : decode b_Mo_distanceBits 1 = .ok (.iconst 4, 1) := by decide +kernel
theorem d_Mo_distanceBits_2 : decode b_Mo_distanceBits 2 = .ok (.if_icmp .ge 7, 3) := by decide +kernel
theorem d_Mo_distanceBits_5 : decode b_Mo_distanceBits 5 = .ok (.iconst 0, 1) := by decide +kernel
theorem d_Mo_distanceBits_6 : decode b_Mo_distanceBits 6 = .ok (.goto 8, 3) := by decide +kernel
theorem d_Mo_distanceBits_9 : decode b_Mo_distanceBits 9 = .ok (.iload_n 0, 1) := by decide +kernel
theorem d_Mo_distanceBits_10 : decode b_Mo_distanceBits 10 = .ok (.iconst 2, 1) := by decide +kernel
theorem d_Mo_distanceBits_11 : decode b_Mo_distanceBits 11 = .ok (.idiv, 1) := by decide +kernel
theorem d_Mo_distanceBits_12 : decode b_Mo_distanceBits 12 = .ok (.iconst 1, 1) := by decide +kernel
theorem d_Mo_distanceBits_13 : decode b_Mo_distanceBits 13 = .ok (.isub, 1) := by decide +kernel
theorem d_Mo_distanceBits_14 : decode b_Mo_distanceBits 14 = .ok (.ireturn, 1) := by decide +kernel
theorem d_Mo_distanceBase_0 : decode b_Mo_distanceBase 0 = .ok (.iconst 1, 1) := by decide +kernel
theorem d_Mo_distanceBase_1 : decode b_Mo_distanceBase 1 = .ok (.istore_n 1, 1) := by decide +kernel
theorem d_Mo_distanceBase_2 : decode b_Mo_distanceBase 2 = .ok (.iconst 0, 1) := by decide +kernel
theorem d_Mo_distanceBase_3 : decode b_Mo_distanceBase 3 = .ok (.istore_n 2, 1) := by decide +kernel
theorem d_Mo_distanceBase_4 : decode b_Mo_distanceBase 4 = .ok (.iload_n 2, 1) := by decide +kernel
theorem d_Mo_distanceBase_5 : decode b_Mo_distanceBase 5 = .ok (.iload_n 0, 1) := by decide +kernel
theorem d_Mo_distanceBase_6 : decode b_Mo_distanceBase 6 = .ok (.if_icmp .ge 18, 3) := by decide +kernel
theorem d_Mo_distanceBase_9 : decode b_Mo_distanceBase 9 = .ok (.iload_n 1, 1) := by decide +kernel
theorem d_Mo_distanceBase_10 : decode b_Mo_distanceBase 10 = .ok (.iconst 1, 1) := by decide +kernel
theorem d_Mo_distanceBase_11 : decode b_Mo_distanceBase 11 = .ok (.iload_n 2, 1) := by decide +kernel
theorem d_Mo_distanceBase_12 : decode b_Mo_distanceBase 12 = .ok (.invokestatic 68, 3) := by decide +kernel
theorem d_Mo_distanceBase_15 : decode b_Mo_distanceBase 15 = .ok (.ishl, 1) := by decide +kernel
theorem d_Mo_distanceBase_16 : decode b_Mo_distanceBase 16 = .ok (.iadd, 1) := by decide +kernel
theorem d_Mo_distanceBase_17 : decode b_Mo_distanceBase 17 = .ok (.istore_n 1, 1) := by decide +kernel
theorem d_Mo_distanceBase_18 : decode b_Mo_distanceBase 18 = .ok (.iinc 2 1, 3) := by decide +kernel
theorem d_Mo_distanceBase_21 : decode b_Mo_distanceBase 21 = .ok (.goto (-17), 3) := by decide +kernel
theorem d_Mo_distanceBase_24 : decode b_Mo_distanceBase 24 = .ok (.iload_n 1, 1) := by decide +kernel
theorem d_Mo_distanceBase_25 : decode b_Mo_distanceBase 25 = .ok (.ireturn, 1) := by decide +kernel
theorem d_Mo_putPair_0 : decode b_Mo_putPair 0 = .ok (.sipush 257, 3) := by decide +kernel
theorem d_Mo_putPair_3 : decode b_Mo_putPair 3 = .ok (.istore_n 3, 1) := by decide +kernel
theorem d_Mo_putPair_4 : decode b_Mo_putPair 4 = .ok (.iload_n 3, 1) := by decide +kernel
theorem d_Mo_putPair_5 : decode b_Mo_putPair 5 = .ok (.sipush 285, 3) := by decide +kernel
theorem d_Mo_putPair_8 : decode b_Mo_putPair 8 = .ok (.if_icmp .ge 19, 3) := by decide +kernel
theorem d_Mo_putPair_11 : decode b_Mo_putPair 11 = .ok (.iload_n 3, 1) := by decide +kernel
theorem d_Mo_putPair_12 : decode b_Mo_putPair 12 = .ok (.iconst 1, 1) := by decide +kernel
theorem d_Mo_putPair_13 : decode b_Mo_putPair 13 = .ok (.iadd, 1) := by decide +kernel
theorem d_Mo_putPair_14 : decode b_Mo_putPair 14 = .ok (.invokestatic 71, 3) := by decide +kernel
theorem d_Mo_putPair_17 : decode b_Mo_putPair 17 = .ok (.iload_n 1, 1) := by decide +kernel
theorem d_Mo_putPair_18 : decode b_Mo_putPair 18 = .ok (.if_icmp .gt 9, 3) := by decide +kernel
theorem d_Mo_putPair_21 : decode b_Mo_putPair 21 = .ok (.iinc 3 1, 3) := by decide +kernel
theorem d_Mo_putPair_24 : decode b_Mo_putPair 24 = .ok (.goto (-20), 3) := by decide +kernel
theorem d_Mo_putPair_27 : decode b_Mo_putPair 27 = .ok (.aload_n 0, 1) := by decide +kernel
theorem d_Mo_putPair_28 : decode b_Mo_putPair 28 = .ok (.iload_n 3, 1) := by decide +kernel
theorem d_Mo_putPair_29 : decode b_Mo_putPair 29 = .ok (.invokevirtual 74, 3) := by decide +kernel
theorem d_Mo_putPair_32 : decode b_Mo_putPair 32 = .ok (.aload_n 0, 1) := by decide +kernel
theorem d_Mo_putPair_33 : decode b_Mo_putPair 33 = .ok (.iload_n 1, 1) := by decide +kernel
theorem d_Mo_putPair_34 : decode b_Mo_putPair 34 = .ok (.iload_n 3, 1) := by decide +kernel
theorem d_Mo_putPair_35 : decode b_Mo_putPair 35 = .ok (.invokestatic 71, 3) := by decide +kernel
theorem d_Mo_putPair_38 : decode b_Mo_putPair 38 = .ok (.isub, 1) := by decide +kernel
theorem d_Mo_putPair_39 : decode b_Mo_putPair 39 = .ok (.iload_n 3, 1) := by decide +kernel
theorem d_Mo_putPair_40 : decode b_Mo_putPair 40 = .ok (.invokestatic 65, 3) := by decide +kernel
theorem d_Mo_putPair_43 : decode b_Mo_putPair 43 = .ok (.invokevirtual 77, 3) := by decide +kernel
theorem d_Mo_putPair_46 : decode b_Mo_putPair 46 = .ok (.iconst 0, 1) := by decide +kernel
theorem d_Mo_putPair_47 : decode b_Mo_putPair 47 = .ok (.istore 4, 2) := by decide +kernel
theorem d_Mo_putPair_49 : decode b_Mo_putPair 49 = .ok (.iload 4, 2) := by decide +kernel
theorem d_Mo_putPair_51 : decode b_Mo_putPair 51 = .ok (.bipush 29, 2) := by decide +kernel
theorem d_Mo_putPair_53 : decode b_Mo_putPair 53 = .ok (.if_icmp .ge 20, 3) := by decide +kernel
theorem d_Mo_putPair_56 : decode b_Mo_putPair 56 = .ok (.iload 4, 2) := by decide +kernel
theorem d_Mo_putPair_58 : decode b_Mo_putPair 58 = .ok (.iconst 1, 1) := by decide +kernel
theorem d_Mo_putPair_59 : decode b_Mo_putPair 59 = .ok (.iadd, 1) := by decide +kernel
theorem d_Mo_putPair_60 : decode b_Mo_putPair 60 = .ok (.invokestatic 80, 3) := by decide +kernel
theorem d_Mo_putPair_63 : decode b_Mo_putPair 63 = .ok (.iload_n 2, 1) := by decide +kernel
theorem d_Mo_putPair_64 : decode b_Mo_putPair 64 = .ok (.if_icmp .gt 9, 3) := by decide +kernel
theorem d_Mo_putPair_67 : decode b_Mo_putPair 67 = .ok (.iinc 4 1, 3) := by decide +kernel
theorem d_Mo_putPair_70 : decode b_Mo_putPair 70 = .ok (.goto (-21), 3) := by decide +kernel
theorem d_Mo_putPair_73 : decode b_Mo_putPair 73 = .ok (.aload_n 0, 1) := by decide +kernel
theorem d_Mo_putPair_74 : decode b_Mo_putPair 74 = .ok (.iload 4, 2) := by decide +kernel
theorem d_Mo_putPair_76 : decode b_Mo_putPair 76 = .ok (.iconst 5, 1) := by decide +kernel
theorem d_Mo_putPair_77 : decode b_Mo_putPair 77 = .ok (.invokevirtual 61, 3) := by decide +kernel
theorem d_Mo_putPair_80 : decode b_Mo_putPair 80 = .ok (.aload_n 0, 1) := by decide +kernel
theorem d_Mo_putPair_81 : decode b_Mo_putPair 81 = .ok (.iload_n 2, 1) := by decide +kernel
theorem d_Mo_putPair_82 : decode b_Mo_putPair 82 = .ok (.iload 4, 2) := by decide +kernel
theorem d_Mo_putPair_84 : decode b_Mo_putPair 84 = .ok (.invokestatic 80, 3) := by decide +kernel
theorem d_Mo_putPair_87 : decode b_Mo_putPair 87 = .ok (.isub, 1) := by decide +kernel
theorem d_Mo_putPair_88 : decode b_Mo_putPair 88 = .ok (.iload 4, 2) := by decide +kernel
theorem d_Mo_putPair_90 : decode b_Mo_putPair 90 = .ok (.invokestatic 68, 3) := by decide +kernel
theorem d_Mo_putPair_93 : decode b_Mo_putPair 93 = .ok (.invokevirtual 77, 3) := by decide +kernel
theorem d_Mo_putPair_96 : decode b_Mo_putPair 96 = .ok (.return_, 1) := by decide +kernel
theorem d_Mo_common_0 : decode b_Mo_common 0 = .ok (.iconst 0, 1) := by decide +kernel
theorem d_Mo_common_1 : decode b_Mo_common 1 = .ok (.istore_n 3, 1) := by decide +kernel
theorem d_Mo_common_2 : decode b_Mo_common 2 = .ok (.iload_n 3, 1) := by decide +kernel
theorem d_Mo_common_3 : decode b_Mo_common 3 = .ok (.sipush 258, 3) := by decide +kernel
theorem d_Mo_common_6 : decode b_Mo_common 6 = .ok (.if_icmp .ge 40, 3) := by decide +kernel
theorem d_Mo_common_9 : decode b_Mo_common 9 = .ok (.iload_n 1, 1) := by decide +kernel
theorem d_Mo_common_10 : decode b_Mo_common 10 = .ok (.iload_n 3, 1) := by decide +kernel
theorem d_Mo_common_11 : decode b_Mo_common 11 = .ok (.iadd, 1) := by decide +kernel
theorem d_Mo_common_12 : decode b_Mo_common 12 = .ok (.aload_n 0, 1) := by decide +kernel
theorem d_Mo_common_13 : decode b_Mo_common 13 = .ok (.getfield 47, 3) := by decide +kernel
theorem d_Mo_common_16 : decode b_Mo_common 16 = .ok (.if_icmp .ge 30, 3) := by decide +kernel
theorem d_Mo_common_19 : decode b_Mo_common 19 = .ok (.aload_n 0, 1) := by decide +kernel
theorem d_Mo_common_20 : decode b_Mo_common 20 = .ok (.getfield 8, 3) := by decide +kernel
theorem d_Mo_common_23 : decode b_Mo_common 23 = .ok (.iload_n 1, 1) := by decide +kernel
theorem d_Mo_common_24 : decode b_Mo_common 24 = .ok (.iload_n 3, 1) := by decide +kernel
theorem d_Mo_common_25 : decode b_Mo_common 25 = .ok (.iadd, 1) := by decide +kernel
theorem d_Mo_common_26 : decode b_Mo_common 26 = .ok (.baload, 1) := by decide +kernel
theorem d_Mo_common_27 : decode b_Mo_common 27 = .ok (.aload_n 0, 1) := by decide +kernel
theorem d_Mo_common_28 : decode b_Mo_common 28 = .ok (.getfield 8, 3) := by decide +kernel
theorem d_Mo_common_31 : decode b_Mo_common 31 = .ok (.iload_n 1, 1) := by decide +kernel
theorem d_Mo_common_32 : decode b_Mo_common 32 = .ok (.iload_n 3, 1) := by decide +kernel
theorem d_Mo_common_33 : decode b_Mo_common 33 = .ok (.iadd, 1) := by decide +kernel
theorem d_Mo_common_34 : decode b_Mo_common 34 = .ok (.iload_n 2, 1) := by decide +kernel
theorem d_Mo_common_35 : decode b_Mo_common 35 = .ok (.isub, 1) := by decide +kernel
theorem d_Mo_common_36 : decode b_Mo_common 36 = .ok (.baload, 1) := by decide +kernel
theorem d_Mo_common_37 : decode b_Mo_common 37 = .ok (.if_icmp .ne 9, 3) := by decide +kernel
theorem d_Mo_common_40 : decode b_Mo_common 40 = .ok (.iinc 3 1, 3) := by decide +kernel
theorem d_Mo_common_43 : decode b_Mo_common 43 = .ok (.goto (-41), 3) := by decide +kernel
theorem d_Mo_common_46 : decode b_Mo_common 46 = .ok (.iload_n 3, 1) := by decide +kernel
theorem d_Mo_common_47 : decode b_Mo_common 47 = .ok (.ireturn, 1) := by decide +kernel
theorem d_Mo_adler_0 : decode b_Mo_adler 0 = .ok (.iconst 1, 1) := by decide +kernel
theorem d_Mo_adler_1 : decode b_Mo_adler 1 = .ok (.istore_n 3, 1) := by decide +kernel
theorem d_Mo_adler_2 : decode b_Mo_adler 2 = .ok (.iconst 0, 1) := by decide +kernel
theorem d_Mo_adler_3 : decode b_Mo_adler 3 = .ok (.istore 4, 2) := by decide +kernel
theorem d_Mo_adler_5 : decode b_Mo_adler 5 = .ok (.iconst 0, 1) := by decide +kernel
theorem d_Mo_adler_6 : decode b_Mo_adler 6 = .ok (.istore 5, 2) := by decide +kernel
theorem d_Mo_adler_8 : decode b_Mo_adler 8 = .ok (.iload 5, 2) := by decide +kernel
theorem d_Mo_adler_10 : decode b_Mo_adler 10 = .ok (.iload_n 2, 1) := by decide +kernel
theorem d_Mo_adler_11 : decode b_Mo_adler 11 = .ok (.if_icmp .ge 32, 3) := by decide +kernel
theorem d_Mo_adler_14 : decode b_Mo_adler 14 = .ok (.iload_n 3, 1) := by decide +kernel
theorem d_Mo_adler_15 : decode b_Mo_adler 15 = .ok (.aload_n 1, 1) := by decide +kernel
theorem d_Mo_adler_16 : decode b_Mo_adler 16 = .ok (.iload 5, 2) := by decide +kernel
theorem d_Mo_adler_18 : decode b_Mo_adler 18 = .ok (.baload, 1) := by decide +kernel
theorem d_Mo_adler_19 : decode b_Mo_adler 19 = .ok (.sipush 255, 3) := by decide +kernel
theorem d_Mo_adler_22 : decode b_Mo_adler 22 = .ok (.iand, 1) := by decide +kernel
theorem d_Mo_adler_23 : decode b_Mo_adler 23 = .ok (.iadd, 1) := by decide +kernel
theorem d_Mo_adler_24 : decode b_Mo_adler 24 = .ok (.ldc 83, 2) := by decide +kernel
theorem d_Mo_adler_26 : decode b_Mo_adler 26 = .ok (.irem, 1) := by decide +kernel
theorem d_Mo_adler_27 : decode b_Mo_adler 27 = .ok (.istore_n 3, 1) := by decide +kernel
theorem d_Mo_adler_28 : decode b_Mo_adler 28 = .ok (.iload 4, 2) := by decide +kernel
theorem d_Mo_adler_30 : decode b_Mo_adler 30 = .ok (.iload_n 3, 1) := by decide +kernel
theorem d_Mo_adler_31 : decode b_Mo_adler 31 = .ok (.iadd, 1) := by decide +kernel
theorem d_Mo_adler_32 : decode b_Mo_adler 32 = .ok (.ldc 83, 2) := by decide +kernel
theorem d_Mo_adler_34 : decode b_Mo_adler 34 = .ok (.irem, 1) := by decide +kernel
theorem d_Mo_adler_35 : decode b_Mo_adler 35 = .ok (.istore 4, 2) := by decide +kernel
theorem d_Mo_adler_37 : decode b_Mo_adler 37 = .ok (.iinc 5 1, 3) := by decide +kernel
theorem d_Mo_adler_40 : decode b_Mo_adler 40 = .ok (.goto (-32), 3) := by decide +kernel
theorem d_Mo_adler_43 : decode b_Mo_adler 43 = .ok (.iload 4, 2) := by decide +kernel
theorem d_Mo_adler_45 : decode b_Mo_adler 45 = .ok (.bipush 16, 2) := by decide +kernel
theorem d_Mo_adler_47 : decode b_Mo_adler 47 = .ok (.ishl, 1) := by decide +kernel
theorem d_Mo_adler_48 : decode b_Mo_adler 48 = .ok (.iload_n 3, 1) := by decide +kernel
theorem d_Mo_adler_49 : decode b_Mo_adler 49 = .ok (.ior, 1) := by decide +kernel
theorem d_Mo_adler_50 : decode b_Mo_adler 50 = .ok (.ireturn, 1) := by decide +kernel
theorem d_Mo_press_0 : decode b_Mo_press 0 = .ok (.aload_n 0, 1) := by decide +kernel
theorem d_Mo_press_1 : decode b_Mo_press 1 = .ok (.iconst 0, 1) := by decide +kernel
theorem d_Mo_press_2 : decode b_Mo_press 2 = .ok (.putfield 43, 3) := by decide +kernel
theorem d_Mo_press_5 : decode b_Mo_press 5 = .ok (.aload_n 0, 1) := by decide +kernel
theorem d_Mo_press_6 : decode b_Mo_press 6 = .ok (.iconst 0, 1) := by decide +kernel
theorem d_Mo_press_7 : decode b_Mo_press 7 = .ok (.putfield 54, 3) := by decide +kernel
theorem d_Mo_press_10 : decode b_Mo_press 10 = .ok (.aload_n 0, 1) := by decide +kernel
theorem d_Mo_press_11 : decode b_Mo_press 11 = .ok (.iconst 0, 1) := by decide +kernel
theorem d_Mo_press_12 : decode b_Mo_press 12 = .ok (.putfield 84, 3) := by decide +kernel
theorem d_Mo_press_15 : decode b_Mo_press 15 = .ok (.aload_n 0, 1) := by decide +kernel
theorem d_Mo_press_16 : decode b_Mo_press 16 = .ok (.iconst 0, 1) := by decide +kernel
theorem d_Mo_press_17 : decode b_Mo_press 17 = .ok (.putfield 87, 3) := by decide +kernel
theorem d_Mo_press_20 : decode b_Mo_press 20 = .ok (.aload_n 0, 1) := by decide +kernel
theorem d_Mo_press_21 : decode b_Mo_press 21 = .ok (.getfield 15, 3) := by decide +kernel
theorem d_Mo_press_24 : decode b_Mo_press 24 = .ok (.iconst 0, 1) := by decide +kernel
theorem d_Mo_press_25 : decode b_Mo_press 25 = .ok (.bipush 120, 2) := by decide +kernel
theorem d_Mo_press_27 : decode b_Mo_press 27 = .ok (.bastore, 1) := by decide +kernel
theorem d_Mo_press_28 : decode b_Mo_press 28 = .ok (.aload_n 0, 1) := by decide +kernel
theorem d_Mo_press_29 : decode b_Mo_press 29 = .ok (.getfield 15, 3) := by decide +kernel
theorem d_Mo_press_32 : decode b_Mo_press 32 = .ok (.iconst 1, 1) := by decide +kernel
theorem d_Mo_press_33 : decode b_Mo_press 33 = .ok (.iconst 1, 1) := by decide +kernel
theorem d_Mo_press_34 : decode b_Mo_press 34 = .ok (.bastore, 1) := by decide +kernel
theorem d_Mo_press_35 : decode b_Mo_press 35 = .ok (.aload_n 0, 1) := by decide +kernel
theorem d_Mo_press_36 : decode b_Mo_press 36 = .ok (.iconst 3, 1) := by decide +kernel
theorem d_Mo_press_37 : decode b_Mo_press 37 = .ok (.iconst 3, 1) := by decide +kernel
theorem d_Mo_press_38 : decode b_Mo_press 38 = .ok (.invokevirtual 77, 3) := by decide +kernel
theorem d_Mo_press_41 : decode b_Mo_press 41 = .ok (.iconst 0, 1) := by decide +kernel
theorem d_Mo_press_42 : decode b_Mo_press 42 = .ok (.istore_n 1, 1) := by decide +kernel
theorem d_Mo_press_43 : decode b_Mo_press 43 = .ok (.iload_n 1, 1) := by decide +kernel
theorem d_Mo_press_44 : decode b_Mo_press 44 = .ok (.aload_n 0, 1) := by decide +kernel
theorem d_Mo_press_45 : decode b_Mo_press 45 = .ok (.getfield 47, 3) := by decide +kernel
theorem d_Mo_press_48 : decode b_Mo_press 48 = .ok (.if_icmp .ge 157, 3) := by decide +kernel
theorem d_Mo_press_51 : decode b_Mo_press 51 = .ok (.iconst 0, 1) := by decide +kernel
theorem d_Mo_press_52 : decode b_Mo_press 52 = .ok (.istore_n 2, 1) := by decide +kernel
theorem d_Mo_press_53 : decode b_Mo_press 53 = .ok (.iconst 0, 1) := by decide +kernel
theorem d_Mo_press_54 : decode b_Mo_press 54 = .ok (.istore_n 3, 1) := by decide +kernel
theorem d_Mo_press_55 : decode b_Mo_press 55 = .ok (.iconst 1, 1) := by decide +kernel
theorem d_Mo_press_56 : decode b_Mo_press 56 = .ok (.istore 4, 2) := by decide +kernel
theorem d_Mo_press_58 : decode b_Mo_press 58 = .ok (.iload 4, 2) := by decide +kernel
theorem d_Mo_press_60 : decode b_Mo_press 60 = .ok (.ldc 90, 2) := by decide +kernel
theorem d_Mo_press_62 : decode b_Mo_press 62 = .ok (.if_icmp .gt 85, 3) := by decide +kernel
theorem d_Mo_press_65 : decode b_Mo_press 65 = .ok (.iload 4, 2) := by decide +kernel
theorem d_Mo_press_67 : decode b_Mo_press 67 = .ok (.iload_n 1, 1) := by decide +kernel
theorem d_Mo_press_68 : decode b_Mo_press 68 = .ok (.if_icmp .gt 79, 3) := by decide +kernel
theorem d_Mo_press_71 : decode b_Mo_press 71 = .ok (.iload_n 2, 1) := by decide +kernel
theorem d_Mo_press_72 : decode b_Mo_press 72 = .ok (.sipush 258, 3) := by decide +kernel
theorem d_Mo_press_75 : decode b_Mo_press 75 = .ok (.if_icmp .ge 72, 3) := by decide +kernel
theorem d_Mo_press_78 : decode b_Mo_press 78 = .ok (.iload_n 1, 1) := by decide +kernel
theorem d_Mo_press_79 : decode b_Mo_press 79 = .ok (.iload_n 2, 1) := by decide +kernel
theorem d_Mo_press_80 : decode b_Mo_press 80 = .ok (.iadd, 1) := by decide +kernel
theorem d_Mo_press_81 : decode b_Mo_press 81 = .ok (.aload_n 0, 1) := by decide +kernel
theorem d_Mo_press_82 : decode b_Mo_press 82 = .ok (.getfield 47, 3) := by decide +kernel
theorem d_Mo_press_85 : decode b_Mo_press 85 = .ok (.if_icmp .ge 62, 3) := by decide +kernel
theorem d_Mo_press_88 : decode b_Mo_press 88 = .ok (.iload_n 2, 1) := by decide +kernel
theorem d_Mo_press_89 : decode b_Mo_press 89 = .ok (.ifCond .le 28, 3) := by decide +kernel
theorem d_Mo_press_92 : decode b_Mo_press 92 = .ok (.aload_n 0, 1) := by decide +kernel
theorem d_Mo_press_93 : decode b_Mo_press 93 = .ok (.getfield 8, 3) := by decide +kernel
theorem d_Mo_press_96 : decode b_Mo_press 96 = .ok (.iload_n 1, 1) := by decide +kernel
theorem d_Mo_press_97 : decode b_Mo_press 97 = .ok (.iload_n 2, 1) := by decide +kernel
theorem d_Mo_press_98 : decode b_Mo_press 98 = .ok (.iadd, 1) := by decide +kernel
theorem d_Mo_press_99 : decode b_Mo_press 99 = .ok (.baload, 1) := by decide +kernel
theorem d_Mo_press_100 : decode b_Mo_press 100 = .ok (.aload_n 0, 1) := by decide +kernel
theorem d_Mo_press_101 : decode b_Mo_press 101 = .ok (.getfield 8, 3) := by decide +kernel
theorem d_Mo_press_104 : decode b_Mo_press 104 = .ok (.iload_n 1, 1) := by decide +kernel
theorem d_Mo_press_105 : decode b_Mo_press 105 = .ok (.iload_n 2, 1) := by decide +kernel
theorem d_Mo_press_106 : decode b_Mo_press 106 = .ok (.iadd, 1) := by decide +kernel
theorem d_Mo_press_107 : decode b_Mo_press 107 = .ok (.iload 4, 2) := by decide +kernel
theorem d_Mo_press_109 : decode b_Mo_press 109 = .ok (.isub, 1) := by decide +kernel
theorem d_Mo_press_110 : decode b_Mo_press 110 = .ok (.baload, 1) := by decide +kernel
theorem d_Mo_press_111 : decode b_Mo_press 111 = .ok (.if_icmp .eq 6, 3) := by decide +kernel
theorem d_Mo_press_114 : decode b_Mo_press 114 = .ok (.goto 27, 3) := by decide +kernel
theorem d_Mo_press_117 : decode b_Mo_press 117 = .ok (.aload_n 0, 1) := by decide +kernel
theorem d_Mo_press_118 : decode b_Mo_press 118 = .ok (.iload_n 1, 1) := by decide +kernel
theorem d_Mo_press_119 : decode b_Mo_press 119 = .ok (.iload 4, 2) := by decide +kernel
theorem d_Mo_press_121 : decode b_Mo_press 121 = .ok (.invokevirtual 91, 3) := by decide +kernel
theorem d_Mo_press_124 : decode b_Mo_press 124 = .ok (.istore 5, 2) := by decide +kernel
theorem d_Mo_press_126 : decode b_Mo_press 126 = .ok (.iload 5, 2) := by decide +kernel
theorem d_Mo_press_128 : decode b_Mo_press 128 = .ok (.iload_n 2, 1) := by decide +kernel
theorem d_Mo_press_129 : decode b_Mo_press 129 = .ok (.if_icmp .gt 6, 3) := by decide +kernel
theorem d_Mo_press_132 : decode b_Mo_press 132 = .ok (.goto 9, 3) := by decide +kernel
theorem d_Mo_press_135 : decode b_Mo_press 135 = .ok (.iload 5, 2) := by decide +kernel
theorem d_Mo_press_137 : decode b_Mo_press 137 = .ok (.istore_n 2, 1) := by decide +kernel
theorem d_Mo_press_138 : decode b_Mo_press 138 = .ok (.iload 4, 2) := by decide +kernel
theorem d_Mo_press_140 : decode b_Mo_press 140 = .ok (.istore_n 3, 1) := by decide +kernel
theorem d_Mo_press_141 : decode b_Mo_press 141 = .ok (.iinc 4 1, 3) := by decide +kernel
theorem d_Mo_press_144 : decode b_Mo_press 144 = .ok (.goto (-86), 3) := by decide +kernel
theorem d_Mo_press_147 : decode b_Mo_press 147 = .ok (.iload_n 2, 1) := by decide +kernel
theorem d_Mo_press_148 : decode b_Mo_press 148 = .ok (.iconst 3, 1) := by decide +kernel
theorem d_Mo_press_149 : decode b_Mo_press 149 = .ok (.if_icmp .lt 26, 3) := by decide +kernel
theorem d_Mo_press_152 : decode b_Mo_press 152 = .ok (.aload_n 0, 1) := by decide +kernel
theorem d_Mo_press_153 : decode b_Mo_press 153 = .ok (.iload_n 2, 1) := by decide +kernel
theorem d_Mo_press_154 : decode b_Mo_press 154 = .ok (.iload_n 3, 1) := by decide +kernel
theorem d_Mo_press_155 : decode b_Mo_press 155 = .ok (.invokevirtual 95, 3) := by decide +kernel
theorem d_Mo_press_158 : decode b_Mo_press 158 = .ok (.aload_n 0, 1) := by decide +kernel
theorem d_Mo_press_159 : decode b_Mo_press 159 = .ok (.dup, 1) := by decide +kernel
theorem d_Mo_press_160 : decode b_Mo_press 160 = .ok (.getfield 84, 3) := by decide +kernel
theorem d_Mo_press_163 : decode b_Mo_press 163 = .ok (.iconst 1, 1) := by decide +kernel
theorem d_Mo_press_164 : decode b_Mo_press 164 = .ok (.iadd, 1) := by decide +kernel
theorem d_Mo_press_165 : decode b_Mo_press 165 = .ok (.putfield 84, 3) := by decide +kernel
theorem d_Mo_press_168 : decode b_Mo_press 168 = .ok (.iload_n 1, 1) := by decide +kernel
theorem d_Mo_press_169 : decode b_Mo_press 169 = .ok (.iload_n 2, 1) := by decide +kernel
theorem d_Mo_press_170 : decode b_Mo_press 170 = .ok (.iadd, 1) := by decide +kernel
theorem d_Mo_press_171 : decode b_Mo_press 171 = .ok (.istore_n 1, 1) := by decide +kernel
theorem d_Mo_press_172 : decode b_Mo_press 172 = .ok (.goto 30, 3) := by decide +kernel
theorem d_Mo_press_175 : decode b_Mo_press 175 = .ok (.aload_n 0, 1) := by decide +kernel
theorem d_Mo_press_176 : decode b_Mo_press 176 = .ok (.aload_n 0, 1) := by decide +kernel
theorem d_Mo_press_177 : decode b_Mo_press 177 = .ok (.getfield 8, 3) := by decide +kernel
theorem d_Mo_press_180 : decode b_Mo_press 180 = .ok (.iload_n 1, 1) := by decide +kernel
theorem d_Mo_press_181 : decode b_Mo_press 181 = .ok (.baload, 1) := by decide +kernel
theorem d_Mo_press_182 : decode b_Mo_press 182 = .ok (.sipush 255, 3) := by decide +kernel
theorem d_Mo_press_185 : decode b_Mo_press 185 = .ok (.iand, 1) := by decide +kernel
theorem d_Mo_press_186 : decode b_Mo_press 186 = .ok (.invokevirtual 74, 3) := by decide +kernel
theorem d_Mo_press_189 : decode b_Mo_press 189 = .ok (.aload_n 0, 1) := by decide +kernel
theorem d_Mo_press_190 : decode b_Mo_press 190 = .ok (.dup, 1) := by decide +kernel
theorem d_Mo_press_191 : decode b_Mo_press 191 = .ok (.getfield 87, 3) := by decide +kernel
theorem d_Mo_press_194 : decode b_Mo_press 194 = .ok (.iconst 1, 1) := by decide +kernel
theorem d_Mo_press_195 : decode b_Mo_press 195 = .ok (.iadd, 1) := by decide +kernel
theorem d_Mo_press_196 : decode b_Mo_press 196 = .ok (.putfield 87, 3) := by decide +kernel
theorem d_Mo_press_199 : decode b_Mo_press 199 = .ok (.iinc 1 1, 3) := by decide +kernel
theorem d_Mo_press_202 : decode b_Mo_press 202 = .ok (.goto (-159), 3) := by decide +kernel
theorem d_Mo_press_205 : decode b_Mo_press 205 = .ok (.aload_n 0, 1) := by decide +kernel
theorem d_Mo_press_206 : decode b_Mo_press 206 = .ok (.sipush 256, 3) := by decide +kernel
theorem d_Mo_press_209 : decode b_Mo_press 209 = .ok (.invokevirtual 74, 3) := by decide +kernel
theorem d_Mo_press_212 : decode b_Mo_press 212 = .ok (.aload_n 0, 1) := by decide +kernel
theorem d_Mo_press_213 : decode b_Mo_press 213 = .ok (.iconst 2, 1) := by decide +kernel
theorem d_Mo_press_214 : decode b_Mo_press 214 = .ok (.aload_n 0, 1) := by decide +kernel
theorem d_Mo_press_215 : decode b_Mo_press 215 = .ok (.getfield 54, 3) := by decide +kernel
theorem d_Mo_press_218 : decode b_Mo_press 218 = .ok (.bipush 7, 2) := by decide +kernel
theorem d_Mo_press_220 : decode b_Mo_press 220 = .ok (.iadd, 1) := by decide +kernel
theorem d_Mo_press_221 : decode b_Mo_press 221 = .ok (.bipush 8, 2) := by decide +kernel
theorem d_Mo_press_223 : decode b_Mo_press 223 = .ok (.idiv, 1) := by decide +kernel
theorem d_Mo_press_224 : decode b_Mo_press 224 = .ok (.iadd, 1) := by decide +kernel
theorem d_Mo_press_225 : decode b_Mo_press 225 = .ok (.putfield 98, 3) := by decide +kernel
theorem d_Mo_press_228 : decode b_Mo_press 228 = .ok (.aload_n 0, 1) := by decide +kernel
theorem d_Mo_press_229 : decode b_Mo_press 229 = .ok (.aload_n 0, 1) := by decide +kernel
theorem d_Mo_press_230 : decode b_Mo_press 230 = .ok (.getfield 8, 3) := by decide +kernel
theorem d_Mo_press_233 : decode b_Mo_press 233 = .ok (.aload_n 0, 1) := by decide +kernel
theorem d_Mo_press_234 : decode b_Mo_press 234 = .ok (.getfield 47, 3) := by decide +kernel
theorem d_Mo_press_237 : decode b_Mo_press 237 = .ok (.invokevirtual 101, 3) := by decide +kernel
theorem d_Mo_press_240 : decode b_Mo_press 240 = .ok (.istore_n 2, 1) := by decide +kernel
theorem d_Mo_press_241 : decode b_Mo_press 241 = .ok (.bipush 24, 2) := by decide +kernel
theorem d_Mo_press_243 : decode b_Mo_press 243 = .ok (.istore_n 3, 1) := by decide +kernel
theorem d_Mo_press_244 : decode b_Mo_press 244 = .ok (.iload_n 3, 1) := by decide +kernel
theorem d_Mo_press_245 : decode b_Mo_press 245 = .ok (.ifCond .lt 32, 3) := by decide +kernel
theorem d_Mo_press_248 : decode b_Mo_press 248 = .ok (.aload_n 0, 1) := by decide +kernel
theorem d_Mo_press_249 : decode b_Mo_press 249 = .ok (.getfield 15, 3) := by decide +kernel
theorem d_Mo_press_252 : decode b_Mo_press 252 = .ok (.aload_n 0, 1) := by decide +kernel
theorem d_Mo_press_253 : decode b_Mo_press 253 = .ok (.getfield 98, 3) := by decide +kernel
theorem d_Mo_press_256 : decode b_Mo_press 256 = .ok (.iload_n 2, 1) := by decide +kernel
theorem d_Mo_press_257 : decode b_Mo_press 257 = .ok (.iload_n 3, 1) := by decide +kernel
theorem d_Mo_press_258 : decode b_Mo_press 258 = .ok (.iushr, 1) := by decide +kernel
theorem d_Mo_press_259 : decode b_Mo_press 259 = .ok (.i2b, 1) := by decide +kernel
theorem d_Mo_press_260 : decode b_Mo_press 260 = .ok (.bastore, 1) := by decide +kernel
theorem d_Mo_press_261 : decode b_Mo_press 261 = .ok (.aload_n 0, 1) := by decide +kernel
theorem d_Mo_press_262 : decode b_Mo_press 262 = .ok (.dup, 1) := by decide +kernel
theorem d_Mo_press_263 : decode b_Mo_press 263 = .ok (.getfield 98, 3) := by decide +kernel
theorem d_Mo_press_266 : decode b_Mo_press 266 = .ok (.iconst 1, 1) := by decide +kernel
theorem d_Mo_press_267 : decode b_Mo_press 267 = .ok (.iadd, 1) := by decide +kernel
theorem d_Mo_press_268 : decode b_Mo_press 268 = .ok (.putfield 98, 3) := by decide +kernel
theorem d_Mo_press_271 : decode b_Mo_press 271 = .ok (.iinc 3 (-8), 3) := by decide +kernel
theorem d_Mo_press_274 : decode b_Mo_press 274 = .ok (.goto (-30), 3) := by decide +kernel
theorem d_Mo_press_277 : decode b_Mo_press 277 = .ok (.aload_n 0, 1) := by decide +kernel
theorem d_Mo_press_278 : decode b_Mo_press 278 = .ok (.getfield 98, 3) := by decide +kernel
theorem d_Mo_press_281 : decode b_Mo_press 281 = .ok (.ireturn, 1) := by decide +kernel
theorem d_Mo_bit_0 : decode b_Mo_bit 0 = .ok (.aload_n 0, 1) := by decide +kernel
theorem d_Mo_bit_1 : decode b_Mo_bit 1 = .ok (.getfield 105, 3) := by decide +kernel
theorem d_Mo_bit_4 : decode b_Mo_bit 4 = .ok (.aload_n 0, 1) := by decide +kernel
theorem d_Mo_bit_5 : decode b_Mo_bit 5 = .ok (.getfield 47, 3) := by decide +kernel
theorem d_Mo_bit_8 : decode b_Mo_bit 8 = .ok (.bipush 8, 2) := by decide +kernel
theorem d_Mo_bit_10 : decode b_Mo_bit 10 = .ok (.imul, 1) := by decide +kernel
theorem d_Mo_bit_11 : decode b_Mo_bit 11 = .ok (.if_icmp .lt 10, 3) := by decide +kernel
theorem d_Mo_bit_14 : decode b_Mo_bit 14 = .ok (.aload_n 0, 1) := by decide +kernel
theorem d_Mo_bit_15 : decode b_Mo_bit 15 = .ok (.iconst 1, 1) := by decide +kernel
theorem d_Mo_bit_16 : decode b_Mo_bit 16 = .ok (.putfield 108, 3) := by decide +kernel
theorem d_Mo_bit_19 : decode b_Mo_bit 19 = .ok (.iconst 0, 1) := by decide +kernel
theorem d_Mo_bit_20 : decode b_Mo_bit 20 = .ok (.ireturn, 1) := by decide +kernel
theorem d_Mo_bit_21 : decode b_Mo_bit 21 = .ok (.aload_n 0, 1) := by decide +kernel
theorem d_Mo_bit_22 : decode b_Mo_bit 22 = .ok (.dup, 1) := by decide +kernel
theorem d_Mo_bit_23 : decode b_Mo_bit 23 = .ok (.getfield 105, 3) := by decide +kernel
