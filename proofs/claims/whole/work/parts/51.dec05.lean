theorem d_Mo_bit_26 : decode b_Mo_bit 26 = .ok (.iconst 1, 1) := by decide +kernel
theorem d_Mo_bit_27 : decode b_Mo_bit 27 = .ok (.iadd, 1) := by decide +kernel
theorem d_Mo_bit_28 : decode b_Mo_bit 28 = .ok (.putfield 105, 3) := by decide +kernel
theorem d_Mo_bit_31 : decode b_Mo_bit 31 = .ok (.aload_n 0, 1) := by decide +kernel
theorem d_Mo_bit_32 : decode b_Mo_bit 32 = .ok (.getfield 8, 3) := by decide +kernel
theorem d_Mo_bit_35 : decode b_Mo_bit 35 = .ok (.aload_n 0, 1) := by decide +kernel
theorem d_Mo_bit_36 : decode b_Mo_bit 36 = .ok (.getfield 105, 3) := by decide +kernel
theorem d_Mo_bit_39 : decode b_Mo_bit 39 = .ok (.iconst 1, 1) := by decide +kernel
theorem d_Mo_bit_40 : decode b_Mo_bit 40 = .ok (.isub, 1) := by decide +kernel
theorem d_Mo_bit_41 : decode b_Mo_bit 41 = .ok (.bipush 8, 2) := by decide +kernel
theorem d_Mo_bit_43 : decode b_Mo_bit 43 = .ok (.idiv, 1) := by decide +kernel
theorem d_Mo_bit_44 : decode b_Mo_bit 44 = .ok (.baload, 1) := by decide +kernel
theorem d_Mo_bit_45 : decode b_Mo_bit 45 = .ok (.aload_n 0, 1) := by decide +kernel
theorem d_Mo_bit_46 : decode b_Mo_bit 46 = .ok (.getfield 105, 3) := by decide +kernel
theorem d_Mo_bit_49 : decode b_Mo_bit 49 = .ok (.iconst 1, 1) := by decide +kernel
theorem d_Mo_bit_50 : decode b_Mo_bit 50 = .ok (.isub, 1) := by decide +kernel
theorem d_Mo_bit_51 : decode b_Mo_bit 51 = .ok (.bipush 8, 2) := by decide +kernel
theorem d_Mo_bit_53 : decode b_Mo_bit 53 = .ok (.irem, 1) := by decide +kernel
theorem d_Mo_bit_54 : decode b_Mo_bit 54 = .ok (.iushr, 1) := by decide +kernel
theorem d_Mo_bit_55 : decode b_Mo_bit 55 = .ok (.iconst 1, 1) := by decide +kernel
theorem d_Mo_bit_56 : decode b_Mo_bit 56 = .ok (.iand, 1) := by decide +kernel
theorem d_Mo_bit_57 : decode b_Mo_bit 57 = .ok (.ireturn, 1) := by decide +kernel
theorem d_Mo_number_0 : decode b_Mo_number 0 = .ok (.iconst 0, 1) := by decide +kernel
theorem d_Mo_number_1 : decode b_Mo_number 1 = .ok (.istore_n 2, 1) := by decide +kernel
theorem d_Mo_number_2 : decode b_Mo_number 2 = .ok (.iconst 0, 1) := by decide +kernel
theorem d_Mo_number_3 : decode b_Mo_number 3 = .ok (.istore_n 3, 1) := by decide +kernel
theorem d_Mo_number_4 : decode b_Mo_number 4 = .ok (.iload_n 3, 1) := by decide +kernel
theorem d_Mo_number_5 : decode b_Mo_number 5 = .ok (.iload_n 1, 1) := by decide +kernel
theorem d_Mo_number_6 : decode b_Mo_number 6 = .ok (.if_icmp .ge 18, 3) := by decide +kernel
theorem d_Mo_number_9 : decode b_Mo_number 9 = .ok (.iload_n 2, 1) := by decide +kernel
theorem d_Mo_number_10 : decode b_Mo_number 10 = .ok (.aload_n 0, 1) := by decide +kernel
theorem d_Mo_number_11 : decode b_Mo_number 11 = .ok (.invokevirtual 112, 3) := by decide +kernel
theorem d_Mo_number_14 : decode b_Mo_number 14 = .ok (.iload_n 3, 1) := by decide +kernel
theorem d_Mo_number_15 : decode b_Mo_number 15 = .ok (.ishl, 1) := by decide +kernel
theorem d_Mo_number_16 : decode b_Mo_number 16 = .ok (.ior, 1) := by decide +kernel
theorem d_Mo_number_17 : decode b_Mo_number 17 = .ok (.istore_n 2, 1) := by decide +kernel
theorem d_Mo_number_18 : decode b_Mo_number 18 = .ok (.iinc 3 1, 3) := by decide +kernel
theorem d_Mo_number_21 : decode b_Mo_number 21 = .ok (.goto (-17), 3) := by decide +kernel
theorem d_Mo_number_24 : decode b_Mo_number 24 = .ok (.iload_n 2, 1) := by decide +kernel
theorem d_Mo_number_25 : decode b_Mo_number 25 = .ok (.ireturn, 1) := by decide +kernel
theorem d_Mo_assign_0 : decode b_Mo_assign 0 = .ok (.iconst 0, 1) := by decide +kernel
theorem d_Mo_assign_1 : decode b_Mo_assign 1 = .ok (.istore_n 3, 1) := by decide +kernel
theorem d_Mo_assign_2 : decode b_Mo_assign 2 = .ok (.iload_n 3, 1) := by decide +kernel
theorem d_Mo_assign_3 : decode b_Mo_assign 3 = .ok (.bipush 17, 2) := by decide +kernel
theorem d_Mo_assign_5 : decode b_Mo_assign 5 = .ok (.if_icmp .ge 16, 3) := by decide +kernel
theorem d_Mo_assign_8 : decode b_Mo_assign 8 = .ok (.aload_n 0, 1) := by decide +kernel
theorem d_Mo_assign_9 : decode b_Mo_assign 9 = .ok (.getfield 31, 3) := by decide +kernel
theorem d_Mo_assign_12 : decode b_Mo_assign 12 = .ok (.iload_n 3, 1) := by decide +kernel
theorem d_Mo_assign_13 : decode b_Mo_assign 13 = .ok (.iconst 0, 1) := by decide +kernel
theorem d_Mo_assign_14 : decode b_Mo_assign 14 = .ok (.iastore, 1) := by decide +kernel
theorem d_Mo_assign_15 : decode b_Mo_assign 15 = .ok (.iinc 3 1, 3) := by decide +kernel
theorem d_Mo_assign_18 : decode b_Mo_assign 18 = .ok (.goto (-16), 3) := by decide +kernel
theorem d_Mo_assign_21 : decode b_Mo_assign 21 = .ok (.iconst 0, 1) := by decide +kernel
theorem d_Mo_assign_22 : decode b_Mo_assign 22 = .ok (.istore_n 3, 1) := by decide +kernel
theorem d_Mo_assign_23 : decode b_Mo_assign 23 = .ok (.iload_n 3, 1) := by decide +kernel
theorem d_Mo_assign_24 : decode b_Mo_assign 24 = .ok (.iload_n 2, 1) := by decide +kernel
theorem d_Mo_assign_25 : decode b_Mo_assign 25 = .ok (.if_icmp .ge 37, 3) := by decide +kernel
theorem d_Mo_assign_28 : decode b_Mo_assign 28 = .ok (.aload_n 0, 1) := by decide +kernel
theorem d_Mo_assign_29 : decode b_Mo_assign 29 = .ok (.getfield 21, 3) := by decide +kernel
theorem d_Mo_assign_32 : decode b_Mo_assign 32 = .ok (.iload_n 1, 1) := by decide +kernel
theorem d_Mo_assign_33 : decode b_Mo_assign 33 = .ok (.iload_n 3, 1) := by decide +kernel
theorem d_Mo_assign_34 : decode b_Mo_assign 34 = .ok (.iadd, 1) := by decide +kernel
theorem d_Mo_assign_35 : decode b_Mo_assign 35 = .ok (.iaload, 1) := by decide +kernel
theorem d_Mo_assign_36 : decode b_Mo_assign 36 = .ok (.ifCond .le 20, 3) := by decide +kernel
theorem d_Mo_assign_39 : decode b_Mo_assign 39 = .ok (.aload_n 0, 1) := by decide +kernel
theorem d_Mo_assign_40 : decode b_Mo_assign 40 = .ok (.getfield 31, 3) := by decide +kernel
theorem d_Mo_assign_43 : decode b_Mo_assign 43 = .ok (.aload_n 0, 1) := by decide +kernel
theorem d_Mo_assign_44 : decode b_Mo_assign 44 = .ok (.getfield 21, 3) := by decide +kernel
theorem d_Mo_assign_47 : decode b_Mo_assign 47 = .ok (.iload_n 1, 1) := by decide +kernel
theorem d_Mo_assign_48 : decode b_Mo_assign 48 = .ok (.iload_n 3, 1) := by decide +kernel
theorem d_Mo_assign_49 : decode b_Mo_assign 49 = .ok (.iadd, 1) := by decide +kernel
theorem d_Mo_assign_50 : decode b_Mo_assign 50 = .ok (.iaload, 1) := by decide +kernel
theorem d_Mo_assign_51 : decode b_Mo_assign 51 = .ok (.dup2, 1) := by decide +kernel
theorem d_Mo_assign_52 : decode b_Mo_assign 52 = .ok (.iaload, 1) := by decide +kernel
theorem d_Mo_assign_53 : decode b_Mo_assign 53 = .ok (.iconst 1, 1) := by decide +kernel
theorem d_Mo_assign_54 : decode b_Mo_assign 54 = .ok (.iadd, 1) := by decide +kernel
theorem d_Mo_assign_55 : decode b_Mo_assign 55 = .ok (.iastore, 1) := by decide +kernel
theorem d_Mo_assign_56 : decode b_Mo_assign 56 = .ok (.iinc 3 1, 3) := by decide +kernel
theorem d_Mo_assign_59 : decode b_Mo_assign 59 = .ok (.goto (-36), 3) := by decide +kernel
theorem d_Mo_assign_62 : decode b_Mo_assign 62 = .ok (.iconst 0, 1) := by decide +kernel
theorem d_Mo_assign_63 : decode b_Mo_assign 63 = .ok (.istore_n 3, 1) := by decide +kernel
theorem d_Mo_assign_64 : decode b_Mo_assign 64 = .ok (.iconst 1, 1) := by decide +kernel
theorem d_Mo_assign_65 : decode b_Mo_assign 65 = .ok (.istore 4, 2) := by decide +kernel
theorem d_Mo_assign_67 : decode b_Mo_assign 67 = .ok (.iload 4, 2) := by decide +kernel
theorem d_Mo_assign_69 : decode b_Mo_assign 69 = .ok (.bipush 17, 2) := by decide +kernel
theorem d_Mo_assign_71 : decode b_Mo_assign 71 = .ok (.if_icmp .ge 31, 3) := by decide +kernel
theorem d_Mo_assign_74 : decode b_Mo_assign 74 = .ok (.iload_n 3, 1) := by decide +kernel
theorem d_Mo_assign_75 : decode b_Mo_assign 75 = .ok (.aload_n 0, 1) := by decide +kernel
theorem d_Mo_assign_76 : decode b_Mo_assign 76 = .ok (.getfield 31, 3) := by decide +kernel
theorem d_Mo_assign_79 : decode b_Mo_assign 79 = .ok (.iload 4, 2) := by decide +kernel
theorem d_Mo_assign_81 : decode b_Mo_assign 81 = .ok (.iconst 1, 1) := by decide +kernel
theorem d_Mo_assign_82 : decode b_Mo_assign 82 = .ok (.isub, 1) := by decide +kernel
theorem d_Mo_assign_83 : decode b_Mo_assign 83 = .ok (.iaload, 1) := by decide +kernel
theorem d_Mo_assign_84 : decode b_Mo_assign 84 = .ok (.iadd, 1) := by decide +kernel
theorem d_Mo_assign_85 : decode b_Mo_assign 85 = .ok (.iconst 1, 1) := by decide +kernel
theorem d_Mo_assign_86 : decode b_Mo_assign 86 = .ok (.ishl, 1) := by decide +kernel
theorem d_Mo_assign_87 : decode b_Mo_assign 87 = .ok (.istore_n 3, 1) := by decide +kernel
theorem d_Mo_assign_88 : decode b_Mo_assign 88 = .ok (.aload_n 0, 1) := by decide +kernel
theorem d_Mo_assign_89 : decode b_Mo_assign 89 = .ok (.getfield 34, 3) := by decide +kernel
theorem d_Mo_assign_92 : decode b_Mo_assign 92 = .ok (.iload 4, 2) := by decide +kernel
theorem d_Mo_assign_94 : decode b_Mo_assign 94 = .ok (.iload_n 3, 1) := by decide +kernel
theorem d_Mo_assign_95 : decode b_Mo_assign 95 = .ok (.iastore, 1) := by decide +kernel
theorem d_Mo_assign_96 : decode b_Mo_assign 96 = .ok (.iinc 4 1, 3) := by decide +kernel
theorem d_Mo_assign_99 : decode b_Mo_assign 99 = .ok (.goto (-32), 3) := by decide +kernel
theorem d_Mo_assign_102 : decode b_Mo_assign 102 = .ok (.iconst 0, 1) := by decide +kernel
theorem d_Mo_assign_103 : decode b_Mo_assign 103 = .ok (.istore 4, 2) := by decide +kernel
theorem d_Mo_assign_105 : decode b_Mo_assign 105 = .ok (.iload 4, 2) := by decide +kernel
theorem d_Mo_assign_107 : decode b_Mo_assign 107 = .ok (.iload_n 2, 1) := by decide +kernel
theorem d_Mo_assign_108 : decode b_Mo_assign 108 = .ok (.if_icmp .ge 52, 3) := by decide +kernel
theorem d_Mo_assign_111 : decode b_Mo_assign 111 = .ok (.aload_n 0, 1) := by decide +kernel
theorem d_Mo_assign_112 : decode b_Mo_assign 112 = .ok (.getfield 21, 3) := by decide +kernel
theorem d_Mo_assign_115 : decode b_Mo_assign 115 = .ok (.iload_n 1, 1) := by decide +kernel
theorem d_Mo_assign_116 : decode b_Mo_assign 116 = .ok (.iload 4, 2) := by decide +kernel
theorem d_Mo_assign_118 : decode b_Mo_assign 118 = .ok (.iadd, 1) := by decide +kernel
theorem d_Mo_assign_119 : decode b_Mo_assign 119 = .ok (.iaload, 1) := by decide +kernel
theorem d_Mo_assign_120 : decode b_Mo_assign 120 = .ok (.istore 5, 2) := by decide +kernel
theorem d_Mo_assign_122 : decode b_Mo_assign 122 = .ok (.aload_n 0, 1) := by decide +kernel
theorem d_Mo_assign_123 : decode b_Mo_assign 123 = .ok (.getfield 25, 3) := by decide +kernel
theorem d_Mo_assign_126 : decode b_Mo_assign 126 = .ok (.iload_n 1, 1) := by decide +kernel
theorem d_Mo_assign_127 : decode b_Mo_assign 127 = .ok (.iload 4, 2) := by decide +kernel
theorem d_Mo_assign_129 : decode b_Mo_assign 129 = .ok (.iadd, 1) := by decide +kernel
theorem d_Mo_assign_130 : decode b_Mo_assign 130 = .ok (.aload_n 0, 1) := by decide +kernel
theorem d_Mo_assign_131 : decode b_Mo_assign 131 = .ok (.getfield 34, 3) := by decide +kernel
theorem d_Mo_assign_134 : decode b_Mo_assign 134 = .ok (.iload 5, 2) := by decide +kernel
theorem d_Mo_assign_136 : decode b_Mo_assign 136 = .ok (.iaload, 1) := by decide +kernel
theorem d_Mo_assign_137 : decode b_Mo_assign 137 = .ok (.iastore, 1) := by decide +kernel
theorem d_Mo_assign_138 : decode b_Mo_assign 138 = .ok (.iload 5, 2) := by decide +kernel
theorem d_Mo_assign_140 : decode b_Mo_assign 140 = .ok (.ifCond .le 14, 3) := by decide +kernel
theorem d_Mo_assign_143 : decode b_Mo_assign 143 = .ok (.aload_n 0, 1) := by decide +kernel
theorem d_Mo_assign_144 : decode b_Mo_assign 144 = .ok (.getfield 34, 3) := by decide +kernel
theorem d_Mo_assign_147 : decode b_Mo_assign 147 = .ok (.iload 5, 2) := by decide +kernel
theorem d_Mo_assign_149 : decode b_Mo_assign 149 = .ok (.dup2, 1) := by decide +kernel
theorem d_Mo_assign_150 : decode b_Mo_assign 150 = .ok (.iaload, 1) := by decide +kernel
theorem d_Mo_assign_151 : decode b_Mo_assign 151 = .ok (.iconst 1, 1) := by decide +kernel
theorem d_Mo_assign_152 : decode b_Mo_assign 152 = .ok (.iadd, 1) := by decide +kernel
theorem d_Mo_assign_153 : decode b_Mo_assign 153 = .ok (.iastore, 1) := by decide +kernel
theorem d_Mo_assign_154 : decode b_Mo_assign 154 = .ok (.iinc 4 1, 3) := by decide +kernel
theorem d_Mo_assign_157 : decode b_Mo_assign 157 = .ok (.goto (-52), 3) := by decide +kernel
theorem d_Mo_assign_160 : decode b_Mo_assign 160 = .ok (.return_, 1) := by decide +kernel
theorem d_Mo_fill_0 : decode b_Mo_fill 0 = .ok (.iconst 0, 1) := by decide +kernel
theorem d_Mo_fill_1 : decode b_Mo_fill 1 = .ok (.istore_n 3, 1) := by decide +kernel
theorem d_Mo_fill_2 : decode b_Mo_fill 2 = .ok (.iconst 0, 1) := by decide +kernel
theorem d_Mo_fill_3 : decode b_Mo_fill 3 = .ok (.istore 4, 2) := by decide +kernel
theorem d_Mo_fill_5 : decode b_Mo_fill 5 = .ok (.iload 4, 2) := by decide +kernel
theorem d_Mo_fill_7 : decode b_Mo_fill 7 = .ok (.iload_n 2, 1) := by decide +kernel
theorem d_Mo_fill_8 : decode b_Mo_fill 8 = .ok (.if_icmp .ge 36, 3) := by decide +kernel
theorem d_Mo_fill_11 : decode b_Mo_fill 11 = .ok (.aload_n 0, 1) := by decide +kernel
theorem d_Mo_fill_12 : decode b_Mo_fill 12 = .ok (.getfield 21, 3) := by decide +kernel
theorem d_Mo_fill_15 : decode b_Mo_fill 15 = .ok (.iload_n 1, 1) := by decide +kernel
theorem d_Mo_fill_16 : decode b_Mo_fill 16 = .ok (.iload 4, 2) := by decide +kernel
theorem d_Mo_fill_18 : decode b_Mo_fill 18 = .ok (.iadd, 1) := by decide +kernel
theorem d_Mo_fill_19 : decode b_Mo_fill 19 = .ok (.iaload, 1) := by decide +kernel
theorem d_Mo_fill_20 : decode b_Mo_fill 20 = .ok (.ifCond .le 18, 3) := by decide +kernel
theorem d_Mo_fill_23 : decode b_Mo_fill 23 = .ok (.iload_n 3, 1) := by decide +kernel
theorem d_Mo_fill_24 : decode b_Mo_fill 24 = .ok (.ldc 90, 2) := by decide +kernel
theorem d_Mo_fill_26 : decode b_Mo_fill 26 = .ok (.aload_n 0, 1) := by decide +kernel
theorem d_Mo_fill_27 : decode b_Mo_fill 27 = .ok (.getfield 21, 3) := by decide +kernel
theorem d_Mo_fill_30 : decode b_Mo_fill 30 = .ok (.iload_n 1, 1) := by decide +kernel
theorem d_Mo_fill_31 : decode b_Mo_fill 31 = .ok (.iload 4, 2) := by decide +kernel
theorem d_Mo_fill_33 : decode b_Mo_fill 33 = .ok (.iadd, 1) := by decide +kernel
theorem d_Mo_fill_34 : decode b_Mo_fill 34 = .ok (.iaload, 1) := by decide +kernel
theorem d_Mo_fill_35 : decode b_Mo_fill 35 = .ok (.ishr, 1) := by decide +kernel
theorem d_Mo_fill_36 : decode b_Mo_fill 36 = .ok (.iadd, 1) := by decide +kernel
theorem d_Mo_fill_37 : decode b_Mo_fill 37 = .ok (.istore_n 3, 1) := by decide +kernel
theorem d_Mo_fill_38 : decode b_Mo_fill 38 = .ok (.iinc 4 1, 3) := by decide +kernel
theorem d_Mo_fill_41 : decode b_Mo_fill 41 = .ok (.goto (-36), 3) := by decide +kernel
theorem d_Mo_fill_44 : decode b_Mo_fill 44 = .ok (.iload_n 3, 1) := by decide +kernel
theorem d_Mo_fill_45 : decode b_Mo_fill 45 = .ok (.ireturn, 1) := by decide +kernel
theorem d_Mo_sign_0 : decode b_Mo_sign 0 = .ok (.iconst 0, 1) := by decide +kernel
theorem d_Mo_sign_1 : decode b_Mo_sign 1 = .ok (.istore_n 3, 1) := by decide +kernel
theorem d_Mo_sign_2 : decode b_Mo_sign 2 = .ok (.iconst 1, 1) := by decide +kernel
theorem d_Mo_sign_3 : decode b_Mo_sign 3 = .ok (.istore 4, 2) := by decide +kernel
theorem d_Mo_sign_5 : decode b_Mo_sign 5 = .ok (.iload 4, 2) := by decide +kernel
theorem d_Mo_sign_7 : decode b_Mo_sign 7 = .ok (.bipush 16, 2) := by decide +kernel
theorem d_Mo_sign_9 : decode b_Mo_sign 9 = .ok (.if_icmp .ge 77, 3) := by decide +kernel
theorem d_Mo_sign_12 : decode b_Mo_sign 12 = .ok (.aload_n 0, 1) := by decide +kernel
theorem d_Mo_sign_13 : decode b_Mo_sign 13 = .ok (.getfield 108, 3) := by decide +kernel
theorem d_Mo_sign_16 : decode b_Mo_sign 16 = .ok (.ifCond .ne 70, 3) := by decide +kernel
theorem d_Mo_sign_19 : decode b_Mo_sign 19 = .ok (.iload_n 3, 1) := by decide +kernel
theorem d_Mo_sign_20 : decode b_Mo_sign 20 = .ok (.iconst 1, 1) := by decide +kernel
theorem d_Mo_sign_21 : decode b_Mo_sign 21 = .ok (.ishl, 1) := by decide +kernel
theorem d_Mo_sign_22 : decode b_Mo_sign 22 = .ok (.aload_n 0, 1) := by decide +kernel
theorem d_Mo_sign_23 : decode b_Mo_sign 23 = .ok (.invokevirtual 112, 3) := by decide +kernel
theorem d_Mo_sign_26 : decode b_Mo_sign 26 = .ok (.ior, 1) := by decide +kernel
theorem d_Mo_sign_27 : decode b_Mo_sign 27 = .ok (.istore_n 3, 1) := by decide +kernel
theorem d_Mo_sign_28 : decode b_Mo_sign 28 = .ok (.iconst 0, 1) := by decide +kernel
theorem d_Mo_sign_29 : decode b_Mo_sign 29 = .ok (.istore 5, 2) := by decide +kernel
theorem d_Mo_sign_31 : decode b_Mo_sign 31 = .ok (.iload 5, 2) := by decide +kernel
theorem d_Mo_sign_33 : decode b_Mo_sign 33 = .ok (.iload_n 2, 1) := by decide +kernel
theorem d_Mo_sign_34 : decode b_Mo_sign 34 = .ok (.if_icmp .ge 46, 3) := by decide +kernel
theorem d_Mo_sign_37 : decode b_Mo_sign 37 = .ok (.aload_n 0, 1) := by decide +kernel
theorem d_Mo_sign_38 : decode b_Mo_sign 38 = .ok (.getfield 108, 3) := by decide +kernel
theorem d_Mo_sign_41 : decode b_Mo_sign 41 = .ok (.ifCond .ne 39, 3) := by decide +kernel
theorem d_Mo_sign_44 : decode b_Mo_sign 44 = .ok (.aload_n 0, 1) := by decide +kernel
theorem d_Mo_sign_45 : decode b_Mo_sign 45 = .ok (.getfield 21, 3) := by decide +kernel
theorem d_Mo_sign_48 : decode b_Mo_sign 48 = .ok (.iload_n 1, 1) := by decide +kernel
theorem d_Mo_sign_49 : decode b_Mo_sign 49 = .ok (.iload 5, 2) := by decide +kernel
theorem d_Mo_sign_51 : decode b_Mo_sign 51 = .ok (.iadd, 1) := by decide +kernel
theorem d_Mo_sign_52 : decode b_Mo_sign 52 = .ok (.iaload, 1) := by decide +kernel
theorem d_Mo_sign_53 : decode b_Mo_sign 53 = .ok (.iload 4, 2) := by decide +kernel
theorem d_Mo_sign_55 : decode b_Mo_sign 55 = .ok (.if_icmp .ne 19, 3) := by decide +kernel
theorem d_Mo_sign_58 : decode b_Mo_sign 58 = .ok (.aload_n 0, 1) := by decide +kernel
theorem d_Mo_sign_59 : decode b_Mo_sign 59 = .ok (.getfield 25, 3) := by decide +kernel
theorem d_Mo_sign_62 : decode b_Mo_sign 62 = .ok (.iload_n 1, 1) := by decide +kernel
theorem d_Mo_sign_63 : decode b_Mo_sign 63 = .ok (.iload 5, 2) := by decide +kernel
theorem d_Mo_sign_65 : decode b_Mo_sign 65 = .ok (.iadd, 1) := by decide +kernel
theorem d_Mo_sign_66 : decode b_Mo_sign 66 = .ok (.iaload, 1) := by decide +kernel
theorem d_Mo_sign_67 : decode b_Mo_sign 67 = .ok (.iload_n 3, 1) := by decide +kernel
theorem d_Mo_sign_68 : decode b_Mo_sign 68 = .ok (.if_icmp .ne 6, 3) := by decide +kernel
theorem d_Mo_sign_71 : decode b_Mo_sign 71 = .ok (.iload 5, 2) := by decide +kernel
theorem d_Mo_sign_73 : decode b_Mo_sign 73 = .ok (.ireturn, 1) := by decide +kernel
theorem d_Mo_sign_74 : decode b_Mo_sign 74 = .ok (.iinc 5 1, 3) := by decide +kernel
theorem d_Mo_sign_77 : decode b_Mo_sign 77 = .ok (.goto (-46), 3) := by decide +kernel
theorem d_Mo_sign_80 : decode b_Mo_sign 80 = .ok (.iinc 4 1, 3) := by decide +kernel
theorem d_Mo_sign_83 : decode b_Mo_sign 83 = .ok (.goto (-78), 3) := by decide +kernel
theorem d_Mo_sign_86 : decode b_Mo_sign 86 = .ok (.aload_n 0, 1) := by decide +kernel
theorem d_Mo_sign_87 : decode b_Mo_sign 87 = .ok (.iconst 1, 1) := by decide +kernel
theorem d_Mo_sign_88 : decode b_Mo_sign 88 = .ok (.putfield 108, 3) := by decide +kernel
theorem d_Mo_sign_91 : decode b_Mo_sign 91 = .ok (.iconst (-1), 1) := by decide +kernel
theorem d_Mo_sign_92 : decode b_Mo_sign 92 = .ok (.ireturn, 1) := by decide +kernel
theorem d_Mo_give_0 : decode b_Mo_give 0 = .ok (.aload_n 0, 1) := by decide +kernel
theorem d_Mo_give_1 : decode b_Mo_give 1 = .ok (.getfield 116, 3) := by decide +kernel
theorem d_Mo_give_4 : decode b_Mo_give 4 = .ok (.ldc 7, 2) := by decide +kernel
theorem d_Mo_give_6 : decode b_Mo_give 6 = .ok (.if_icmp .ne 8, 3) := by decide +kernel
theorem d_Mo_give_9 : decode b_Mo_give 9 = .ok (.aload_n 0, 1) := by decide +kernel
theorem d_Mo_give_10 : decode b_Mo_give 10 = .ok (.iconst 1, 1) := by decide +kernel
theorem d_Mo_give_11 : decode b_Mo_give 11 = .ok (.putfield 108, 3) := by decide +kernel
theorem d_Mo_give_14 : decode b_Mo_give 14 = .ok (.aload_n 0, 1) := by decide +kernel
theorem d_Mo_give_15 : decode b_Mo_give 15 = .ok (.getfield 108, 3) := by decide +kernel
theorem d_Mo_give_18 : decode b_Mo_give 18 = .ok (.ifCond .eq 4, 3) := by decide +kernel
theorem d_Mo_give_21 : decode b_Mo_give 21 = .ok (.return_, 1) := by decide +kernel
theorem d_Mo_give_22 : decode b_Mo_give 22 = .ok (.aload_n 0, 1) := by decide +kernel
theorem d_Mo_give_23 : decode b_Mo_give 23 = .ok (.getfield 18, 3) := by decide +kernel
theorem d_Mo_give_26 : decode b_Mo_give 26 = .ok (.aload_n 0, 1) := by decide +kernel
theorem d_Mo_give_27 : decode b_Mo_give 27 = .ok (.getfield 116, 3) := by decide +kernel
theorem d_Mo_give_30 : decode b_Mo_give 30 = .ok (.iload_n 1, 1) := by decide +kernel
theorem d_Mo_give_31 : decode b_Mo_give 31 = .ok (.i2b, 1) := by decide +kernel
theorem d_Mo_give_32 : decode b_Mo_give 32 = .ok (.bastore, 1) := by decide +kernel
theorem d_Mo_give_33 : decode b_Mo_give 33 = .ok (.aload_n 0, 1) := by decide +kernel
theorem d_Mo_give_34 : decode b_Mo_give 34 = .ok (.dup, 1) := by decide +kernel
theorem d_Mo_give_35 : decode b_Mo_give 35 = .ok (.getfield 116, 3) := by decide +kernel
theorem d_Mo_give_38 : decode b_Mo_give 38 = .ok (.iconst 1, 1) := by decide +kernel
theorem d_Mo_give_39 : decode b_Mo_give 39 = .ok (.iadd, 1) := by decide +kernel
theorem d_Mo_give_40 : decode b_Mo_give 40 = .ok (.putfield 116, 3) := by decide +kernel
theorem d_Mo_give_43 : decode b_Mo_give 43 = .ok (.return_, 1) := by decide +kernel
theorem d_Mo_pair_0 : decode b_Mo_pair 0 = .ok (.iload_n 1, 1) := by decide +kernel
theorem d_Mo_pair_1 : decode b_Mo_pair 1 = .ok (.sipush 285, 3) := by decide +kernel
theorem d_Mo_pair_4 : decode b_Mo_pair 4 = .ok (.if_icmp .le 8, 3) := by decide +kernel
theorem d_Mo_pair_7 : decode b_Mo_pair 7 = .ok (.aload_n 0, 1) := by decide +kernel
theorem d_Mo_pair_8 : decode b_Mo_pair 8 = .ok (.iconst 1, 1) := by decide +kernel
theorem d_Mo_pair_9 : decode b_Mo_pair 9 = .ok (.putfield 108, 3) := by decide +kernel
theorem d_Mo_pair_12 : decode b_Mo_pair 12 = .ok (.aload_n 0, 1) := by decide +kernel
theorem d_Mo_pair_13 : decode b_Mo_pair 13 = .ok (.getfield 108, 3) := by decide +kernel
theorem d_Mo_pair_16 : decode b_Mo_pair 16 = .ok (.ifCond .eq 4, 3) := by decide +kernel
theorem d_Mo_pair_19 : decode b_Mo_pair 19 = .ok (.return_, 1) := by decide +kernel
theorem d_Mo_pair_20 : decode b_Mo_pair 20 = .ok (.iload_n 1, 1) := by decide +kernel
theorem d_Mo_pair_21 : decode b_Mo_pair 21 = .ok (.invokestatic 71, 3) := by decide +kernel
theorem d_Mo_pair_24 : decode b_Mo_pair 24 = .ok (.aload_n 0, 1) := by decide +kernel
theorem d_Mo_pair_25 : decode b_Mo_pair 25 = .ok (.iload_n 1, 1) := by decide +kernel
theorem d_Mo_pair_26 : decode b_Mo_pair 26 = .ok (.invokestatic 65, 3) := by decide +kernel
theorem d_Mo_pair_29 : decode b_Mo_pair 29 = .ok (.invokevirtual 119, 3) := by decide +kernel
theorem d_Mo_pair_32 : decode b_Mo_pair 32 = .ok (.iadd, 1) := by decide +kernel
theorem d_Mo_pair_33 : decode b_Mo_pair 33 = .ok (.istore_n 2, 1) := by decide +kernel
theorem d_Mo_pair_34 : decode b_Mo_pair 34 = .ok (.aload_n 0, 1) := by decide +kernel
theorem d_Mo_pair_35 : decode b_Mo_pair 35 = .ok (.sipush 288, 3) := by decide +kernel
theorem d_Mo_pair_38 : decode b_Mo_pair 38 = .ok (.bipush 32, 2) := by decide +kernel
theorem d_Mo_pair_40 : decode b_Mo_pair 40 = .ok (.invokevirtual 122, 3) := by decide +kernel
theorem d_Mo_pair_43 : decode b_Mo_pair 43 = .ok (.istore_n 3, 1) := by decide +kernel
theorem d_Mo_pair_44 : decode b_Mo_pair 44 = .ok (.iload_n 3, 1) := by decide +kernel
theorem d_Mo_pair_45 : decode b_Mo_pair 45 = .ok (.bipush 29, 2) := by decide +kernel
theorem d_Mo_pair_47 : decode b_Mo_pair 47 = .ok (.if_icmp .le 8, 3) := by decide +kernel
theorem d_Mo_pair_50 : decode b_Mo_pair 50 = .ok (.aload_n 0, 1) := by decide +kernel
theorem d_Mo_pair_51 : decode b_Mo_pair 51 = .ok (.iconst 1, 1) := by decide +kernel
theorem d_Mo_pair_52 : decode b_Mo_pair 52 = .ok (.putfield 108, 3) := by decide +kernel
theorem d_Mo_pair_55 : decode b_Mo_pair 55 = .ok (.aload_n 0, 1) := by decide +kernel
theorem d_Mo_pair_56 : decode b_Mo_pair 56 = .ok (.getfield 108, 3) := by decide +kernel
theorem d_Mo_pair_59 : decode b_Mo_pair 59 = .ok (.ifCond .eq 4, 3) := by decide +kernel
theorem d_Mo_pair_62 : decode b_Mo_pair 62 = .ok (.return_, 1) := by decide +kernel
theorem d_Mo_pair_63 : decode b_Mo_pair 63 = .ok (.iload_n 3, 1) := by decide +kernel
theorem d_Mo_pair_64 : decode b_Mo_pair 64 = .ok (.invokestatic 80, 3) := by decide +kernel
theorem d_Mo_pair_67 : decode b_Mo_pair 67 = .ok (.aload_n 0, 1) := by decide +kernel
theorem d_Mo_pair_68 : decode b_Mo_pair 68 = .ok (.iload_n 3, 1) := by decide +kernel
theorem d_Mo_pair_69 : decode b_Mo_pair 69 = .ok (.invokestatic 68, 3) := by decide +kernel
theorem d_Mo_pair_72 : decode b_Mo_pair 72 = .ok (.invokevirtual 119, 3) := by decide +kernel
theorem d_Mo_pair_75 : decode b_Mo_pair 75 = .ok (.iadd, 1) := by decide +kernel
theorem d_Mo_pair_76 : decode b_Mo_pair 76 = .ok (.istore 4, 2) := by decide +kernel
theorem d_Mo_pair_78 : decode b_Mo_pair 78 = .ok (.iload 4, 2) := by decide +kernel
theorem d_Mo_pair_80 : decode b_Mo_pair 80 = .ok (.aload_n 0, 1) := by decide +kernel
theorem d_Mo_pair_81 : decode b_Mo_pair 81 = .ok (.getfield 116, 3) := by decide +kernel
theorem d_Mo_pair_84 : decode b_Mo_pair 84 = .ok (.if_icmp .le 8, 3) := by decide +kernel
theorem d_Mo_pair_87 : decode b_Mo_pair 87 = .ok (.aload_n 0, 1) := by decide +kernel
theorem d_Mo_pair_88 : decode b_Mo_pair 88 = .ok (.iconst 1, 1) := by decide +kernel
theorem d_Mo_pair_89 : decode b_Mo_pair 89 = .ok (.putfield 108, 3) := by decide +kernel
theorem d_Mo_pair_92 : decode b_Mo_pair 92 = .ok (.iconst 0, 1) := by decide +kernel
theorem d_Mo_pair_93 : decode b_Mo_pair 93 = .ok (.istore 5, 2) := by decide +kernel
theorem d_Mo_pair_95 : decode b_Mo_pair 95 = .ok (.iload 5, 2) := by decide +kernel
theorem d_Mo_pair_97 : decode b_Mo_pair 97 = .ok (.iload_n 2, 1) := by decide +kernel
theorem d_Mo_pair_98 : decode b_Mo_pair 98 = .ok (.if_icmp .ge 32, 3) := by decide +kernel
theorem d_Mo_pair_101 : decode b_Mo_pair 101 = .ok (.aload_n 0, 1) := by decide +kernel
theorem d_Mo_pair_102 : decode b_Mo_pair 102 = .ok (.getfield 108, 3) := by decide +kernel
theorem d_Mo_pair_105 : decode b_Mo_pair 105 = .ok (.ifCond .ne 25, 3) := by decide +kernel
theorem d_Mo_pair_108 : decode b_Mo_pair 108 = .ok (.aload_n 0, 1) := by decide +kernel
theorem d_Mo_pair_109 : decode b_Mo_pair 109 = .ok (.aload_n 0, 1) := by decide +kernel
theorem d_Mo_pair_110 : decode b_Mo_pair 110 = .ok (.getfield 18, 3) := by decide +kernel
theorem d_Mo_pair_113 : decode b_Mo_pair 113 = .ok (.aload_n 0, 1) := by decide +kernel
theorem d_Mo_pair_114 : decode b_Mo_pair 114 = .ok (.getfield 116, 3) := by decide +kernel
theorem d_Mo_pair_117 : decode b_Mo_pair 117 = .ok (.iload 4, 2) := by decide +kernel
theorem d_Mo_pair_119 : decode b_Mo_pair 119 = .ok (.isub, 1) := by decide +kernel
theorem d_Mo_pair_120 : decode b_Mo_pair 120 = .ok (.baload, 1) := by decide +kernel
theorem d_Mo_pair_121 : decode b_Mo_pair 121 = .ok (.invokevirtual 125, 3) := by decide +kernel
theorem d_Mo_pair_124 : decode b_Mo_pair 124 = .ok (.iinc 5 1, 3) := by decide +kernel
theorem d_Mo_pair_127 : decode b_Mo_pair 127 = .ok (.goto (-32), 3) := by decide +kernel
theorem d_Mo_pair_130 : decode b_Mo_pair 130 = .ok (.return_, 1) := by decide +kernel
theorem d_Mo_signs_0 : decode b_Mo_signs 0 = .ok (.iconst 0, 1) := by decide +kernel
theorem d_Mo_signs_1 : decode b_Mo_signs 1 = .ok (.istore_n 1, 1) := by decide +kernel
theorem d_Mo_signs_2 : decode b_Mo_signs 2 = .ok (.aload_n 0, 1) := by decide +kernel
theorem d_Mo_signs_3 : decode b_Mo_signs 3 = .ok (.getfield 108, 3) := by decide +kernel
theorem d_Mo_signs_6 : decode b_Mo_signs 6 = .ok (.ifCond .ne 57, 3) := by decide +kernel
theorem d_Mo_signs_9 : decode b_Mo_signs 9 = .ok (.iload_n 1, 1) := by decide +kernel
theorem d_Mo_signs_10 : decode b_Mo_signs 10 = .ok (.sipush 256, 3) := by decide +kernel
theorem d_Mo_signs_13 : decode b_Mo_signs 13 = .ok (.if_icmp .eq 50, 3) := by decide +kernel
theorem d_Mo_signs_16 : decode b_Mo_signs 16 = .ok (.aload_n 0, 1) := by decide +kernel
theorem d_Mo_signs_17 : decode b_Mo_signs 17 = .ok (.iconst 0, 1) := by decide +kernel
theorem d_Mo_signs_18 : decode b_Mo_signs 18 = .ok (.sipush 288, 3) := by decide +kernel
theorem d_Mo_signs_21 : decode b_Mo_signs 21 = .ok (.invokevirtual 122, 3) := by decide +kernel
theorem d_Mo_signs_24 : decode b_Mo_signs 24 = .ok (.istore_n 1, 1) := by decide +kernel
theorem d_Mo_signs_25 : decode b_Mo_signs 25 = .ok (.aload_n 0, 1) := by decide +kernel
theorem d_Mo_signs_26 : decode b_Mo_signs 26 = .ok (.getfield 108, 3) := by decide +kernel
theorem d_Mo_signs_29 : decode b_Mo_signs 29 = .ok (.ifCond .ne 10, 3) := by decide +kernel
theorem d_Mo_signs_32 : decode b_Mo_signs 32 = .ok (.iload_n 1, 1) := by decide +kernel
theorem d_Mo_signs_33 : decode b_Mo_signs 33 = .ok (.sipush 256, 3) := by decide +kernel
theorem d_Mo_signs_36 : decode b_Mo_signs 36 = .ok (.if_icmp .ne 4, 3) := by decide +kernel
theorem d_Mo_signs_39 : decode b_Mo_signs 39 = .ok (.return_, 1) := by decide +kernel
theorem d_Mo_signs_40 : decode b_Mo_signs 40 = .ok (.iload_n 1, 1) := by decide +kernel
theorem d_Mo_signs_41 : decode b_Mo_signs 41 = .ok (.sipush 256, 3) := by decide +kernel
theorem d_Mo_signs_44 : decode b_Mo_signs 44 = .ok (.if_icmp .ge 11, 3) := by decide +kernel
theorem d_Mo_signs_47 : decode b_Mo_signs 47 = .ok (.aload_n 0, 1) := by decide +kernel
theorem d_Mo_signs_48 : decode b_Mo_signs 48 = .ok (.iload_n 1, 1) := by decide +kernel
theorem d_Mo_signs_49 : decode b_Mo_signs 49 = .ok (.invokevirtual 125, 3) := by decide +kernel
theorem d_Mo_signs_52 : decode b_Mo_signs 52 = .ok (.goto (-50), 3) := by decide +kernel
theorem d_Mo_signs_55 : decode b_Mo_signs 55 = .ok (.aload_n 0, 1) := by decide +kernel
theorem d_Mo_signs_56 : decode b_Mo_signs 56 = .ok (.iload_n 1, 1) := by decide +kernel
theorem d_Mo_signs_57 : decode b_Mo_signs 57 = .ok (.invokevirtual 128, 3) := by decide +kernel
theorem d_Mo_signs_60 : decode b_Mo_signs 60 = .ok (.goto (-58), 3) := by decide +kernel
theorem d_Mo_signs_63 : decode b_Mo_signs 63 = .ok (.return_, 1) := by decide +kernel
theorem d_Mo_fixed_0 : decode b_Mo_fixed 0 = .ok (.iconst 0, 1) := by decide +kernel
theorem d_Mo_fixed_1 : decode b_Mo_fixed 1 = .ok (.istore_n 1, 1) := by decide +kernel
theorem d_Mo_fixed_2 : decode b_Mo_fixed 2 = .ok (.iload_n 1, 1) := by decide +kernel
theorem d_Mo_fixed_3 : decode b_Mo_fixed 3 = .ok (.sipush 288, 3) := by decide +kernel
theorem d_Mo_fixed_6 : decode b_Mo_fixed 6 = .ok (.if_icmp .ge 53, 3) := by decide +kernel
theorem d_Mo_fixed_9 : decode b_Mo_fixed 9 = .ok (.aload_n 0, 1) := by decide +kernel
theorem d_Mo_fixed_10 : decode b_Mo_fixed 10 = .ok (.getfield 21, 3) := by decide +kernel
theorem d_Mo_fixed_13 : decode b_Mo_fixed 13 = .ok (.iload_n 1, 1) := by decide +kernel
theorem d_Mo_fixed_14 : decode b_Mo_fixed 14 = .ok (.iload_n 1, 1) := by decide +kernel
theorem d_Mo_fixed_15 : decode b_Mo_fixed 15 = .ok (.sipush 144, 3) := by decide +kernel
theorem d_Mo_fixed_18 : decode b_Mo_fixed 18 = .ok (.if_icmp .ge 8, 3) := by decide +kernel
theorem d_Mo_fixed_21 : decode b_Mo_fixed 21 = .ok (.bipush 8, 2) := by decide +kernel
theorem d_Mo_fixed_23 : decode b_Mo_fixed 23 = .ok (.goto 29, 3) := by decide +kernel
theorem d_Mo_fixed_26 : decode b_Mo_fixed 26 = .ok (.iload_n 1, 1) := by decide +kernel
theorem d_Mo_fixed_27 : decode b_Mo_fixed 27 = .ok (.sipush 256, 3) := by decide +kernel
theorem d_Mo_fixed_30 : decode b_Mo_fixed 30 = .ok (.if_icmp .ge 8, 3) := by decide +kernel
theorem d_Mo_fixed_33 : decode b_Mo_fixed 33 = .ok (.bipush 9, 2) := by decide +kernel
theorem d_Mo_fixed_35 : decode b_Mo_fixed 35 = .ok (.goto 17, 3) := by decide +kernel
theorem d_Mo_fixed_38 : decode b_Mo_fixed 38 = .ok (.iload_n 1, 1) := by decide +kernel
theorem d_Mo_fixed_39 : decode b_Mo_fixed 39 = .ok (.sipush 280, 3) := by decide +kernel
theorem d_Mo_fixed_42 : decode b_Mo_fixed 42 = .ok (.if_icmp .ge 8, 3) := by decide +kernel
theorem d_Mo_fixed_45 : decode b_Mo_fixed 45 = .ok (.bipush 7, 2) := by decide +kernel
theorem d_Mo_fixed_47 : decode b_Mo_fixed 47 = .ok (.goto 5, 3) := by decide +kernel
theorem d_Mo_fixed_50 : decode b_Mo_fixed 50 = .ok (.bipush 8, 2) := by decide +kernel
theorem d_Mo_fixed_52 : decode b_Mo_fixed 52 = .ok (.iastore, 1) := by decide +kernel
theorem d_Mo_fixed_53 : decode b_Mo_fixed 53 = .ok (.iinc 1 1, 3) := by decide +kernel
theorem d_Mo_fixed_56 : decode b_Mo_fixed 56 = .ok (.goto (-54), 3) := by decide +kernel
theorem d_Mo_fixed_59 : decode b_Mo_fixed 59 = .ok (.iconst 0, 1) := by decide +kernel
theorem d_Mo_fixed_60 : decode b_Mo_fixed 60 = .ok (.istore_n 1, 1) := by decide +kernel
theorem d_Mo_fixed_61 : decode b_Mo_fixed 61 = .ok (.iload_n 1, 1) := by decide +kernel
theorem d_Mo_fixed_62 : decode b_Mo_fixed 62 = .ok (.bipush 32, 2) := by decide +kernel
theorem d_Mo_fixed_64 : decode b_Mo_fixed 64 = .ok (.if_icmp .ge 20, 3) := by decide +kernel
theorem d_Mo_fixed_67 : decode b_Mo_fixed 67 = .ok (.aload_n 0, 1) := by decide +kernel
theorem d_Mo_fixed_68 : decode b_Mo_fixed 68 = .ok (.getfield 21, 3) := by decide +kernel
theorem d_Mo_fixed_71 : decode b_Mo_fixed 71 = .ok (.sipush 288, 3) := by decide +kernel
theorem d_Mo_fixed_74 : decode b_Mo_fixed 74 = .ok (.iload_n 1, 1) := by decide +kernel
theorem d_Mo_fixed_75 : decode b_Mo_fixed 75 = .ok (.iadd, 1) := by decide +kernel
theorem d_Mo_fixed_76 : decode b_Mo_fixed 76 = .ok (.iconst 5, 1) := by decide +kernel
theorem d_Mo_fixed_77 : decode b_Mo_fixed 77 = .ok (.iastore, 1) := by decide +kernel
theorem d_Mo_fixed_78 : decode b_Mo_fixed 78 = .ok (.iinc 1 1, 3) := by decide +kernel
theorem d_Mo_fixed_81 : decode b_Mo_fixed 81 = .ok (.goto (-20), 3) := by decide +kernel
theorem d_Mo_fixed_84 : decode b_Mo_fixed 84 = .ok (.return_, 1) := by decide +kernel
theorem d_Mo_stored_0 : decode b_Mo_stored 0 = .ok (.aload_n 0, 1) := by decide +kernel
theorem d_Mo_stored_1 : decode b_Mo_stored 1 = .ok (.aload_n 0, 1) := by decide +kernel
theorem d_Mo_stored_2 : decode b_Mo_stored 2 = .ok (.getfield 105, 3) := by decide +kernel
theorem d_Mo_stored_5 : decode b_Mo_stored 5 = .ok (.bipush 7, 2) := by decide +kernel
theorem d_Mo_stored_7 : decode b_Mo_stored 7 = .ok (.iadd, 1) := by decide +kernel
theorem d_Mo_stored_8 : decode b_Mo_stored 8 = .ok (.bipush 8, 2) := by decide +kernel
theorem d_Mo_stored_10 : decode b_Mo_stored 10 = .ok (.idiv, 1) := by decide +kernel
theorem d_Mo_stored_11 : decode b_Mo_stored 11 = .ok (.bipush 8, 2) := by decide +kernel
theorem d_Mo_stored_13 : decode b_Mo_stored 13 = .ok (.imul, 1) := by decide +kernel
theorem d_Mo_stored_14 : decode b_Mo_stored 14 = .ok (.putfield 105, 3) := by decide +kernel
theorem d_Mo_stored_17 : decode b_Mo_stored 17 = .ok (.aload_n 0, 1) := by decide +kernel
theorem d_Mo_stored_18 : decode b_Mo_stored 18 = .ok (.bipush 16, 2) := by decide +kernel
theorem d_Mo_stored_20 : decode b_Mo_stored 20 = .ok (.invokevirtual 119, 3) := by decide +kernel
theorem d_Mo_stored_23 : decode b_Mo_stored 23 = .ok (.istore_n 1, 1) := by decide +kernel
theorem d_Mo_stored_24 : decode b_Mo_stored 24 = .ok (.aload_n 0, 1) := by decide +kernel
theorem d_Mo_stored_25 : decode b_Mo_stored 25 = .ok (.bipush 16, 2) := by decide +kernel
theorem d_Mo_stored_27 : decode b_Mo_stored 27 = .ok (.invokevirtual 119, 3) := by decide +kernel
theorem d_Mo_stored_30 : decode b_Mo_stored 30 = .ok (.istore_n 2, 1) := by decide +kernel
theorem d_Mo_stored_31 : decode b_Mo_stored 31 = .ok (.iload_n 1, 1) := by decide +kernel
theorem d_Mo_stored_32 : decode b_Mo_stored 32 = .ok (.iload_n 2, 1) := by decide +kernel
theorem d_Mo_stored_33 : decode b_Mo_stored 33 = .ok (.iadd, 1) := by decide +kernel
theorem d_Mo_stored_34 : decode b_Mo_stored 34 = .ok (.ldc 131, 2) := by decide +kernel
theorem d_Mo_stored_36 : decode b_Mo_stored 36 = .ok (.if_icmp .eq 8, 3) := by decide +kernel
theorem d_Mo_stored_39 : decode b_Mo_stored 39 = .ok (.aload_n 0, 1) := by decide +kernel
theorem d_Mo_stored_40 : decode b_Mo_stored 40 = .ok (.iconst 1, 1) := by decide +kernel
theorem d_Mo_stored_41 : decode b_Mo_stored 41 = .ok (.putfield 108, 3) := by decide +kernel
theorem d_Mo_stored_44 : decode b_Mo_stored 44 = .ok (.iconst 0, 1) := by decide +kernel
theorem d_Mo_stored_45 : decode b_Mo_stored 45 = .ok (.istore_n 3, 1) := by decide +kernel
theorem d_Mo_stored_46 : decode b_Mo_stored 46 = .ok (.iload_n 3, 1) := by decide +kernel
theorem d_Mo_stored_47 : decode b_Mo_stored 47 = .ok (.iload_n 1, 1) := by decide +kernel
theorem d_Mo_stored_48 : decode b_Mo_stored 48 = .ok (.if_icmp .ge 37, 3) := by decide +kernel
theorem d_Mo_stored_51 : decode b_Mo_stored 51 = .ok (.aload_n 0, 1) := by decide +kernel
theorem d_Mo_stored_52 : decode b_Mo_stored 52 = .ok (.getfield 108, 3) := by decide +kernel
theorem d_Mo_stored_55 : decode b_Mo_stored 55 = .ok (.ifCond .ne 30, 3) := by decide +kernel
theorem d_Mo_stored_58 : decode b_Mo_stored 58 = .ok (.aload_n 0, 1) := by decide +kernel
theorem d_Mo_stored_59 : decode b_Mo_stored 59 = .ok (.bipush 8, 2) := by decide +kernel
theorem d_Mo_stored_61 : decode b_Mo_stored 61 = .ok (.invokevirtual 119, 3) := by decide +kernel
theorem d_Mo_stored_64 : decode b_Mo_stored 64 = .ok (.istore 4, 2) := by decide +kernel
theorem d_Mo_stored_66 : decode b_Mo_stored 66 = .ok (.aload_n 0, 1) := by decide +kernel
theorem d_Mo_stored_67 : decode b_Mo_stored 67 = .ok (.getfield 108, 3) := by decide +kernel
theorem d_Mo_stored_70 : decode b_Mo_stored 70 = .ok (.ifCond .ne 9, 3) := by decide +kernel
theorem d_Mo_stored_73 : decode b_Mo_stored 73 = .ok (.aload_n 0, 1) := by decide +kernel
theorem d_Mo_stored_74 : decode b_Mo_stored 74 = .ok (.iload 4, 2) := by decide +kernel
theorem d_Mo_stored_76 : decode b_Mo_stored 76 = .ok (.invokevirtual 125, 3) := by decide +kernel
theorem d_Mo_stored_79 : decode b_Mo_stored 79 = .ok (.iinc 3 1, 3) := by decide +kernel
theorem d_Mo_stored_82 : decode b_Mo_stored 82 = .ok (.goto (-36), 3) := by decide +kernel
theorem d_Mo_stored_85 : decode b_Mo_stored 85 = .ok (.return_, 1) := by decide +kernel
theorem d_Mo_placeOf_0 : decode b_Mo_placeOf 0 = .ok (.iload_n 0, 1) := by decide +kernel
theorem d_Mo_placeOf_1 : decode b_Mo_placeOf 1 = .ok (.iconst 3, 1) := by decide +kernel
theorem d_Mo_placeOf_2 : decode b_Mo_placeOf 2 = .ok (.if_icmp .ge 8, 3) := by decide +kernel
theorem d_Mo_placeOf_5 : decode b_Mo_placeOf 5 = .ok (.bipush 16, 2) := by decide +kernel
theorem d_Mo_placeOf_7 : decode b_Mo_placeOf 7 = .ok (.iload_n 0, 1) := by decide +kernel
theorem d_Mo_placeOf_8 : decode b_Mo_placeOf 8 = .ok (.iadd, 1) := by decide +kernel
theorem d_Mo_placeOf_9 : decode b_Mo_placeOf 9 = .ok (.ireturn, 1) := by decide +kernel
theorem d_Mo_placeOf_10 : decode b_Mo_placeOf 10 = .ok (.iload_n 0, 1) := by decide +kernel
theorem d_Mo_placeOf_11 : decode b_Mo_placeOf 11 = .ok (.iconst 3, 1) := by decide +kernel
theorem d_Mo_placeOf_12 : decode b_Mo_placeOf 12 = .ok (.if_icmp .ne 5, 3) := by decide +kernel
theorem d_Mo_placeOf_15 : decode b_Mo_placeOf 15 = .ok (.iconst 0, 1) := by decide +kernel
theorem d_Mo_placeOf_16 : decode b_Mo_placeOf 16 = .ok (.ireturn, 1) := by decide +kernel
theorem d_Mo_placeOf_17 : decode b_Mo_placeOf 17 = .ok (.iload_n 0, 1) := by decide +kernel
theorem d_Mo_placeOf_18 : decode b_Mo_placeOf 18 = .ok (.iconst 2, 1) := by decide +kernel
theorem d_Mo_placeOf_19 : decode b_Mo_placeOf 19 = .ok (.irem, 1) := by decide +kernel
theorem d_Mo_placeOf_20 : decode b_Mo_placeOf 20 = .ok (.ifCond .ne 14, 3) := by decide +kernel
theorem d_Mo_placeOf_23 : decode b_Mo_placeOf 23 = .ok (.bipush 8, 2) := by decide +kernel
theorem d_Mo_placeOf_25 : decode b_Mo_placeOf 25 = .ok (.iload_n 0, 1) := by decide +kernel
theorem d_Mo_placeOf_26 : decode b_Mo_placeOf 26 = .ok (.iconst 4, 1) := by decide +kernel
theorem d_Mo_placeOf_27 : decode b_Mo_placeOf 27 = .ok (.isub, 1) := by decide +kernel
theorem d_Mo_placeOf_28 : decode b_Mo_placeOf 28 = .ok (.iconst 2, 1) := by decide +kernel
theorem d_Mo_placeOf_29 : decode b_Mo_placeOf 29 = .ok (.idiv, 1) := by decide +kernel
theorem d_Mo_placeOf_30 : decode b_Mo_placeOf 30 = .ok (.iadd, 1) := by decide +kernel
theorem d_Mo_placeOf_31 : decode b_Mo_placeOf 31 = .ok (.goto 11, 3) := by decide +kernel
theorem d_Mo_placeOf_34 : decode b_Mo_placeOf 34 = .ok (.bipush 7, 2) := by decide +kernel
theorem d_Mo_placeOf_36 : decode b_Mo_placeOf 36 = .ok (.iload_n 0, 1) := by decide +kernel
theorem d_Mo_placeOf_37 : decode b_Mo_placeOf 37 = .ok (.iconst 5, 1) := by decide +kernel
theorem d_Mo_placeOf_38 : decode b_Mo_placeOf 38 = .ok (.isub, 1) := by decide +kernel
theorem d_Mo_placeOf_39 : decode b_Mo_placeOf 39 = .ok (.iconst 2, 1) := by decide +kernel
theorem d_Mo_placeOf_40 : decode b_Mo_placeOf 40 = .ok (.idiv, 1) := by decide +kernel
theorem d_Mo_placeOf_41 : decode b_Mo_placeOf 41 = .ok (.isub, 1) := by decide +kernel
theorem d_Mo_placeOf_42 : decode b_Mo_placeOf 42 = .ok (.ireturn, 1) := by decide +kernel
theorem d_Mo_table_0 : decode b_Mo_table 0 = .ok (.sipush 257, 3) := by decide +kernel
theorem d_Mo_table_3 : decode b_Mo_table 3 = .ok (.aload_n 0, 1) := by decide +kernel
theorem d_Mo_table_4 : decode b_Mo_table 4 = .ok (.iconst 5, 1) := by decide +kernel
theorem d_Mo_table_5 : decode b_Mo_table 5 = .ok (.invokevirtual 119, 3) := by decide +kernel
theorem d_Mo_table_8 : decode b_Mo_table 8 = .ok (.iadd, 1) := by decide +kernel
theorem d_Mo_table_9 : decode b_Mo_table 9 = .ok (.istore_n 1, 1) := by decide +kernel
theorem d_Mo_table_10 : decode b_Mo_table 10 = .ok (.iconst 1, 1) := by decide +kernel
theorem d_Mo_table_11 : decode b_Mo_table 11 = .ok (.aload_n 0, 1) := by decide +kernel
theorem d_Mo_table_12 : decode b_Mo_table 12 = .ok (.iconst 5, 1) := by decide +kernel
theorem d_Mo_table_13 : decode b_Mo_table 13 = .ok (.invokevirtual 119, 3) := by decide +kernel
theorem d_Mo_table_16 : decode b_Mo_table 16 = .ok (.iadd, 1) := by decide +kernel
theorem d_Mo_table_17 : decode b_Mo_table 17 = .ok (.istore_n 2, 1) := by decide +kernel
theorem d_Mo_table_18 : decode b_Mo_table 18 = .ok (.iconst 4, 1) := by decide +kernel
theorem d_Mo_table_19 : decode b_Mo_table 19 = .ok (.aload_n 0, 1) := by decide +kernel
theorem d_Mo_table_20 : decode b_Mo_table 20 = .ok (.iconst 4, 1) := by decide +kernel
theorem d_Mo_table_21 : decode b_Mo_table 21 = .ok (.invokevirtual 119, 3) := by decide +kernel
theorem d_Mo_table_24 : decode b_Mo_table 24 = .ok (.iadd, 1) := by decide +kernel
theorem d_Mo_table_25 : decode b_Mo_table 25 = .ok (.istore_n 3, 1) := by decide +kernel
theorem d_Mo_table_26 : decode b_Mo_table 26 = .ok (.iload_n 1, 1) := by decide +kernel
theorem d_Mo_table_27 : decode b_Mo_table 27 = .ok (.sipush 286, 3) := by decide +kernel
theorem d_Mo_table_30 : decode b_Mo_table 30 = .ok (.if_icmp .gt 9, 3) := by decide +kernel
theorem d_Mo_table_33 : decode b_Mo_table 33 = .ok (.iload_n 2, 1) := by decide +kernel
theorem d_Mo_table_34 : decode b_Mo_table 34 = .ok (.bipush 30, 2) := by decide +kernel
theorem d_Mo_table_36 : decode b_Mo_table 36 = .ok (.if_icmp .le 8, 3) := by decide +kernel
theorem d_Mo_table_39 : decode b_Mo_table 39 = .ok (.aload_n 0, 1) := by decide +kernel
theorem d_Mo_table_40 : decode b_Mo_table 40 = .ok (.iconst 1, 1) := by decide +kernel
theorem d_Mo_table_41 : decode b_Mo_table 41 = .ok (.putfield 108, 3) := by decide +kernel
theorem d_Mo_table_44 : decode b_Mo_table 44 = .ok (.iconst 0, 1) := by decide +kernel
theorem d_Mo_table_45 : decode b_Mo_table 45 = .ok (.istore 4, 2) := by decide +kernel
theorem d_Mo_table_47 : decode b_Mo_table 47 = .ok (.iload 4, 2) := by decide +kernel
theorem d_Mo_table_49 : decode b_Mo_table 49 = .ok (.bipush 19, 2) := by decide +kernel
theorem d_Mo_table_51 : decode b_Mo_table 51 = .ok (.if_icmp .ge 38, 3) := by decide +kernel
theorem d_Mo_table_54 : decode b_Mo_table 54 = .ok (.aload_n 0, 1) := by decide +kernel
theorem d_Mo_table_55 : decode b_Mo_table 55 = .ok (.getfield 21, 3) := by decide +kernel
theorem d_Mo_table_58 : decode b_Mo_table 58 = .ok (.sipush 320, 3) := by decide +kernel
theorem d_Mo_table_61 : decode b_Mo_table 61 = .ok (.iload 4, 2) := by decide +kernel
theorem d_Mo_table_63 : decode b_Mo_table 63 = .ok (.invokestatic 132, 3) := by decide +kernel
theorem d_Mo_table_66 : decode b_Mo_table 66 = .ok (.iadd, 1) := by decide +kernel
theorem d_Mo_table_67 : decode b_Mo_table 67 = .ok (.iload 4, 2) := by decide +kernel
theorem d_Mo_table_69 : decode b_Mo_table 69 = .ok (.iload_n 3, 1) := by decide +kernel
theorem d_Mo_table_70 : decode b_Mo_table 70 = .ok (.if_icmp .ge 11, 3) := by decide +kernel
theorem d_Mo_table_73 : decode b_Mo_table 73 = .ok (.aload_n 0, 1) := by decide +kernel
theorem d_Mo_table_74 : decode b_Mo_table 74 = .ok (.iconst 3, 1) := by decide +kernel
theorem d_Mo_table_75 : decode b_Mo_table 75 = .ok (.invokevirtual 119, 3) := by decide +kernel
theorem d_Mo_table_78 : decode b_Mo_table 78 = .ok (.goto 4, 3) := by decide +kernel
theorem d_Mo_table_81 : decode b_Mo_table 81 = .ok (.iconst 0, 1) := by decide +kernel
theorem d_Mo_table_82 : decode b_Mo_table 82 = .ok (.iastore, 1) := by decide +kernel
theorem d_Mo_table_83 : decode b_Mo_table 83 = .ok (.iinc 4 1, 3) := by decide +kernel
theorem d_Mo_table_86 : decode b_Mo_table 86 = .ok (.goto (-39), 3) := by decide +kernel
theorem d_Mo_table_89 : decode b_Mo_table 89 = .ok (.aload_n 0, 1) := by decide +kernel
theorem d_Mo_table_90 : decode b_Mo_table 90 = .ok (.sipush 320, 3) := by decide +kernel
theorem d_Mo_table_93 : decode b_Mo_table 93 = .ok (.bipush 19, 2) := by decide +kernel
theorem d_Mo_table_95 : decode b_Mo_table 95 = .ok (.invokevirtual 135, 3) := by decide +kernel
theorem d_Mo_table_98 : decode b_Mo_table 98 = .ok (.ldc 90, 2) := by decide +kernel
theorem d_Mo_table_100 : decode b_Mo_table 100 = .ok (.if_icmp .eq 8, 3) := by decide +kernel
theorem d_Mo_table_103 : decode b_Mo_table 103 = .ok (.aload_n 0, 1) := by decide +kernel
theorem d_Mo_table_104 : decode b_Mo_table 104 = .ok (.iconst 1, 1) := by decide +kernel
theorem d_Mo_table_105 : decode b_Mo_table 105 = .ok (.putfield 108, 3) := by decide +kernel
theorem d_Mo_table_108 : decode b_Mo_table 108 = .ok (.aload_n 0, 1) := by decide +kernel
theorem d_Mo_table_109 : decode b_Mo_table 109 = .ok (.sipush 320, 3) := by decide +kernel
theorem d_Mo_table_112 : decode b_Mo_table 112 = .ok (.bipush 19, 2) := by decide +kernel
theorem d_Mo_table_114 : decode b_Mo_table 114 = .ok (.invokevirtual 138, 3) := by decide +kernel
theorem d_Mo_table_117 : decode b_Mo_table 117 = .ok (.iconst 0, 1) := by decide +kernel
theorem d_Mo_table_118 : decode b_Mo_table 118 = .ok (.istore 4, 2) := by decide +kernel
theorem d_Mo_table_120 : decode b_Mo_table 120 = .ok (.iload 4, 2) := by decide +kernel
theorem d_Mo_table_122 : decode b_Mo_table 122 = .ok (.iload_n 1, 1) := by decide +kernel
theorem d_Mo_table_123 : decode b_Mo_table 123 = .ok (.iload_n 2, 1) := by decide +kernel
theorem d_Mo_table_124 : decode b_Mo_table 124 = .ok (.iadd, 1) := by decide +kernel
theorem d_Mo_table_125 : decode b_Mo_table 125 = .ok (.if_icmp .ge 180, 3) := by decide +kernel
theorem d_Mo_table_128 : decode b_Mo_table 128 = .ok (.aload_n 0, 1) := by decide +kernel
theorem d_Mo_table_129 : decode b_Mo_table 129 = .ok (.getfield 108, 3) := by decide +kernel
theorem d_Mo_table_132 : decode b_Mo_table 132 = .ok (.ifCond .ne 173, 3) := by decide +kernel
theorem d_Mo_table_135 : decode b_Mo_table 135 = .ok (.aload_n 0, 1) := by decide +kernel
theorem d_Mo_table_136 : decode b_Mo_table 136 = .ok (.sipush 320, 3) := by decide +kernel
theorem d_Mo_table_139 : decode b_Mo_table 139 = .ok (.bipush 19, 2) := by decide +kernel
theorem d_Mo_table_141 : decode b_Mo_table 141 = .ok (.invokevirtual 122, 3) := by decide +kernel
theorem d_Mo_table_144 : decode b_Mo_table 144 = .ok (.istore 5, 2) := by decide +kernel
theorem d_Mo_table_146 : decode b_Mo_table 146 = .ok (.aload_n 0, 1) := by decide +kernel
theorem d_Mo_table_147 : decode b_Mo_table 147 = .ok (.getfield 108, 3) := by decide +kernel
theorem d_Mo_table_150 : decode b_Mo_table 150 = .ok (.ifCond .eq 4, 3) := by decide +kernel
theorem d_Mo_table_153 : decode b_Mo_table 153 = .ok (.return_, 1) := by decide +kernel
theorem d_Mo_table_154 : decode b_Mo_table 154 = .ok (.iload 5, 2) := by decide +kernel
theorem d_Mo_table_156 : decode b_Mo_table 156 = .ok (.bipush 16, 2) := by decide +kernel
theorem d_Mo_table_158 : decode b_Mo_table 158 = .ok (.if_icmp .ge 18, 3) := by decide +kernel
theorem d_Mo_table_161 : decode b_Mo_table 161 = .ok (.aload_n 0, 1) := by decide +kernel
theorem d_Mo_table_162 : decode b_Mo_table 162 = .ok (.getfield 28, 3) := by decide +kernel
theorem d_Mo_table_165 : decode b_Mo_table 165 = .ok (.iload 4, 2) := by decide +kernel
theorem d_Mo_table_167 : decode b_Mo_table 167 = .ok (.iload 5, 2) := by decide +kernel
theorem d_Mo_table_169 : decode b_Mo_table 169 = .ok (.iastore, 1) := by decide +kernel
theorem d_Mo_table_170 : decode b_Mo_table 170 = .ok (.iinc 4 1, 3) := by decide +kernel
theorem d_Mo_table_173 : decode b_Mo_table 173 = .ok (.goto (-53), 3) := by decide +kernel
theorem d_Mo_table_176 : decode b_Mo_table 176 = .ok (.iload 5, 2) := by decide +kernel
theorem d_Mo_table_178 : decode b_Mo_table 178 = .ok (.bipush 16, 2) := by decide +kernel
theorem d_Mo_table_180 : decode b_Mo_table 180 = .ok (.if_icmp .ne 13, 3) := by decide +kernel
theorem d_Mo_table_183 : decode b_Mo_table 183 = .ok (.iconst 3, 1) := by decide +kernel
theorem d_Mo_table_184 : decode b_Mo_table 184 = .ok (.aload_n 0, 1) := by decide +kernel
theorem d_Mo_table_185 : decode b_Mo_table 185 = .ok (.iconst 2, 1) := by decide +kernel
theorem d_Mo_table_186 : decode b_Mo_table 186 = .ok (.invokevirtual 119, 3) := by decide +kernel
theorem d_Mo_table_189 : decode b_Mo_table 189 = .ok (.iadd, 1) := by decide +kernel
theorem d_Mo_table_190 : decode b_Mo_table 190 = .ok (.goto 29, 3) := by decide +kernel
theorem d_Mo_table_193 : decode b_Mo_table 193 = .ok (.iload 5, 2) := by decide +kernel
theorem d_Mo_table_195 : decode b_Mo_table 195 = .ok (.bipush 17, 2) := by decide +kernel
theorem d_Mo_table_197 : decode b_Mo_table 197 = .ok (.if_icmp .ne 13, 3) := by decide +kernel
theorem d_Mo_table_200 : decode b_Mo_table 200 = .ok (.iconst 3, 1) := by decide +kernel
theorem d_Mo_table_201 : decode b_Mo_table 201 = .ok (.aload_n 0, 1) := by decide +kernel
theorem d_Mo_table_202 : decode b_Mo_table 202 = .ok (.iconst 3, 1) := by decide +kernel
theorem d_Mo_table_203 : decode b_Mo_table 203 = .ok (.invokevirtual 119, 3) := by decide +kernel
theorem d_Mo_table_206 : decode b_Mo_table 206 = .ok (.iadd, 1) := by decide +kernel
theorem d_Mo_table_207 : decode b_Mo_table 207 = .ok (.goto 12, 3) := by decide +kernel
theorem d_Mo_table_210 : decode b_Mo_table 210 = .ok (.bipush 11, 2) := by decide +kernel
theorem d_Mo_table_212 : decode b_Mo_table 212 = .ok (.aload_n 0, 1) := by decide +kernel
theorem d_Mo_table_213 : decode b_Mo_table 213 = .ok (.bipush 7, 2) := by decide +kernel
theorem d_Mo_table_215 : decode b_Mo_table 215 = .ok (.invokevirtual 119, 3) := by decide +kernel
theorem d_Mo_table_218 : decode b_Mo_table 218 = .ok (.iadd, 1) := by decide +kernel
theorem d_Mo_table_219 : decode b_Mo_table 219 = .ok (.istore 6, 2) := by decide +kernel
theorem d_Mo_table_221 : decode b_Mo_table 221 = .ok (.iload 5, 2) := by decide +kernel
theorem d_Mo_table_223 : decode b_Mo_table 223 = .ok (.bipush 16, 2) := by decide +kernel
theorem d_Mo_table_225 : decode b_Mo_table 225 = .ok (.if_icmp .ne 8, 3) := by decide +kernel
theorem d_Mo_table_228 : decode b_Mo_table 228 = .ok (.iload 4, 2) := by decide +kernel
theorem d_Mo_table_230 : decode b_Mo_table 230 = .ok (.ifCond .eq 14, 3) := by decide +kernel
theorem d_Mo_table_233 : decode b_Mo_table 233 = .ok (.iload 4, 2) := by decide +kernel
theorem d_Mo_table_235 : decode b_Mo_table 235 = .ok (.iload 6, 2) := by decide +kernel
theorem d_Mo_table_237 : decode b_Mo_table 237 = .ok (.iadd, 1) := by decide +kernel
theorem d_Mo_table_238 : decode b_Mo_table 238 = .ok (.iload_n 1, 1) := by decide +kernel
theorem d_Mo_table_239 : decode b_Mo_table 239 = .ok (.iload_n 2, 1) := by decide +kernel
theorem d_Mo_table_240 : decode b_Mo_table 240 = .ok (.iadd, 1) := by decide +kernel
theorem d_Mo_table_241 : decode b_Mo_table 241 = .ok (.if_icmp .le 8, 3) := by decide +kernel
theorem d_Mo_table_244 : decode b_Mo_table 244 = .ok (.aload_n 0, 1) := by decide +kernel
theorem d_Mo_table_245 : decode b_Mo_table 245 = .ok (.iconst 1, 1) := by decide +kernel
theorem d_Mo_table_246 : decode b_Mo_table 246 = .ok (.putfield 108, 3) := by decide +kernel
theorem d_Mo_table_249 : decode b_Mo_table 249 = .ok (.iconst 0, 1) := by decide +kernel
theorem d_Mo_table_250 : decode b_Mo_table 250 = .ok (.istore 7, 2) := by decide +kernel
theorem d_Mo_table_252 : decode b_Mo_table 252 = .ok (.iload 7, 2) := by decide +kernel
theorem d_Mo_table_254 : decode b_Mo_table 254 = .ok (.iload 6, 2) := by decide +kernel
