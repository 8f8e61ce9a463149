theorem d_Sha_fillWords_121 : decode b_Sha_fillWords 121 = .ok (.istore 5, 2) := by decide +kernel
theorem d_Sha_fillWords_123 : decode b_Sha_fillWords 123 = .ok (.aload_n 0, 1) := by decide +kernel
theorem d_Sha_fillWords_124 : decode b_Sha_fillWords 124 = .ok (.getfield 7, 3) := by decide +kernel
theorem d_Sha_fillWords_127 : decode b_Sha_fillWords 127 = .ok (.iload 4, 2) := by decide +kernel
theorem d_Sha_fillWords_129 : decode b_Sha_fillWords 129 = .ok (.iload 5, 2) := by decide +kernel
theorem d_Sha_fillWords_131 : decode b_Sha_fillWords 131 = .ok (.iconst 1, 1) := by decide +kernel
theorem d_Sha_fillWords_132 : decode b_Sha_fillWords 132 = .ok (.invokestatic 40, 3) := by decide +kernel
theorem d_Sha_fillWords_135 : decode b_Sha_fillWords 135 = .ok (.iastore, 1) := by decide +kernel
theorem d_Sha_fillWords_136 : decode b_Sha_fillWords 136 = .ok (.iinc 4 1, 3) := by decide +kernel
theorem d_Sha_fillWords_139 : decode b_Sha_fillWords 139 = .ok (.goto (-70), 3) := by decide +kernel
theorem d_Sha_fillWords_142 : decode b_Sha_fillWords 142 = .ok (.return_, 1) := by decide +kernel
theorem d_Sha_paddedByte_0 : decode b_Sha_paddedByte 0 = .ok (.aload_n 0, 1) := by decide +kernel
theorem d_Sha_paddedByte_1 : decode b_Sha_paddedByte 1 = .ok (.invokevirtual 21, 3) := by decide +kernel
theorem d_Sha_paddedByte_4 : decode b_Sha_paddedByte 4 = .ok (.istore_n 3, 1) := by decide +kernel
theorem d_Sha_paddedByte_5 : decode b_Sha_paddedByte 5 = .ok (.iload_n 1, 1) := by decide +kernel
theorem d_Sha_paddedByte_6 : decode b_Sha_paddedByte 6 = .ok (.iload_n 3, 1) := by decide +kernel
theorem d_Sha_paddedByte_7 : decode b_Sha_paddedByte 7 = .ok (.if_icmp .ge 9, 3) := by decide +kernel
theorem d_Sha_paddedByte_10 : decode b_Sha_paddedByte 10 = .ok (.aload_n 0, 1) := by decide +kernel
theorem d_Sha_paddedByte_11 : decode b_Sha_paddedByte 11 = .ok (.iload_n 1, 1) := by decide +kernel
theorem d_Sha_paddedByte_12 : decode b_Sha_paddedByte 12 = .ok (.invokevirtual 44, 3) := by decide +kernel
theorem d_Sha_paddedByte_15 : decode b_Sha_paddedByte 15 = .ok (.ireturn, 1) := by decide +kernel
theorem d_Sha_paddedByte_16 : decode b_Sha_paddedByte 16 = .ok (.iload_n 1, 1) := by decide +kernel
theorem d_Sha_paddedByte_17 : decode b_Sha_paddedByte 17 = .ok (.iload_n 3, 1) := by decide +kernel
theorem d_Sha_paddedByte_18 : decode b_Sha_paddedByte 18 = .ok (.if_icmp .ne 7, 3) := by decide +kernel
theorem d_Sha_paddedByte_21 : decode b_Sha_paddedByte 21 = .ok (.sipush 128, 3) := by decide +kernel
theorem d_Sha_paddedByte_24 : decode b_Sha_paddedByte 24 = .ok (.ireturn, 1) := by decide +kernel
theorem d_Sha_paddedByte_25 : decode b_Sha_paddedByte 25 = .ok (.iload_n 1, 1) := by decide +kernel
theorem d_Sha_paddedByte_26 : decode b_Sha_paddedByte 26 = .ok (.iload_n 2, 1) := by decide +kernel
theorem d_Sha_paddedByte_27 : decode b_Sha_paddedByte 27 = .ok (.iconst 4, 1) := by decide +kernel
theorem d_Sha_paddedByte_28 : decode b_Sha_paddedByte 28 = .ok (.isub, 1) := by decide +kernel
theorem d_Sha_paddedByte_29 : decode b_Sha_paddedByte 29 = .ok (.if_icmp .lt 23, 3) := by decide +kernel
theorem d_Sha_paddedByte_32 : decode b_Sha_paddedByte 32 = .ok (.bipush 8, 2) := by decide +kernel
theorem d_Sha_paddedByte_34 : decode b_Sha_paddedByte 34 = .ok (.iload_n 3, 1) := by decide +kernel
theorem d_Sha_paddedByte_35 : decode b_Sha_paddedByte 35 = .ok (.imul, 1) := by decide +kernel
theorem d_Sha_paddedByte_36 : decode b_Sha_paddedByte 36 = .ok (.bipush 8, 2) := by decide +kernel
theorem d_Sha_paddedByte_38 : decode b_Sha_paddedByte 38 = .ok (.iload_n 2, 1) := by decide +kernel
theorem d_Sha_paddedByte_39 : decode b_Sha_paddedByte 39 = .ok (.iconst 1, 1) := by decide +kernel
theorem d_Sha_paddedByte_40 : decode b_Sha_paddedByte 40 = .ok (.isub, 1) := by decide +kernel
theorem d_Sha_paddedByte_41 : decode b_Sha_paddedByte 41 = .ok (.iload_n 1, 1) := by decide +kernel
theorem d_Sha_paddedByte_42 : decode b_Sha_paddedByte 42 = .ok (.isub, 1) := by decide +kernel
theorem d_Sha_paddedByte_43 : decode b_Sha_paddedByte 43 = .ok (.imul, 1) := by decide +kernel
theorem d_Sha_paddedByte_44 : decode b_Sha_paddedByte 44 = .ok (.iushr, 1) := by decide +kernel
theorem d_Sha_paddedByte_45 : decode b_Sha_paddedByte 45 = .ok (.sipush 255, 3) := by decide +kernel
theorem d_Sha_paddedByte_48 : decode b_Sha_paddedByte 48 = .ok (.iand, 1) := by decide +kernel
theorem d_Sha_paddedByte_49 : decode b_Sha_paddedByte 49 = .ok (.goto 4, 3) := by decide +kernel
theorem d_Sha_paddedByte_52 : decode b_Sha_paddedByte 52 = .ok (.iconst 0, 1) := by decide +kernel
theorem d_Sha_paddedByte_53 : decode b_Sha_paddedByte 53 = .ok (.ireturn, 1) := by decide +kernel
theorem d_Sha_mixBlock_0 : decode b_Sha_mixBlock 0 = .ok (.aload_n 0, 1) := by decide +kernel
theorem d_Sha_mixBlock_1 : decode b_Sha_mixBlock 1 = .ok (.getfield 13, 3) := by decide +kernel
theorem d_Sha_mixBlock_4 : decode b_Sha_mixBlock 4 = .ok (.iconst 0, 1) := by decide +kernel
theorem d_Sha_mixBlock_5 : decode b_Sha_mixBlock 5 = .ok (.iaload, 1) := by decide +kernel
theorem d_Sha_mixBlock_6 : decode b_Sha_mixBlock 6 = .ok (.istore_n 1, 1) := by decide +kernel
theorem d_Sha_mixBlock_7 : decode b_Sha_mixBlock 7 = .ok (.aload_n 0, 1) := by decide +kernel
theorem d_Sha_mixBlock_8 : decode b_Sha_mixBlock 8 = .ok (.getfield 13, 3) := by decide +kernel
theorem d_Sha_mixBlock_11 : decode b_Sha_mixBlock 11 = .ok (.iconst 1, 1) := by decide +kernel
theorem d_Sha_mixBlock_12 : decode b_Sha_mixBlock 12 = .ok (.iaload, 1) := by decide +kernel
theorem d_Sha_mixBlock_13 : decode b_Sha_mixBlock 13 = .ok (.istore_n 2, 1) := by decide +kernel
theorem d_Sha_mixBlock_14 : decode b_Sha_mixBlock 14 = .ok (.aload_n 0, 1) := by decide +kernel
theorem d_Sha_mixBlock_15 : decode b_Sha_mixBlock 15 = .ok (.getfield 13, 3) := by decide +kernel
theorem d_Sha_mixBlock_18 : decode b_Sha_mixBlock 18 = .ok (.iconst 2, 1) := by decide +kernel
theorem d_Sha_mixBlock_19 : decode b_Sha_mixBlock 19 = .ok (.iaload, 1) := by decide +kernel
theorem d_Sha_mixBlock_20 : decode b_Sha_mixBlock 20 = .ok (.istore_n 3, 1) := by decide +kernel
theorem d_Sha_mixBlock_21 : decode b_Sha_mixBlock 21 = .ok (.aload_n 0, 1) := by decide +kernel
theorem d_Sha_mixBlock_22 : decode b_Sha_mixBlock 22 = .ok (.getfield 13, 3) := by decide +kernel
theorem d_Sha_mixBlock_25 : decode b_Sha_mixBlock 25 = .ok (.iconst 3, 1) := by decide +kernel
theorem d_Sha_mixBlock_26 : decode b_Sha_mixBlock 26 = .ok (.iaload, 1) := by decide +kernel
theorem d_Sha_mixBlock_27 : decode b_Sha_mixBlock 27 = .ok (.istore 4, 2) := by decide +kernel
theorem d_Sha_mixBlock_29 : decode b_Sha_mixBlock 29 = .ok (.aload_n 0, 1) := by decide +kernel
theorem d_Sha_mixBlock_30 : decode b_Sha_mixBlock 30 = .ok (.getfield 13, 3) := by decide +kernel
theorem d_Sha_mixBlock_33 : decode b_Sha_mixBlock 33 = .ok (.iconst 4, 1) := by decide +kernel
theorem d_Sha_mixBlock_34 : decode b_Sha_mixBlock 34 = .ok (.iaload, 1) := by decide +kernel
theorem d_Sha_mixBlock_35 : decode b_Sha_mixBlock 35 = .ok (.istore 5, 2) := by decide +kernel
theorem d_Sha_mixBlock_37 : decode b_Sha_mixBlock 37 = .ok (.iconst 0, 1) := by decide +kernel
theorem d_Sha_mixBlock_38 : decode b_Sha_mixBlock 38 = .ok (.istore 6, 2) := by decide +kernel
theorem d_Sha_mixBlock_40 : decode b_Sha_mixBlock 40 = .ok (.iload 6, 2) := by decide +kernel
theorem d_Sha_mixBlock_42 : decode b_Sha_mixBlock 42 = .ok (.aload_n 0, 1) := by decide +kernel
theorem d_Sha_mixBlock_43 : decode b_Sha_mixBlock 43 = .ok (.getfield 7, 3) := by decide +kernel
theorem d_Sha_mixBlock_46 : decode b_Sha_mixBlock 46 = .ok (.arraylength, 1) := by decide +kernel
theorem d_Sha_mixBlock_47 : decode b_Sha_mixBlock 47 = .ok (.if_icmp .ge 62, 3) := by decide +kernel
theorem d_Sha_mixBlock_50 : decode b_Sha_mixBlock 50 = .ok (.iload_n 1, 1) := by decide +kernel
theorem d_Sha_mixBlock_51 : decode b_Sha_mixBlock 51 = .ok (.iconst 5, 1) := by decide +kernel
theorem d_Sha_mixBlock_52 : decode b_Sha_mixBlock 52 = .ok (.invokestatic 40, 3) := by decide +kernel
theorem d_Sha_mixBlock_55 : decode b_Sha_mixBlock 55 = .ok (.iload 6, 2) := by decide +kernel
theorem d_Sha_mixBlock_57 : decode b_Sha_mixBlock 57 = .ok (.iload_n 2, 1) := by decide +kernel
theorem d_Sha_mixBlock_58 : decode b_Sha_mixBlock 58 = .ok (.iload_n 3, 1) := by decide +kernel
theorem d_Sha_mixBlock_59 : decode b_Sha_mixBlock 59 = .ok (.iload 4, 2) := by decide +kernel
theorem d_Sha_mixBlock_61 : decode b_Sha_mixBlock 61 = .ok (.invokestatic 48, 3) := by decide +kernel
theorem d_Sha_mixBlock_64 : decode b_Sha_mixBlock 64 = .ok (.iadd, 1) := by decide +kernel
theorem d_Sha_mixBlock_65 : decode b_Sha_mixBlock 65 = .ok (.iload 5, 2) := by decide +kernel
theorem d_Sha_mixBlock_67 : decode b_Sha_mixBlock 67 = .ok (.iadd, 1) := by decide +kernel
theorem d_Sha_mixBlock_68 : decode b_Sha_mixBlock 68 = .ok (.iload 6, 2) := by decide +kernel
theorem d_Sha_mixBlock_70 : decode b_Sha_mixBlock 70 = .ok (.invokestatic 52, 3) := by decide +kernel
theorem d_Sha_mixBlock_73 : decode b_Sha_mixBlock 73 = .ok (.iadd, 1) := by decide +kernel
theorem d_Sha_mixBlock_74 : decode b_Sha_mixBlock 74 = .ok (.aload_n 0, 1) := by decide +kernel
theorem d_Sha_mixBlock_75 : decode b_Sha_mixBlock 75 = .ok (.getfield 7, 3) := by decide +kernel
theorem d_Sha_mixBlock_78 : decode b_Sha_mixBlock 78 = .ok (.iload 6, 2) := by decide +kernel
theorem d_Sha_mixBlock_80 : decode b_Sha_mixBlock 80 = .ok (.iaload, 1) := by decide +kernel
theorem d_Sha_mixBlock_81 : decode b_Sha_mixBlock 81 = .ok (.iadd, 1) := by decide +kernel
theorem d_Sha_mixBlock_82 : decode b_Sha_mixBlock 82 = .ok (.istore 7, 2) := by decide +kernel
theorem d_Sha_mixBlock_84 : decode b_Sha_mixBlock 84 = .ok (.iload 4, 2) := by decide +kernel
theorem d_Sha_mixBlock_86 : decode b_Sha_mixBlock 86 = .ok (.istore 5, 2) := by decide +kernel
theorem d_Sha_mixBlock_88 : decode b_Sha_mixBlock 88 = .ok (.iload_n 3, 1) := by decide +kernel
theorem d_Sha_mixBlock_89 : decode b_Sha_mixBlock 89 = .ok (.istore 4, 2) := by decide +kernel
theorem d_Sha_mixBlock_91 : decode b_Sha_mixBlock 91 = .ok (.iload_n 2, 1) := by decide +kernel
theorem d_Sha_mixBlock_92 : decode b_Sha_mixBlock 92 = .ok (.bipush 30, 2) := by decide +kernel
theorem d_Sha_mixBlock_94 : decode b_Sha_mixBlock 94 = .ok (.invokestatic 40, 3) := by decide +kernel
theorem d_Sha_mixBlock_97 : decode b_Sha_mixBlock 97 = .ok (.istore_n 3, 1) := by decide +kernel
theorem d_Sha_mixBlock_98 : decode b_Sha_mixBlock 98 = .ok (.iload_n 1, 1) := by decide +kernel
theorem d_Sha_mixBlock_99 : decode b_Sha_mixBlock 99 = .ok (.istore_n 2, 1) := by decide +kernel
theorem d_Sha_mixBlock_100 : decode b_Sha_mixBlock 100 = .ok (.iload 7, 2) := by decide +kernel
theorem d_Sha_mixBlock_102 : decode b_Sha_mixBlock 102 = .ok (.istore_n 1, 1) := by decide +kernel
theorem d_Sha_mixBlock_103 : decode b_Sha_mixBlock 103 = .ok (.iinc 6 1, 3) := by decide +kernel
theorem d_Sha_mixBlock_106 : decode b_Sha_mixBlock 106 = .ok (.goto (-66), 3) := by decide +kernel
theorem d_Sha_mixBlock_109 : decode b_Sha_mixBlock 109 = .ok (.aload_n 0, 1) := by decide +kernel
theorem d_Sha_mixBlock_110 : decode b_Sha_mixBlock 110 = .ok (.getfield 13, 3) := by decide +kernel
theorem d_Sha_mixBlock_113 : decode b_Sha_mixBlock 113 = .ok (.iconst 0, 1) := by decide +kernel
theorem d_Sha_mixBlock_114 : decode b_Sha_mixBlock 114 = .ok (.dup2, 1) := by decide +kernel
theorem d_Sha_mixBlock_115 : decode b_Sha_mixBlock 115 = .ok (.iaload, 1) := by decide +kernel
theorem d_Sha_mixBlock_116 : decode b_Sha_mixBlock 116 = .ok (.iload_n 1, 1) := by decide +kernel
theorem d_Sha_mixBlock_117 : decode b_Sha_mixBlock 117 = .ok (.iadd, 1) := by decide +kernel
theorem d_Sha_mixBlock_118 : decode b_Sha_mixBlock 118 = .ok (.iastore, 1) := by decide +kernel
theorem d_Sha_mixBlock_119 : decode b_Sha_mixBlock 119 = .ok (.aload_n 0, 1) := by decide +kernel
theorem d_Sha_mixBlock_120 : decode b_Sha_mixBlock 120 = .ok (.getfield 13, 3) := by decide +kernel
theorem d_Sha_mixBlock_123 : decode b_Sha_mixBlock 123 = .ok (.iconst 1, 1) := by decide +kernel
theorem d_Sha_mixBlock_124 : decode b_Sha_mixBlock 124 = .ok (.dup2, 1) := by decide +kernel
theorem d_Sha_mixBlock_125 : decode b_Sha_mixBlock 125 = .ok (.iaload, 1) := by decide +kernel
theorem d_Sha_mixBlock_126 : decode b_Sha_mixBlock 126 = .ok (.iload_n 2, 1) := by decide +kernel
theorem d_Sha_mixBlock_127 : decode b_Sha_mixBlock 127 = .ok (.iadd, 1) := by decide +kernel
theorem d_Sha_mixBlock_128 : decode b_Sha_mixBlock 128 = .ok (.iastore, 1) := by decide +kernel
theorem d_Sha_mixBlock_129 : decode b_Sha_mixBlock 129 = .ok (.aload_n 0, 1) := by decide +kernel
theorem d_Sha_mixBlock_130 : decode b_Sha_mixBlock 130 = .ok (.getfield 13, 3) := by decide +kernel
theorem d_Sha_mixBlock_133 : decode b_Sha_mixBlock 133 = .ok (.iconst 2, 1) := by decide +kernel
theorem d_Sha_mixBlock_134 : decode b_Sha_mixBlock 134 = .ok (.dup2, 1) := by decide +kernel
theorem d_Sha_mixBlock_135 : decode b_Sha_mixBlock 135 = .ok (.iaload, 1) := by decide +kernel
theorem d_Sha_mixBlock_136 : decode b_Sha_mixBlock 136 = .ok (.iload_n 3, 1) := by decide +kernel
theorem d_Sha_mixBlock_137 : decode b_Sha_mixBlock 137 = .ok (.iadd, 1) := by decide +kernel
theorem d_Sha_mixBlock_138 : decode b_Sha_mixBlock 138 = .ok (.iastore, 1) := by decide +kernel
theorem d_Sha_mixBlock_139 : decode b_Sha_mixBlock 139 = .ok (.aload_n 0, 1) := by decide +kernel
theorem d_Sha_mixBlock_140 : decode b_Sha_mixBlock 140 = .ok (.getfield 13, 3) := by decide +kernel
theorem d_Sha_mixBlock_143 : decode b_Sha_mixBlock 143 = .ok (.iconst 3, 1) := by decide +kernel
theorem d_Sha_mixBlock_144 : decode b_Sha_mixBlock 144 = .ok (.dup2, 1) := by decide +kernel
theorem d_Sha_mixBlock_145 : decode b_Sha_mixBlock 145 = .ok (.iaload, 1) := by decide +kernel
theorem d_Sha_mixBlock_146 : decode b_Sha_mixBlock 146 = .ok (.iload 4, 2) := by decide +kernel
theorem d_Sha_mixBlock_148 : decode b_Sha_mixBlock 148 = .ok (.iadd, 1) := by decide +kernel
theorem d_Sha_mixBlock_149 : decode b_Sha_mixBlock 149 = .ok (.iastore, 1) := by decide +kernel
theorem d_Sha_mixBlock_150 : decode b_Sha_mixBlock 150 = .ok (.aload_n 0, 1) := by decide +kernel
theorem d_Sha_mixBlock_151 : decode b_Sha_mixBlock 151 = .ok (.getfield 13, 3) := by decide +kernel
theorem d_Sha_mixBlock_154 : decode b_Sha_mixBlock 154 = .ok (.iconst 4, 1) := by decide +kernel
theorem d_Sha_mixBlock_155 : decode b_Sha_mixBlock 155 = .ok (.dup2, 1) := by decide +kernel
theorem d_Sha_mixBlock_156 : decode b_Sha_mixBlock 156 = .ok (.iaload, 1) := by decide +kernel
theorem d_Sha_mixBlock_157 : decode b_Sha_mixBlock 157 = .ok (.iload 5, 2) := by decide +kernel
theorem d_Sha_mixBlock_159 : decode b_Sha_mixBlock 159 = .ok (.iadd, 1) := by decide +kernel
theorem d_Sha_mixBlock_160 : decode b_Sha_mixBlock 160 = .ok (.iastore, 1) := by decide +kernel
theorem d_Sha_mixBlock_161 : decode b_Sha_mixBlock 161 = .ok (.return_, 1) := by decide +kernel
theorem d_Sha_chosen_0 : decode b_Sha_chosen 0 = .ok (.iload_n 0, 1) := by decide +kernel
theorem d_Sha_chosen_1 : decode b_Sha_chosen 1 = .ok (.bipush 20, 2) := by decide +kernel
theorem d_Sha_chosen_3 : decode b_Sha_chosen 3 = .ok (.if_icmp .ge 13, 3) := by decide +kernel
theorem d_Sha_chosen_6 : decode b_Sha_chosen 6 = .ok (.iload_n 1, 1) := by decide +kernel
theorem d_Sha_chosen_7 : decode b_Sha_chosen 7 = .ok (.iload_n 2, 1) := by decide +kernel
theorem d_Sha_chosen_8 : decode b_Sha_chosen 8 = .ok (.iand, 1) := by decide +kernel
theorem d_Sha_chosen_9 : decode b_Sha_chosen 9 = .ok (.iload_n 1, 1) := by decide +kernel
theorem d_Sha_chosen_10 : decode b_Sha_chosen 10 = .ok (.iconst (-1), 1) := by decide +kernel
theorem d_Sha_chosen_11 : decode b_Sha_chosen 11 = .ok (.ixor, 1) := by decide +kernel
theorem d_Sha_chosen_12 : decode b_Sha_chosen 12 = .ok (.iload_n 3, 1) := by decide +kernel
theorem d_Sha_chosen_13 : decode b_Sha_chosen 13 = .ok (.iand, 1) := by decide +kernel
theorem d_Sha_chosen_14 : decode b_Sha_chosen 14 = .ok (.ior, 1) := by decide +kernel
theorem d_Sha_chosen_15 : decode b_Sha_chosen 15 = .ok (.ireturn, 1) := by decide +kernel
theorem d_Sha_chosen_16 : decode b_Sha_chosen 16 = .ok (.iload_n 0, 1) := by decide +kernel
theorem d_Sha_chosen_17 : decode b_Sha_chosen 17 = .ok (.bipush 40, 2) := by decide +kernel
theorem d_Sha_chosen_19 : decode b_Sha_chosen 19 = .ok (.if_icmp .lt 9, 3) := by decide +kernel
theorem d_Sha_chosen_22 : decode b_Sha_chosen 22 = .ok (.iload_n 0, 1) := by decide +kernel
theorem d_Sha_chosen_23 : decode b_Sha_chosen 23 = .ok (.bipush 60, 2) := by decide +kernel
theorem d_Sha_chosen_25 : decode b_Sha_chosen 25 = .ok (.if_icmp .lt 9, 3) := by decide +kernel
theorem d_Sha_chosen_28 : decode b_Sha_chosen 28 = .ok (.iload_n 1, 1) := by decide +kernel
theorem d_Sha_chosen_29 : decode b_Sha_chosen 29 = .ok (.iload_n 2, 1) := by decide +kernel
theorem d_Sha_chosen_30 : decode b_Sha_chosen 30 = .ok (.ixor, 1) := by decide +kernel
theorem d_Sha_chosen_31 : decode b_Sha_chosen 31 = .ok (.iload_n 3, 1) := by decide +kernel
theorem d_Sha_chosen_32 : decode b_Sha_chosen 32 = .ok (.ixor, 1) := by decide +kernel
theorem d_Sha_chosen_33 : decode b_Sha_chosen 33 = .ok (.ireturn, 1) := by decide +kernel
theorem d_Sha_chosen_34 : decode b_Sha_chosen 34 = .ok (.iload_n 1, 1) := by decide +kernel
theorem d_Sha_chosen_35 : decode b_Sha_chosen 35 = .ok (.iload_n 2, 1) := by decide +kernel
theorem d_Sha_chosen_36 : decode b_Sha_chosen 36 = .ok (.iand, 1) := by decide +kernel
theorem d_Sha_chosen_37 : decode b_Sha_chosen 37 = .ok (.iload_n 1, 1) := by decide +kernel
theorem d_Sha_chosen_38 : decode b_Sha_chosen 38 = .ok (.iload_n 3, 1) := by decide +kernel
theorem d_Sha_chosen_39 : decode b_Sha_chosen 39 = .ok (.iand, 1) := by decide +kernel
theorem d_Sha_chosen_40 : decode b_Sha_chosen 40 = .ok (.ior, 1) := by decide +kernel
theorem d_Sha_chosen_41 : decode b_Sha_chosen 41 = .ok (.iload_n 2, 1) := by decide +kernel
theorem d_Sha_chosen_42 : decode b_Sha_chosen 42 = .ok (.iload_n 3, 1) := by decide +kernel
theorem d_Sha_chosen_43 : decode b_Sha_chosen 43 = .ok (.iand, 1) := by decide +kernel
theorem d_Sha_chosen_44 : decode b_Sha_chosen 44 = .ok (.ior, 1) := by decide +kernel
theorem d_Sha_chosen_45 : decode b_Sha_chosen 45 = .ok (.ireturn, 1) := by decide +kernel
theorem d_Sha_addend_0 : decode b_Sha_addend 0 = .ok (.iload_n 0, 1) := by decide +kernel
theorem d_Sha_addend_1 : decode b_Sha_addend 1 = .ok (.bipush 20, 2) := by decide +kernel
theorem d_Sha_addend_3 : decode b_Sha_addend 3 = .ok (.if_icmp .ge 6, 3) := by decide +kernel
theorem d_Sha_addend_6 : decode b_Sha_addend 6 = .ok (.ldc 55, 2) := by decide +kernel
theorem d_Sha_addend_8 : decode b_Sha_addend 8 = .ok (.ireturn, 1) := by decide +kernel
theorem d_Sha_addend_9 : decode b_Sha_addend 9 = .ok (.iload_n 0, 1) := by decide +kernel
theorem d_Sha_addend_10 : decode b_Sha_addend 10 = .ok (.bipush 40, 2) := by decide +kernel
theorem d_Sha_addend_12 : decode b_Sha_addend 12 = .ok (.if_icmp .ge 6, 3) := by decide +kernel
theorem d_Sha_addend_15 : decode b_Sha_addend 15 = .ok (.ldc 56, 2) := by decide +kernel
theorem d_Sha_addend_17 : decode b_Sha_addend 17 = .ok (.ireturn, 1) := by decide +kernel
theorem d_Sha_addend_18 : decode b_Sha_addend 18 = .ok (.iload_n 0, 1) := by decide +kernel
theorem d_Sha_addend_19 : decode b_Sha_addend 19 = .ok (.bipush 60, 2) := by decide +kernel
theorem d_Sha_addend_21 : decode b_Sha_addend 21 = .ok (.if_icmp .ge 8, 3) := by decide +kernel
theorem d_Sha_addend_24 : decode b_Sha_addend 24 = .ok (.ldc 57, 2) := by decide +kernel
theorem d_Sha_addend_26 : decode b_Sha_addend 26 = .ok (.goto 5, 3) := by decide +kernel
theorem d_Sha_addend_29 : decode b_Sha_addend 29 = .ok (.ldc 58, 2) := by decide +kernel
theorem d_Sha_addend_31 : decode b_Sha_addend 31 = .ok (.ireturn, 1) := by decide +kernel
theorem d_Sha_rotated_0 : decode b_Sha_rotated 0 = .ok (.iload_n 0, 1) := by decide +kernel
theorem d_Sha_rotated_1 : decode b_Sha_rotated 1 = .ok (.iload_n 1, 1) := by decide +kernel
theorem d_Sha_rotated_2 : decode b_Sha_rotated 2 = .ok (.ishl, 1) := by decide +kernel
theorem d_Sha_rotated_3 : decode b_Sha_rotated 3 = .ok (.iload_n 0, 1) := by decide +kernel
theorem d_Sha_rotated_4 : decode b_Sha_rotated 4 = .ok (.bipush 32, 2) := by decide +kernel
theorem d_Sha_rotated_6 : decode b_Sha_rotated 6 = .ok (.iload_n 1, 1) := by decide +kernel
theorem d_Sha_rotated_7 : decode b_Sha_rotated 7 = .ok (.isub, 1) := by decide +kernel
theorem d_Sha_rotated_8 : decode b_Sha_rotated 8 = .ok (.iushr, 1) := by decide +kernel
theorem d_Sha_rotated_9 : decode b_Sha_rotated 9 = .ok (.ior, 1) := by decide +kernel
theorem d_Sha_rotated_10 : decode b_Sha_rotated 10 = .ok (.ireturn, 1) := by decide +kernel
theorem d_BW_init_0 : decode b_BW_init 0 = .ok (.aload_n 0, 1) := by decide +kernel
theorem d_BW_init_1 : decode b_BW_init 1 = .ok (.invokespecial 1, 3) := by decide +kernel
theorem d_BW_init_4 : decode b_BW_init 4 = .ok (.aload_n 0, 1) := by decide +kernel
theorem d_BW_init_5 : decode b_BW_init 5 = .ok (.new 7, 3) := by decide +kernel
theorem d_BW_init_8 : decode b_BW_init 8 = .ok (.dup, 1) := by decide +kernel
theorem d_BW_init_9 : decode b_BW_init 9 = .ok (.invokespecial 9, 3) := by decide +kernel
theorem d_BW_init_12 : decode b_BW_init 12 = .ok (.putfield 10, 3) := by decide +kernel
theorem d_BW_init_15 : decode b_BW_init 15 = .ok (.aload_n 0, 1) := by decide +kernel
theorem d_BW_init_16 : decode b_BW_init 16 = .ok (.iconst 0, 1) := by decide +kernel
theorem d_BW_init_17 : decode b_BW_init 17 = .ok (.putfield 16, 3) := by decide +kernel
theorem d_BW_init_20 : decode b_BW_init 20 = .ok (.aload_n 0, 1) := by decide +kernel
theorem d_BW_init_21 : decode b_BW_init 21 = .ok (.iconst 0, 1) := by decide +kernel
theorem d_BW_init_22 : decode b_BW_init 22 = .ok (.putfield 20, 3) := by decide +kernel
theorem d_BW_init_25 : decode b_BW_init 25 = .ok (.return_, 1) := by decide +kernel
theorem d_BW_start_0 : decode b_BW_start 0 = .ok (.aload_n 0, 1) := by decide +kernel
theorem d_BW_start_1 : decode b_BW_start 1 = .ok (.aload_n 1, 1) := by decide +kernel
theorem d_BW_start_2 : decode b_BW_start 2 = .ok (.putfield 10, 3) := by decide +kernel
theorem d_BW_start_5 : decode b_BW_start 5 = .ok (.aload_n 0, 1) := by decide +kernel
theorem d_BW_start_6 : decode b_BW_start 6 = .ok (.iconst 0, 1) := by decide +kernel
theorem d_BW_start_7 : decode b_BW_start 7 = .ok (.putfield 16, 3) := by decide +kernel
theorem d_BW_start_10 : decode b_BW_start 10 = .ok (.aload_n 0, 1) := by decide +kernel
theorem d_BW_start_11 : decode b_BW_start 11 = .ok (.iconst 0, 1) := by decide +kernel
theorem d_BW_start_12 : decode b_BW_start 12 = .ok (.putfield 20, 3) := by decide +kernel
theorem d_BW_start_15 : decode b_BW_start 15 = .ok (.return_, 1) := by decide +kernel
theorem d_BW_put_0 : decode b_BW_put 0 = .ok (.aload_n 0, 1) := by decide +kernel
theorem d_BW_put_1 : decode b_BW_put 1 = .ok (.dup, 1) := by decide +kernel
theorem d_BW_put_2 : decode b_BW_put 2 = .ok (.getfield 16, 3) := by decide +kernel
theorem d_BW_put_5 : decode b_BW_put 5 = .ok (.iload_n 1, 1) := by decide +kernel
theorem d_BW_put_6 : decode b_BW_put 6 = .ok (.aload_n 0, 1) := by decide +kernel
theorem d_BW_put_7 : decode b_BW_put 7 = .ok (.getfield 20, 3) := by decide +kernel
theorem d_BW_put_10 : decode b_BW_put 10 = .ok (.ishl, 1) := by decide +kernel
theorem d_BW_put_11 : decode b_BW_put 11 = .ok (.ior, 1) := by decide +kernel
theorem d_BW_put_12 : decode b_BW_put 12 = .ok (.putfield 16, 3) := by decide +kernel
theorem d_BW_put_15 : decode b_BW_put 15 = .ok (.aload_n 0, 1) := by decide +kernel
theorem d_BW_put_16 : decode b_BW_put 16 = .ok (.dup, 1) := by decide +kernel
theorem d_BW_put_17 : decode b_BW_put 17 = .ok (.getfield 20, 3) := by decide +kernel
theorem d_BW_put_20 : decode b_BW_put 20 = .ok (.iload_n 2, 1) := by decide +kernel
theorem d_BW_put_21 : decode b_BW_put 21 = .ok (.iadd, 1) := by decide +kernel
theorem d_BW_put_22 : decode b_BW_put 22 = .ok (.putfield 20, 3) := by decide +kernel
theorem d_BW_put_25 : decode b_BW_put 25 = .ok (.aload_n 0, 1) := by decide +kernel
theorem d_BW_put_26 : decode b_BW_put 26 = .ok (.getfield 20, 3) := by decide +kernel
theorem d_BW_put_29 : decode b_BW_put 29 = .ok (.bipush 8, 2) := by decide +kernel
theorem d_BW_put_31 : decode b_BW_put 31 = .ok (.if_icmp .lt 43, 3) := by decide +kernel
theorem d_BW_put_34 : decode b_BW_put 34 = .ok (.aload_n 0, 1) := by decide +kernel
theorem d_BW_put_35 : decode b_BW_put 35 = .ok (.getfield 10, 3) := by decide +kernel
theorem d_BW_put_38 : decode b_BW_put 38 = .ok (.aload_n 0, 1) := by decide +kernel
theorem d_BW_put_39 : decode b_BW_put 39 = .ok (.getfield 16, 3) := by decide +kernel
theorem d_BW_put_42 : decode b_BW_put 42 = .ok (.sipush 255, 3) := by decide +kernel
theorem d_BW_put_45 : decode b_BW_put 45 = .ok (.iand, 1) := by decide +kernel
theorem d_BW_put_46 : decode b_BW_put 46 = .ok (.invokevirtual 23, 3) := by decide +kernel
theorem d_BW_put_49 : decode b_BW_put 49 = .ok (.aload_n 0, 1) := by decide +kernel
theorem d_BW_put_50 : decode b_BW_put 50 = .ok (.dup, 1) := by decide +kernel
theorem d_BW_put_51 : decode b_BW_put 51 = .ok (.getfield 16, 3) := by decide +kernel
theorem d_BW_put_54 : decode b_BW_put 54 = .ok (.bipush 8, 2) := by decide +kernel
theorem d_BW_put_56 : decode b_BW_put 56 = .ok (.iushr, 1) := by decide +kernel
theorem d_BW_put_57 : decode b_BW_put 57 = .ok (.putfield 16, 3) := by decide +kernel
theorem d_BW_put_60 : decode b_BW_put 60 = .ok (.aload_n 0, 1) := by decide +kernel
theorem d_BW_put_61 : decode b_BW_put 61 = .ok (.dup, 1) := by decide +kernel
theorem d_BW_put_62 : decode b_BW_put 62 = .ok (.getfield 20, 3) := by decide +kernel
theorem d_BW_put_65 : decode b_BW_put 65 = .ok (.bipush 8, 2) := by decide +kernel
theorem d_BW_put_67 : decode b_BW_put 67 = .ok (.isub, 1) := by decide +kernel
theorem d_BW_put_68 : decode b_BW_put 68 = .ok (.putfield 20, 3) := by decide +kernel
theorem d_BW_put_71 : decode b_BW_put 71 = .ok (.goto (-46), 3) := by decide +kernel
theorem d_BW_put_74 : decode b_BW_put 74 = .ok (.return_, 1) := by decide +kernel
theorem d_BW_fillByte_0 : decode b_BW_fillByte 0 = .ok (.aload_n 0, 1) := by decide +kernel
theorem d_BW_fillByte_1 : decode b_BW_fillByte 1 = .ok (.iconst 0, 1) := by decide +kernel
theorem d_BW_fillByte_2 : decode b_BW_fillByte 2 = .ok (.aload_n 0, 1) := by decide +kernel
theorem d_BW_fillByte_3 : decode b_BW_fillByte 3 = .ok (.getfield 20, 3) := by decide +kernel
theorem d_BW_fillByte_6 : decode b_BW_fillByte 6 = .ok (.ineg, 1) := by decide +kernel
theorem d_BW_fillByte_7 : decode b_BW_fillByte 7 = .ok (.bipush 7, 2) := by decide +kernel
theorem d_BW_fillByte_9 : decode b_BW_fillByte 9 = .ok (.iand, 1) := by decide +kernel
theorem d_BW_fillByte_10 : decode b_BW_fillByte 10 = .ok (.invokevirtual 27, 3) := by decide +kernel
theorem d_BW_fillByte_13 : decode b_BW_fillByte 13 = .ok (.return_, 1) := by decide +kernel
theorem d_Fi_init_0 : decode b_Fi_init 0 = .ok (.aload_n 0, 1) := by decide +kernel
theorem d_Fi_init_1 : decode b_Fi_init 1 = .ok (.invokespecial 3, 3) := by decide +kernel
theorem d_Fi_init_4 : decode b_Fi_init 4 = .ok (.aload_n 0, 1) := by decide +kernel
theorem d_Fi_init_5 : decode b_Fi_init 5 = .ok (.sipush 4096, 3) := by decide +kernel
theorem d_Fi_init_8 : decode b_Fi_init 8 = .ok (.newarray .int, 2) := by decide +kernel
theorem d_Fi_init_10 : decode b_Fi_init 10 = .ok (.putfield 11, 3) := by decide +kernel
theorem d_Fi_init_13 : decode b_Fi_init 13 = .ok (.aload_n 0, 1) := by decide +kernel
theorem d_Fi_init_14 : decode b_Fi_init 14 = .ok (.bipush 64, 2) := by decide +kernel
theorem d_Fi_init_16 : decode b_Fi_init 16 = .ok (.newarray .int, 2) := by decide +kernel
theorem d_Fi_init_18 : decode b_Fi_init 18 = .ok (.putfield 15, 3) := by decide +kernel
theorem d_Fi_init_21 : decode b_Fi_init 21 = .ok (.aload_n 0, 1) := by decide +kernel
theorem d_Fi_init_22 : decode b_Fi_init 22 = .ok (.iconst 0, 1) := by decide +kernel
theorem d_Fi_init_23 : decode b_Fi_init 23 = .ok (.putfield 18, 3) := by decide +kernel
theorem d_Fi_init_26 : decode b_Fi_init 26 = .ok (.aload_n 0, 1) := by decide +kernel
theorem d_Fi_init_27 : decode b_Fi_init 27 = .ok (.iconst 0, 1) := by decide +kernel
theorem d_Fi_init_28 : decode b_Fi_init 28 = .ok (.putfield 22, 3) := by decide +kernel
theorem d_Fi_init_31 : decode b_Fi_init 31 = .ok (.return_, 1) := by decide +kernel
theorem d_Fi_start_0 : decode b_Fi_start 0 = .ok (.aload_n 0, 1) := by decide +kernel
theorem d_Fi_start_1 : decode b_Fi_start 1 = .ok (.getfield 11, 3) := by decide +kernel
theorem d_Fi_start_4 : decode b_Fi_start 4 = .ok (.iconst (-1), 1) := by decide +kernel
theorem d_Fi_start_5 : decode b_Fi_start 5 = .ok (.invokestatic 25, 3) := by decide +kernel
theorem d_Fi_start_8 : decode b_Fi_start 8 = .ok (.iload_n 1, 1) := by decide +kernel
theorem d_Fi_start_9 : decode b_Fi_start 9 = .ok (.aload_n 0, 1) := by decide +kernel
theorem d_Fi_start_10 : decode b_Fi_start 10 = .ok (.getfield 15, 3) := by decide +kernel
theorem d_Fi_start_13 : decode b_Fi_start 13 = .ok (.arraylength, 1) := by decide +kernel
theorem d_Fi_start_14 : decode b_Fi_start 14 = .ok (.if_icmp .le 25, 3) := by decide +kernel
theorem d_Fi_start_17 : decode b_Fi_start 17 = .ok (.aload_n 0, 1) := by decide +kernel
theorem d_Fi_start_18 : decode b_Fi_start 18 = .ok (.iload_n 1, 1) := by decide +kernel
theorem d_Fi_start_19 : decode b_Fi_start 19 = .ok (.iconst 4, 1) := by decide +kernel
theorem d_Fi_start_20 : decode b_Fi_start 20 = .ok (.aload_n 0, 1) := by decide +kernel
theorem d_Fi_start_21 : decode b_Fi_start 21 = .ok (.getfield 15, 3) := by decide +kernel
theorem d_Fi_start_24 : decode b_Fi_start 24 = .ok (.arraylength, 1) := by decide +kernel
theorem d_Fi_start_25 : decode b_Fi_start 25 = .ok (.imul, 1) := by decide +kernel
theorem d_Fi_start_26 : decode b_Fi_start 26 = .ok (.ldc 31, 2) := by decide +kernel
theorem d_Fi_start_28 : decode b_Fi_start 28 = .ok (.invokestatic 32, 3) := by decide +kernel
theorem d_Fi_start_31 : decode b_Fi_start 31 = .ok (.invokestatic 38, 3) := by decide +kernel
theorem d_Fi_start_34 : decode b_Fi_start 34 = .ok (.newarray .int, 2) := by decide +kernel
theorem d_Fi_start_36 : decode b_Fi_start 36 = .ok (.putfield 15, 3) := by decide +kernel
theorem d_Fi_start_39 : decode b_Fi_start 39 = .ok (.return_, 1) := by decide +kernel
theorem d_Fi_length_0 : decode b_Fi_length 0 = .ok (.aload_n 0, 1) := by decide +kernel
theorem d_Fi_length_1 : decode b_Fi_length 1 = .ok (.getfield 18, 3) := by decide +kernel
theorem d_Fi_length_4 : decode b_Fi_length 4 = .ok (.ireturn, 1) := by decide +kernel
theorem d_Fi_distance_0 : decode b_Fi_distance 0 = .ok (.aload_n 0, 1) := by decide +kernel
theorem d_Fi_distance_1 : decode b_Fi_distance 1 = .ok (.getfield 22, 3) := by decide +kernel
theorem d_Fi_distance_4 : decode b_Fi_distance 4 = .ok (.ireturn, 1) := by decide +kernel
theorem d_Fi_find_0 : decode b_Fi_find 0 = .ok (.aload_n 0, 1) := by decide +kernel
theorem d_Fi_find_1 : decode b_Fi_find 1 = .ok (.iconst 0, 1) := by decide +kernel
theorem d_Fi_find_2 : decode b_Fi_find 2 = .ok (.putfield 18, 3) := by decide +kernel
theorem d_Fi_find_5 : decode b_Fi_find 5 = .ok (.aload_n 0, 1) := by decide +kernel
theorem d_Fi_find_6 : decode b_Fi_find 6 = .ok (.iconst 0, 1) := by decide +kernel
theorem d_Fi_find_7 : decode b_Fi_find 7 = .ok (.putfield 22, 3) := by decide +kernel
theorem d_Fi_find_10 : decode b_Fi_find 10 = .ok (.sipush 258, 3) := by decide +kernel
theorem d_Fi_find_13 : decode b_Fi_find 13 = .ok (.iload_n 2, 1) := by decide +kernel
theorem d_Fi_find_14 : decode b_Fi_find 14 = .ok (.iload_n 3, 1) := by decide +kernel
theorem d_Fi_find_15 : decode b_Fi_find 15 = .ok (.isub, 1) := by decide +kernel
theorem d_Fi_find_16 : decode b_Fi_find 16 = .ok (.invokestatic 32, 3) := by decide +kernel
theorem d_Fi_find_19 : decode b_Fi_find 19 = .ok (.istore 4, 2) := by decide +kernel
theorem d_Fi_find_21 : decode b_Fi_find 21 = .ok (.iload 4, 2) := by decide +kernel
theorem d_Fi_find_23 : decode b_Fi_find 23 = .ok (.iconst 3, 1) := by decide +kernel
theorem d_Fi_find_24 : decode b_Fi_find 24 = .ok (.if_icmp .ge 4, 3) := by decide +kernel
theorem d_Fi_find_27 : decode b_Fi_find 27 = .ok (.return_, 1) := by decide +kernel
theorem d_Fi_find_28 : decode b_Fi_find 28 = .ok (.iconst 0, 1) := by decide +kernel
theorem d_Fi_find_29 : decode b_Fi_find 29 = .ok (.iload_n 3, 1) := by decide +kernel
theorem d_Fi_find_30 : decode b_Fi_find 30 = .ok (.ldc 41, 2) := by decide +kernel
theorem d_Fi_find_32 : decode b_Fi_find 32 = .ok (.isub, 1) := by decide +kernel
theorem d_Fi_find_33 : decode b_Fi_find 33 = .ok (.invokestatic 38, 3) := by decide +kernel
theorem d_Fi_find_36 : decode b_Fi_find 36 = .ok (.istore 5, 2) := by decide +kernel
theorem d_Fi_find_38 : decode b_Fi_find 38 = .ok (.aload_n 0, 1) := by decide +kernel
theorem d_Fi_find_39 : decode b_Fi_find 39 = .ok (.getfield 11, 3) := by decide +kernel
theorem d_Fi_find_42 : decode b_Fi_find 42 = .ok (.aload_n 1, 1) := by decide +kernel
theorem d_Fi_find_43 : decode b_Fi_find 43 = .ok (.iload_n 3, 1) := by decide +kernel
theorem d_Fi_find_44 : decode b_Fi_find 44 = .ok (.invokestatic 42, 3) := by decide +kernel
theorem d_Fi_find_47 : decode b_Fi_find 47 = .ok (.iaload, 1) := by decide +kernel
theorem d_Fi_find_48 : decode b_Fi_find 48 = .ok (.istore 6, 2) := by decide +kernel
theorem d_Fi_find_50 : decode b_Fi_find 50 = .ok (.iconst 0, 1) := by decide +kernel
theorem d_Fi_find_51 : decode b_Fi_find 51 = .ok (.istore 7, 2) := by decide +kernel
theorem d_Fi_find_53 : decode b_Fi_find 53 = .ok (.iload 7, 2) := by decide +kernel
theorem d_Fi_find_55 : decode b_Fi_find 55 = .ok (.ldc 41, 2) := by decide +kernel
theorem d_Fi_find_57 : decode b_Fi_find 57 = .ok (.if_icmp .ge 71, 3) := by decide +kernel
theorem d_Fi_find_60 : decode b_Fi_find 60 = .ok (.iload 6, 2) := by decide +kernel
theorem d_Fi_find_62 : decode b_Fi_find 62 = .ok (.iload 5, 2) := by decide +kernel
theorem d_Fi_find_64 : decode b_Fi_find 64 = .ok (.if_icmp .lt 64, 3) := by decide +kernel
theorem d_Fi_find_67 : decode b_Fi_find 67 = .ok (.aload_n 0, 1) := by decide +kernel
theorem d_Fi_find_68 : decode b_Fi_find 68 = .ok (.getfield 18, 3) := by decide +kernel
theorem d_Fi_find_71 : decode b_Fi_find 71 = .ok (.iload 4, 2) := by decide +kernel
theorem d_Fi_find_73 : decode b_Fi_find 73 = .ok (.if_icmp .ge 55, 3) := by decide +kernel
theorem d_Fi_find_76 : decode b_Fi_find 76 = .ok (.aload_n 1, 1) := by decide +kernel
theorem d_Fi_find_77 : decode b_Fi_find 77 = .ok (.iload 6, 2) := by decide +kernel
theorem d_Fi_find_79 : decode b_Fi_find 79 = .ok (.aload_n 0, 1) := by decide +kernel
theorem d_Fi_find_80 : decode b_Fi_find 80 = .ok (.getfield 18, 3) := by decide +kernel
theorem d_Fi_find_83 : decode b_Fi_find 83 = .ok (.iadd, 1) := by decide +kernel
theorem d_Fi_find_84 : decode b_Fi_find 84 = .ok (.baload, 1) := by decide +kernel
theorem d_Fi_find_85 : decode b_Fi_find 85 = .ok (.aload_n 1, 1) := by decide +kernel
theorem d_Fi_find_86 : decode b_Fi_find 86 = .ok (.iload_n 3, 1) := by decide +kernel
theorem d_Fi_find_87 : decode b_Fi_find 87 = .ok (.aload_n 0, 1) := by decide +kernel
theorem d_Fi_find_88 : decode b_Fi_find 88 = .ok (.getfield 18, 3) := by decide +kernel
theorem d_Fi_find_91 : decode b_Fi_find 91 = .ok (.iadd, 1) := by decide +kernel
theorem d_Fi_find_92 : decode b_Fi_find 92 = .ok (.baload, 1) := by decide +kernel
theorem d_Fi_find_93 : decode b_Fi_find 93 = .ok (.if_icmp .ne 20, 3) := by decide +kernel
theorem d_Fi_find_96 : decode b_Fi_find 96 = .ok (.aload_n 0, 1) := by decide +kernel
theorem d_Fi_find_97 : decode b_Fi_find 97 = .ok (.aload_n 1, 1) := by decide +kernel
theorem d_Fi_find_98 : decode b_Fi_find 98 = .ok (.iload 6, 2) := by decide +kernel
theorem d_Fi_find_100 : decode b_Fi_find 100 = .ok (.iload_n 3, 1) := by decide +kernel
theorem d_Fi_find_101 : decode b_Fi_find 101 = .ok (.iload 4, 2) := by decide +kernel
theorem d_Fi_find_103 : decode b_Fi_find 103 = .ok (.invokestatic 46, 3) := by decide +kernel
theorem d_Fi_find_106 : decode b_Fi_find 106 = .ok (.iload_n 3, 1) := by decide +kernel
theorem d_Fi_find_107 : decode b_Fi_find 107 = .ok (.iload 6, 2) := by decide +kernel
theorem d_Fi_find_109 : decode b_Fi_find 109 = .ok (.isub, 1) := by decide +kernel
theorem d_Fi_find_110 : decode b_Fi_find 110 = .ok (.invokevirtual 50, 3) := by decide +kernel
theorem d_Fi_find_113 : decode b_Fi_find 113 = .ok (.aload_n 0, 1) := by decide +kernel
theorem d_Fi_find_114 : decode b_Fi_find 114 = .ok (.getfield 15, 3) := by decide +kernel
theorem d_Fi_find_117 : decode b_Fi_find 117 = .ok (.iload 6, 2) := by decide +kernel
theorem d_Fi_find_119 : decode b_Fi_find 119 = .ok (.iaload, 1) := by decide +kernel
theorem d_Fi_find_120 : decode b_Fi_find 120 = .ok (.istore 6, 2) := by decide +kernel
theorem d_Fi_find_122 : decode b_Fi_find 122 = .ok (.iinc 7 1, 3) := by decide +kernel
theorem d_Fi_find_125 : decode b_Fi_find 125 = .ok (.goto (-72), 3) := by decide +kernel
theorem d_Fi_find_128 : decode b_Fi_find 128 = .ok (.return_, 1) := by decide +kernel
theorem d_Fi_note_0 : decode b_Fi_note 0 = .ok (.iload_n 3, 1) := by decide +kernel
theorem d_Fi_note_1 : decode b_Fi_note 1 = .ok (.iload 4, 2) := by decide +kernel
theorem d_Fi_note_3 : decode b_Fi_note 3 = .ok (.iadd, 1) := by decide +kernel
theorem d_Fi_note_4 : decode b_Fi_note 4 = .ok (.iload_n 2, 1) := by decide +kernel
theorem d_Fi_note_5 : decode b_Fi_note 5 = .ok (.iconst 3, 1) := by decide +kernel
theorem d_Fi_note_6 : decode b_Fi_note 6 = .ok (.isub, 1) := by decide +kernel
theorem d_Fi_note_7 : decode b_Fi_note 7 = .ok (.iconst 1, 1) := by decide +kernel
theorem d_Fi_note_8 : decode b_Fi_note 8 = .ok (.iadd, 1) := by decide +kernel
theorem d_Fi_note_9 : decode b_Fi_note 9 = .ok (.invokestatic 32, 3) := by decide +kernel
theorem d_Fi_note_12 : decode b_Fi_note 12 = .ok (.istore 5, 2) := by decide +kernel
theorem d_Fi_note_14 : decode b_Fi_note 14 = .ok (.iload_n 3, 1) := by decide +kernel
theorem d_Fi_note_15 : decode b_Fi_note 15 = .ok (.istore 6, 2) := by decide +kernel
theorem d_Fi_note_17 : decode b_Fi_note 17 = .ok (.iload 6, 2) := by decide +kernel
theorem d_Fi_note_19 : decode b_Fi_note 19 = .ok (.iload 5, 2) := by decide +kernel
theorem d_Fi_note_21 : decode b_Fi_note 21 = .ok (.if_icmp .ge 40, 3) := by decide +kernel
theorem d_Fi_note_24 : decode b_Fi_note 24 = .ok (.aload_n 1, 1) := by decide +kernel
theorem d_Fi_note_25 : decode b_Fi_note 25 = .ok (.iload 6, 2) := by decide +kernel
theorem d_Fi_note_27 : decode b_Fi_note 27 = .ok (.invokestatic 42, 3) := by decide +kernel
theorem d_Fi_note_30 : decode b_Fi_note 30 = .ok (.istore 7, 2) := by decide +kernel
theorem d_Fi_note_32 : decode b_Fi_note 32 = .ok (.aload_n 0, 1) := by decide +kernel
theorem d_Fi_note_33 : decode b_Fi_note 33 = .ok (.getfield 15, 3) := by decide +kernel
theorem d_Fi_note_36 : decode b_Fi_note 36 = .ok (.iload 6, 2) := by decide +kernel
theorem d_Fi_note_38 : decode b_Fi_note 38 = .ok (.aload_n 0, 1) := by decide +kernel
theorem d_Fi_note_39 : decode b_Fi_note 39 = .ok (.getfield 11, 3) := by decide +kernel
theorem d_Fi_note_42 : decode b_Fi_note 42 = .ok (.iload 7, 2) := by decide +kernel
theorem d_Fi_note_44 : decode b_Fi_note 44 = .ok (.iaload, 1) := by decide +kernel
theorem d_Fi_note_45 : decode b_Fi_note 45 = .ok (.iastore, 1) := by decide +kernel
theorem d_Fi_note_46 : decode b_Fi_note 46 = .ok (.aload_n 0, 1) := by decide +kernel
theorem d_Fi_note_47 : decode b_Fi_note 47 = .ok (.getfield 11, 3) := by decide +kernel
theorem d_Fi_note_50 : decode b_Fi_note 50 = .ok (.iload 7, 2) := by decide +kernel
theorem d_Fi_note_52 : decode b_Fi_note 52 = .ok (.iload 6, 2) := by decide +kernel
theorem d_Fi_note_54 : decode b_Fi_note 54 = .ok (.iastore, 1) := by decide +kernel
theorem d_Fi_note_55 : decode b_Fi_note 55 = .ok (.iinc 6 1, 3) := by decide +kernel
theorem d_Fi_note_58 : decode b_Fi_note 58 = .ok (.goto (-41), 3) := by decide +kernel
theorem d_Fi_note_61 : decode b_Fi_note 61 = .ok (.return_, 1) := by decide +kernel
theorem d_Fi_better_0 : decode b_Fi_better 0 = .ok (.iload_n 1, 1) := by decide +kernel
theorem d_Fi_better_1 : decode b_Fi_better 1 = .ok (.iconst 3, 1) := by decide +kernel
theorem d_Fi_better_2 : decode b_Fi_better 2 = .ok (.if_icmp .lt 21, 3) := by decide +kernel
theorem d_Fi_better_5 : decode b_Fi_better 5 = .ok (.iload_n 1, 1) := by decide +kernel
theorem d_Fi_better_6 : decode b_Fi_better 6 = .ok (.aload_n 0, 1) := by decide +kernel
theorem d_Fi_better_7 : decode b_Fi_better 7 = .ok (.getfield 18, 3) := by decide +kernel
theorem d_Fi_better_10 : decode b_Fi_better 10 = .ok (.if_icmp .le 13, 3) := by decide +kernel
theorem d_Fi_better_13 : decode b_Fi_better 13 = .ok (.aload_n 0, 1) := by decide +kernel
theorem d_Fi_better_14 : decode b_Fi_better 14 = .ok (.iload_n 1, 1) := by decide +kernel
theorem d_Fi_better_15 : decode b_Fi_better 15 = .ok (.putfield 18, 3) := by decide +kernel
theorem d_Fi_better_18 : decode b_Fi_better 18 = .ok (.aload_n 0, 1) := by decide +kernel
theorem d_Fi_better_19 : decode b_Fi_better 19 = .ok (.iload_n 2, 1) := by decide +kernel
theorem d_Fi_better_20 : decode b_Fi_better 20 = .ok (.putfield 22, 3) := by decide +kernel
theorem d_Fi_better_23 : decode b_Fi_better 23 = .ok (.return_, 1) := by decide +kernel
theorem d_Fi_sameBytes_0 : decode b_Fi_sameBytes 0 = .ok (.iconst 0, 1) := by decide +kernel
theorem d_Fi_sameBytes_1 : decode b_Fi_sameBytes 1 = .ok (.istore 4, 2) := by decide +kernel
theorem d_Fi_sameBytes_3 : decode b_Fi_sameBytes 3 = .ok (.iload 4, 2) := by decide +kernel
theorem d_Fi_sameBytes_5 : decode b_Fi_sameBytes 5 = .ok (.iload_n 3, 1) := by decide +kernel
theorem d_Fi_sameBytes_6 : decode b_Fi_sameBytes 6 = .ok (.if_icmp .ge 24, 3) := by decide +kernel
theorem d_Fi_sameBytes_9 : decode b_Fi_sameBytes 9 = .ok (.aload_n 0, 1) := by decide +kernel
theorem d_Fi_sameBytes_10 : decode b_Fi_sameBytes 10 = .ok (.iload_n 1, 1) := by decide +kernel
theorem d_Fi_sameBytes_11 : decode b_Fi_sameBytes 11 = .ok (.iload 4, 2) := by decide +kernel
theorem d_Fi_sameBytes_13 : decode b_Fi_sameBytes 13 = .ok (.iadd, 1) := by decide +kernel
theorem d_Fi_sameBytes_14 : decode b_Fi_sameBytes 14 = .ok (.baload, 1) := by decide +kernel
theorem d_Fi_sameBytes_15 : decode b_Fi_sameBytes 15 = .ok (.aload_n 0, 1) := by decide +kernel
theorem d_Fi_sameBytes_16 : decode b_Fi_sameBytes 16 = .ok (.iload_n 2, 1) := by decide +kernel
theorem d_Fi_sameBytes_17 : decode b_Fi_sameBytes 17 = .ok (.iload 4, 2) := by decide +kernel
theorem d_Fi_sameBytes_19 : decode b_Fi_sameBytes 19 = .ok (.iadd, 1) := by decide +kernel
theorem d_Fi_sameBytes_20 : decode b_Fi_sameBytes 20 = .ok (.baload, 1) := by decide +kernel
theorem d_Fi_sameBytes_21 : decode b_Fi_sameBytes 21 = .ok (.if_icmp .ne 9, 3) := by decide +kernel
theorem d_Fi_sameBytes_24 : decode b_Fi_sameBytes 24 = .ok (.iinc 4 1, 3) := by decide +kernel
theorem d_Fi_sameBytes_27 : decode b_Fi_sameBytes 27 = .ok (.goto (-24), 3) := by decide +kernel
theorem d_Fi_sameBytes_30 : decode b_Fi_sameBytes 30 = .ok (.iload 4, 2) := by decide +kernel
theorem d_Fi_sameBytes_32 : decode b_Fi_sameBytes 32 = .ok (.ireturn, 1) := by decide +kernel
theorem d_Fi_slot_0 : decode b_Fi_slot 0 = .ok (.aload_n 0, 1) := by decide +kernel
theorem d_Fi_slot_1 : decode b_Fi_slot 1 = .ok (.iload_n 1, 1) := by decide +kernel
theorem d_Fi_slot_2 : decode b_Fi_slot 2 = .ok (.baload, 1) := by decide +kernel
theorem d_Fi_slot_3 : decode b_Fi_slot 3 = .ok (.sipush 255, 3) := by decide +kernel
theorem d_Fi_slot_6 : decode b_Fi_slot 6 = .ok (.iand, 1) := by decide +kernel
theorem d_Fi_slot_7 : decode b_Fi_slot 7 = .ok (.bipush 16, 2) := by decide +kernel
theorem d_Fi_slot_9 : decode b_Fi_slot 9 = .ok (.ishl, 1) := by decide +kernel
theorem d_Fi_slot_10 : decode b_Fi_slot 10 = .ok (.aload_n 0, 1) := by decide +kernel
theorem d_Fi_slot_11 : decode b_Fi_slot 11 = .ok (.iload_n 1, 1) := by decide +kernel
theorem d_Fi_slot_12 : decode b_Fi_slot 12 = .ok (.iconst 1, 1) := by decide +kernel
theorem d_Fi_slot_13 : decode b_Fi_slot 13 = .ok (.iadd, 1) := by decide +kernel
theorem d_Fi_slot_14 : decode b_Fi_slot 14 = .ok (.baload, 1) := by decide +kernel
theorem d_Fi_slot_15 : decode b_Fi_slot 15 = .ok (.sipush 255, 3) := by decide +kernel
theorem d_Fi_slot_18 : decode b_Fi_slot 18 = .ok (.iand, 1) := by decide +kernel
theorem d_Fi_slot_19 : decode b_Fi_slot 19 = .ok (.bipush 8, 2) := by decide +kernel
theorem d_Fi_slot_21 : decode b_Fi_slot 21 = .ok (.ishl, 1) := by decide +kernel
theorem d_Fi_slot_22 : decode b_Fi_slot 22 = .ok (.ior, 1) := by decide +kernel
theorem d_Fi_slot_23 : decode b_Fi_slot 23 = .ok (.aload_n 0, 1) := by decide +kernel
theorem d_Fi_slot_24 : decode b_Fi_slot 24 = .ok (.iload_n 1, 1) := by decide +kernel
theorem d_Fi_slot_25 : decode b_Fi_slot 25 = .ok (.iconst 2, 1) := by decide +kernel
theorem d_Fi_slot_26 : decode b_Fi_slot 26 = .ok (.iadd, 1) := by decide +kernel
theorem d_Fi_slot_27 : decode b_Fi_slot 27 = .ok (.baload, 1) := by decide +kernel
theorem d_Fi_slot_28 : decode b_Fi_slot 28 = .ok (.sipush 255, 3) := by decide +kernel
theorem d_Fi_slot_31 : decode b_Fi_slot 31 = .ok (.iand, 1) := by decide +kernel
theorem d_Fi_slot_32 : decode b_Fi_slot 32 = .ok (.ior, 1) := by decide +kernel
theorem d_Fi_slot_33 : decode b_Fi_slot 33 = .ok (.istore_n 2, 1) := by decide +kernel
theorem d_Fi_slot_34 : decode b_Fi_slot 34 = .ok (.iload_n 2, 1) := by decide +kernel
theorem d_Fi_slot_35 : decode b_Fi_slot 35 = .ok (.ldc 54, 2) := by decide +kernel
theorem d_Fi_slot_37 : decode b_Fi_slot 37 = .ok (.imul, 1) := by decide +kernel
theorem d_Fi_slot_38 : decode b_Fi_slot 38 = .ok (.bipush 20, 2) := by decide +kernel
theorem d_Fi_slot_40 : decode b_Fi_slot 40 = .ok (.iushr, 1) := by decide +kernel
theorem d_Fi_slot_41 : decode b_Fi_slot 41 = .ok (.ireturn, 1) := by decide +kernel
theorem d_Pr_init_0 : decode b_Pr_init 0 = .ok (.aload_n 0, 1) := by decide +kernel
theorem d_Pr_init_1 : decode b_Pr_init 1 = .ok (.invokespecial 3, 3) := by decide +kernel
theorem d_Pr_init_4 : decode b_Pr_init 4 = .ok (.aload_n 0, 1) := by decide +kernel
theorem d_Pr_init_5 : decode b_Pr_init 5 = .ok (.new 9, 3) := by decide +kernel
theorem d_Pr_init_8 : decode b_Pr_init 8 = .ok (.dup, 1) := by decide +kernel
theorem d_Pr_init_9 : decode b_Pr_init 9 = .ok (.invokespecial 11, 3) := by decide +kernel
theorem d_Pr_init_12 : decode b_Pr_init 12 = .ok (.putfield 12, 3) := by decide +kernel
theorem d_Pr_init_15 : decode b_Pr_init 15 = .ok (.aload_n 0, 1) := by decide +kernel
theorem d_Pr_init_16 : decode b_Pr_init 16 = .ok (.new 18, 3) := by decide +kernel
theorem d_Pr_init_19 : decode b_Pr_init 19 = .ok (.dup, 1) := by decide +kernel
theorem d_Pr_init_20 : decode b_Pr_init 20 = .ok (.invokespecial 20, 3) := by decide +kernel
theorem d_Pr_init_23 : decode b_Pr_init 23 = .ok (.putfield 21, 3) := by decide +kernel
theorem d_Pr_init_26 : decode b_Pr_init 26 = .ok (.aload_n 0, 1) := by decide +kernel
theorem d_Pr_init_27 : decode b_Pr_init 27 = .ok (.iconst 0, 1) := by decide +kernel
theorem d_Pr_init_28 : decode b_Pr_init 28 = .ok (.putfield 25, 3) := by decide +kernel
theorem d_Pr_init_31 : decode b_Pr_init 31 = .ok (.aload_n 0, 1) := by decide +kernel
theorem d_Pr_init_32 : decode b_Pr_init 32 = .ok (.iconst 0, 1) := by decide +kernel
theorem d_Pr_init_33 : decode b_Pr_init 33 = .ok (.putfield 29, 3) := by decide +kernel
theorem d_Pr_init_36 : decode b_Pr_init 36 = .ok (.return_, 1) := by decide +kernel
theorem d_Pr_pairs_0 : decode b_Pr_pairs 0 = .ok (.aload_n 0, 1) := by decide +kernel
theorem d_Pr_pairs_1 : decode b_Pr_pairs 1 = .ok (.getfield 25, 3) := by decide +kernel
theorem d_Pr_pairs_4 : decode b_Pr_pairs 4 = .ok (.ireturn, 1) := by decide +kernel
theorem d_Pr_literals_0 : decode b_Pr_literals 0 = .ok (.aload_n 0, 1) := by decide +kernel
theorem d_Pr_literals_1 : decode b_Pr_literals 1 = .ok (.getfield 29, 3) := by decide +kernel
theorem d_Pr_literals_4 : decode b_Pr_literals 4 = .ok (.ireturn, 1) := by decide +kernel
theorem d_Pr_run_0 : decode b_Pr_run 0 = .ok (.aload_n 1, 1) := by decide +kernel
theorem d_Pr_run_1 : decode b_Pr_run 1 = .ok (.invokevirtual 32, 3) := by decide +kernel
theorem d_Pr_run_4 : decode b_Pr_run 4 = .ok (.istore_n 3, 1) := by decide +kernel
theorem d_Pr_run_5 : decode b_Pr_run 5 = .ok (.aload_n 1, 1) := by decide +kernel
theorem d_Pr_run_6 : decode b_Pr_run 6 = .ok (.invokevirtual 38, 3) := by decide +kernel
theorem d_Pr_run_9 : decode b_Pr_run 9 = .ok (.astore 4, 2) := by decide +kernel
theorem d_Pr_run_11 : decode b_Pr_run 11 = .ok (.aload_n 0, 1) := by decide +kernel
theorem d_Pr_run_12 : decode b_Pr_run 12 = .ok (.aload_n 2, 1) := by decide +kernel
theorem d_Pr_run_13 : decode b_Pr_run 13 = .ok (.invokevirtual 42, 3) := by decide +kernel
theorem d_Pr_run_16 : decode b_Pr_run 16 = .ok (.aload_n 0, 1) := by decide +kernel
theorem d_Pr_run_17 : decode b_Pr_run 17 = .ok (.getfield 21, 3) := by decide +kernel
theorem d_Pr_run_20 : decode b_Pr_run 20 = .ok (.iload_n 3, 1) := by decide +kernel
theorem d_Pr_run_21 : decode b_Pr_run 21 = .ok (.invokevirtual 46, 3) := by decide +kernel
theorem d_Pr_run_24 : decode b_Pr_run 24 = .ok (.aload_n 0, 1) := by decide +kernel
theorem d_Pr_run_25 : decode b_Pr_run 25 = .ok (.iconst 0, 1) := by decide +kernel
theorem d_Pr_run_26 : decode b_Pr_run 26 = .ok (.putfield 25, 3) := by decide +kernel
theorem d_Pr_run_29 : decode b_Pr_run 29 = .ok (.aload_n 0, 1) := by decide +kernel
theorem d_Pr_run_30 : decode b_Pr_run 30 = .ok (.iconst 0, 1) := by decide +kernel
theorem d_Pr_run_31 : decode b_Pr_run 31 = .ok (.putfield 29, 3) := by decide +kernel
theorem d_Pr_run_34 : decode b_Pr_run 34 = .ok (.iconst 0, 1) := by decide +kernel
theorem d_Pr_run_35 : decode b_Pr_run 35 = .ok (.istore 5, 2) := by decide +kernel
theorem d_Pr_run_37 : decode b_Pr_run 37 = .ok (.iconst 0, 1) := by decide +kernel
theorem d_Pr_run_38 : decode b_Pr_run 38 = .ok (.istore 6, 2) := by decide +kernel
theorem d_Pr_run_40 : decode b_Pr_run 40 = .ok (.iload 6, 2) := by decide +kernel
theorem d_Pr_run_42 : decode b_Pr_run 42 = .ok (.iload_n 3, 1) := by decide +kernel
theorem d_Pr_run_43 : decode b_Pr_run 43 = .ok (.if_icmp .ge 116, 3) := by decide +kernel
theorem d_Pr_run_46 : decode b_Pr_run 46 = .ok (.aload_n 0, 1) := by decide +kernel
theorem d_Pr_run_47 : decode b_Pr_run 47 = .ok (.getfield 21, 3) := by decide +kernel
theorem d_Pr_run_50 : decode b_Pr_run 50 = .ok (.aload 4, 2) := by decide +kernel
theorem d_Pr_run_52 : decode b_Pr_run 52 = .ok (.iload_n 3, 1) := by decide +kernel
theorem d_Pr_run_53 : decode b_Pr_run 53 = .ok (.iload 6, 2) := by decide +kernel
theorem d_Pr_run_55 : decode b_Pr_run 55 = .ok (.invokevirtual 50, 3) := by decide +kernel
theorem d_Pr_run_58 : decode b_Pr_run 58 = .ok (.aload_n 0, 1) := by decide +kernel
theorem d_Pr_run_59 : decode b_Pr_run 59 = .ok (.getfield 21, 3) := by decide +kernel
theorem d_Pr_run_62 : decode b_Pr_run 62 = .ok (.invokevirtual 54, 3) := by decide +kernel
theorem d_Pr_run_65 : decode b_Pr_run 65 = .ok (.ifCond .ne 29, 3) := by decide +kernel
theorem d_Pr_run_68 : decode b_Pr_run 68 = .ok (.aload_n 0, 1) := by decide +kernel
theorem d_Pr_run_69 : decode b_Pr_run 69 = .ok (.aload 4, 2) := by decide +kernel
theorem d_Pr_run_71 : decode b_Pr_run 71 = .ok (.iload 6, 2) := by decide +kernel
theorem d_Pr_run_73 : decode b_Pr_run 73 = .ok (.baload, 1) := by decide +kernel
theorem d_Pr_run_74 : decode b_Pr_run 74 = .ok (.sipush 255, 3) := by decide +kernel
theorem d_Pr_run_77 : decode b_Pr_run 77 = .ok (.iand, 1) := by decide +kernel
theorem d_Pr_run_78 : decode b_Pr_run 78 = .ok (.invokevirtual 55, 3) := by decide +kernel
theorem d_Pr_run_81 : decode b_Pr_run 81 = .ok (.aload_n 0, 1) := by decide +kernel
theorem d_Pr_run_82 : decode b_Pr_run 82 = .ok (.dup, 1) := by decide +kernel
theorem d_Pr_run_83 : decode b_Pr_run 83 = .ok (.getfield 29, 3) := by decide +kernel
theorem d_Pr_run_86 : decode b_Pr_run 86 = .ok (.iconst 1, 1) := by decide +kernel
theorem d_Pr_run_87 : decode b_Pr_run 87 = .ok (.iadd, 1) := by decide +kernel
theorem d_Pr_run_88 : decode b_Pr_run 88 = .ok (.putfield 29, 3) := by decide +kernel
theorem d_Pr_run_91 : decode b_Pr_run 91 = .ok (.goto 31, 3) := by decide +kernel
theorem d_Pr_run_94 : decode b_Pr_run 94 = .ok (.aload_n 0, 1) := by decide +kernel
theorem d_Pr_run_95 : decode b_Pr_run 95 = .ok (.aload_n 0, 1) := by decide +kernel
theorem d_Pr_run_96 : decode b_Pr_run 96 = .ok (.getfield 21, 3) := by decide +kernel
theorem d_Pr_run_99 : decode b_Pr_run 99 = .ok (.invokevirtual 54, 3) := by decide +kernel
theorem d_Pr_run_102 : decode b_Pr_run 102 = .ok (.aload_n 0, 1) := by decide +kernel
theorem d_Pr_run_103 : decode b_Pr_run 103 = .ok (.getfield 21, 3) := by decide +kernel
theorem d_Pr_run_106 : decode b_Pr_run 106 = .ok (.invokevirtual 58, 3) := by decide +kernel
theorem d_Pr_run_109 : decode b_Pr_run 109 = .ok (.invokevirtual 61, 3) := by decide +kernel
theorem d_Pr_run_112 : decode b_Pr_run 112 = .ok (.aload_n 0, 1) := by decide +kernel
theorem d_Pr_run_113 : decode b_Pr_run 113 = .ok (.dup, 1) := by decide +kernel
theorem d_Pr_run_114 : decode b_Pr_run 114 = .ok (.getfield 25, 3) := by decide +kernel
theorem d_Pr_run_117 : decode b_Pr_run 117 = .ok (.iconst 1, 1) := by decide +kernel
theorem d_Pr_run_118 : decode b_Pr_run 118 = .ok (.iadd, 1) := by decide +kernel
theorem d_Pr_run_119 : decode b_Pr_run 119 = .ok (.putfield 25, 3) := by decide +kernel
theorem d_Pr_run_122 : decode b_Pr_run 122 = .ok (.iconst 1, 1) := by decide +kernel
theorem d_Pr_run_123 : decode b_Pr_run 123 = .ok (.aload_n 0, 1) := by decide +kernel
