theorem d_Pr_run_124 : decode b_Pr_run 124 = .ok (.getfield 21, 3) := by decide +kernel
theorem d_Pr_run_127 : decode b_Pr_run 127 = .ok (.invokevirtual 54, 3) := by decide +kernel
theorem d_Pr_run_130 : decode b_Pr_run 130 = .ok (.invokestatic 65, 3) := by decide +kernel
theorem d_Pr_run_133 : decode b_Pr_run 133 = .ok (.istore 5, 2) := by decide +kernel
theorem d_Pr_run_135 : decode b_Pr_run 135 = .ok (.aload_n 0, 1) := by decide +kernel
theorem d_Pr_run_136 : decode b_Pr_run 136 = .ok (.getfield 21, 3) := by decide +kernel
theorem d_Pr_run_139 : decode b_Pr_run 139 = .ok (.aload 4, 2) := by decide +kernel
theorem d_Pr_run_141 : decode b_Pr_run 141 = .ok (.iload_n 3, 1) := by decide +kernel
theorem d_Pr_run_142 : decode b_Pr_run 142 = .ok (.iload 6, 2) := by decide +kernel
theorem d_Pr_run_144 : decode b_Pr_run 144 = .ok (.iload 5, 2) := by decide +kernel
theorem d_Pr_run_146 : decode b_Pr_run 146 = .ok (.invokevirtual 71, 3) := by decide +kernel
theorem d_Pr_run_149 : decode b_Pr_run 149 = .ok (.iload 6, 2) := by decide +kernel
theorem d_Pr_run_151 : decode b_Pr_run 151 = .ok (.iload 5, 2) := by decide +kernel
theorem d_Pr_run_153 : decode b_Pr_run 153 = .ok (.iadd, 1) := by decide +kernel
theorem d_Pr_run_154 : decode b_Pr_run 154 = .ok (.istore 6, 2) := by decide +kernel
theorem d_Pr_run_156 : decode b_Pr_run 156 = .ok (.goto (-116), 3) := by decide +kernel
theorem d_Pr_run_159 : decode b_Pr_run 159 = .ok (.aload_n 0, 1) := by decide +kernel
theorem d_Pr_run_160 : decode b_Pr_run 160 = .ok (.sipush 256, 3) := by decide +kernel
theorem d_Pr_run_163 : decode b_Pr_run 163 = .ok (.invokevirtual 55, 3) := by decide +kernel
theorem d_Pr_run_166 : decode b_Pr_run 166 = .ok (.aload_n 0, 1) := by decide +kernel
theorem d_Pr_run_167 : decode b_Pr_run 167 = .ok (.getfield 12, 3) := by decide +kernel
theorem d_Pr_run_170 : decode b_Pr_run 170 = .ok (.invokevirtual 75, 3) := by decide +kernel
theorem d_Pr_run_173 : decode b_Pr_run 173 = .ok (.aload_n 2, 1) := by decide +kernel
theorem d_Pr_run_174 : decode b_Pr_run 174 = .ok (.aload_n 1, 1) := by decide +kernel
theorem d_Pr_run_175 : decode b_Pr_run 175 = .ok (.invokevirtual 78, 3) := by decide +kernel
theorem d_Pr_run_178 : decode b_Pr_run 178 = .ok (.invokevirtual 81, 3) := by decide +kernel
theorem d_Pr_run_181 : decode b_Pr_run 181 = .ok (.return_, 1) := by decide +kernel
theorem d_Pr_startForm_0 : decode b_Pr_startForm 0 = .ok (.aload_n 1, 1) := by decide +kernel
theorem d_Pr_startForm_1 : decode b_Pr_startForm 1 = .ok (.iconst 0, 1) := by decide +kernel
theorem d_Pr_startForm_2 : decode b_Pr_startForm 2 = .ok (.invokevirtual 84, 3) := by decide +kernel
theorem d_Pr_startForm_5 : decode b_Pr_startForm 5 = .ok (.aload_n 1, 1) := by decide +kernel
theorem d_Pr_startForm_6 : decode b_Pr_startForm 6 = .ok (.bipush 120, 2) := by decide +kernel
theorem d_Pr_startForm_8 : decode b_Pr_startForm 8 = .ok (.invokevirtual 87, 3) := by decide +kernel
theorem d_Pr_startForm_11 : decode b_Pr_startForm 11 = .ok (.aload_n 1, 1) := by decide +kernel
theorem d_Pr_startForm_12 : decode b_Pr_startForm 12 = .ok (.iconst 1, 1) := by decide +kernel
theorem d_Pr_startForm_13 : decode b_Pr_startForm 13 = .ok (.invokevirtual 87, 3) := by decide +kernel
theorem d_Pr_startForm_16 : decode b_Pr_startForm 16 = .ok (.aload_n 0, 1) := by decide +kernel
theorem d_Pr_startForm_17 : decode b_Pr_startForm 17 = .ok (.getfield 12, 3) := by decide +kernel
theorem d_Pr_startForm_20 : decode b_Pr_startForm 20 = .ok (.aload_n 1, 1) := by decide +kernel
theorem d_Pr_startForm_21 : decode b_Pr_startForm 21 = .ok (.invokevirtual 90, 3) := by decide +kernel
theorem d_Pr_startForm_24 : decode b_Pr_startForm 24 = .ok (.aload_n 0, 1) := by decide +kernel
theorem d_Pr_startForm_25 : decode b_Pr_startForm 25 = .ok (.getfield 12, 3) := by decide +kernel
theorem d_Pr_startForm_28 : decode b_Pr_startForm 28 = .ok (.iconst 1, 1) := by decide +kernel
theorem d_Pr_startForm_29 : decode b_Pr_startForm 29 = .ok (.iconst 1, 1) := by decide +kernel
theorem d_Pr_startForm_30 : decode b_Pr_startForm 30 = .ok (.invokevirtual 92, 3) := by decide +kernel
theorem d_Pr_startForm_33 : decode b_Pr_startForm 33 = .ok (.aload_n 0, 1) := by decide +kernel
theorem d_Pr_startForm_34 : decode b_Pr_startForm 34 = .ok (.getfield 12, 3) := by decide +kernel
theorem d_Pr_startForm_37 : decode b_Pr_startForm 37 = .ok (.iconst 1, 1) := by decide +kernel
theorem d_Pr_startForm_38 : decode b_Pr_startForm 38 = .ok (.iconst 2, 1) := by decide +kernel
theorem d_Pr_startForm_39 : decode b_Pr_startForm 39 = .ok (.invokevirtual 92, 3) := by decide +kernel
theorem d_Pr_startForm_42 : decode b_Pr_startForm 42 = .ok (.return_, 1) := by decide +kernel
theorem d_Pr_putPair_0 : decode b_Pr_putPair 0 = .ok (.iload_n 1, 1) := by decide +kernel
theorem d_Pr_putPair_1 : decode b_Pr_putPair 1 = .ok (.getstatic 95, 3) := by decide +kernel
theorem d_Pr_putPair_4 : decode b_Pr_putPair 4 = .ok (.invokestatic 99, 3) := by decide +kernel
theorem d_Pr_putPair_7 : decode b_Pr_putPair 7 = .ok (.istore_n 3, 1) := by decide +kernel
theorem d_Pr_putPair_8 : decode b_Pr_putPair 8 = .ok (.aload_n 0, 1) := by decide +kernel
theorem d_Pr_putPair_9 : decode b_Pr_putPair 9 = .ok (.sipush 257, 3) := by decide +kernel
theorem d_Pr_putPair_12 : decode b_Pr_putPair 12 = .ok (.iload_n 3, 1) := by decide +kernel
theorem d_Pr_putPair_13 : decode b_Pr_putPair 13 = .ok (.iadd, 1) := by decide +kernel
theorem d_Pr_putPair_14 : decode b_Pr_putPair 14 = .ok (.invokevirtual 55, 3) := by decide +kernel
theorem d_Pr_putPair_17 : decode b_Pr_putPair 17 = .ok (.aload_n 0, 1) := by decide +kernel
theorem d_Pr_putPair_18 : decode b_Pr_putPair 18 = .ok (.getfield 12, 3) := by decide +kernel
theorem d_Pr_putPair_21 : decode b_Pr_putPair 21 = .ok (.iload_n 1, 1) := by decide +kernel
theorem d_Pr_putPair_22 : decode b_Pr_putPair 22 = .ok (.getstatic 95, 3) := by decide +kernel
theorem d_Pr_putPair_25 : decode b_Pr_putPair 25 = .ok (.iload_n 3, 1) := by decide +kernel
theorem d_Pr_putPair_26 : decode b_Pr_putPair 26 = .ok (.iaload, 1) := by decide +kernel
theorem d_Pr_putPair_27 : decode b_Pr_putPair 27 = .ok (.isub, 1) := by decide +kernel
theorem d_Pr_putPair_28 : decode b_Pr_putPair 28 = .ok (.getstatic 103, 3) := by decide +kernel
theorem d_Pr_putPair_31 : decode b_Pr_putPair 31 = .ok (.iload_n 3, 1) := by decide +kernel
theorem d_Pr_putPair_32 : decode b_Pr_putPair 32 = .ok (.iaload, 1) := by decide +kernel
theorem d_Pr_putPair_33 : decode b_Pr_putPair 33 = .ok (.invokevirtual 92, 3) := by decide +kernel
theorem d_Pr_putPair_36 : decode b_Pr_putPair 36 = .ok (.iload_n 2, 1) := by decide +kernel
theorem d_Pr_putPair_37 : decode b_Pr_putPair 37 = .ok (.getstatic 106, 3) := by decide +kernel
theorem d_Pr_putPair_40 : decode b_Pr_putPair 40 = .ok (.invokestatic 99, 3) := by decide +kernel
theorem d_Pr_putPair_43 : decode b_Pr_putPair 43 = .ok (.istore 4, 2) := by decide +kernel
theorem d_Pr_putPair_45 : decode b_Pr_putPair 45 = .ok (.aload_n 0, 1) := by decide +kernel
theorem d_Pr_putPair_46 : decode b_Pr_putPair 46 = .ok (.getfield 12, 3) := by decide +kernel
theorem d_Pr_putPair_49 : decode b_Pr_putPair 49 = .ok (.iload 4, 2) := by decide +kernel
theorem d_Pr_putPair_51 : decode b_Pr_putPair 51 = .ok (.iconst 5, 1) := by decide +kernel
theorem d_Pr_putPair_52 : decode b_Pr_putPair 52 = .ok (.invokestatic 109, 3) := by decide +kernel
theorem d_Pr_putPair_55 : decode b_Pr_putPair 55 = .ok (.iconst 5, 1) := by decide +kernel
theorem d_Pr_putPair_56 : decode b_Pr_putPair 56 = .ok (.invokevirtual 92, 3) := by decide +kernel
theorem d_Pr_putPair_59 : decode b_Pr_putPair 59 = .ok (.aload_n 0, 1) := by decide +kernel
theorem d_Pr_putPair_60 : decode b_Pr_putPair 60 = .ok (.getfield 12, 3) := by decide +kernel
theorem d_Pr_putPair_63 : decode b_Pr_putPair 63 = .ok (.iload_n 2, 1) := by decide +kernel
theorem d_Pr_putPair_64 : decode b_Pr_putPair 64 = .ok (.getstatic 106, 3) := by decide +kernel
theorem d_Pr_putPair_67 : decode b_Pr_putPair 67 = .ok (.iload 4, 2) := by decide +kernel
theorem d_Pr_putPair_69 : decode b_Pr_putPair 69 = .ok (.iaload, 1) := by decide +kernel
theorem d_Pr_putPair_70 : decode b_Pr_putPair 70 = .ok (.isub, 1) := by decide +kernel
theorem d_Pr_putPair_71 : decode b_Pr_putPair 71 = .ok (.getstatic 112, 3) := by decide +kernel
theorem d_Pr_putPair_74 : decode b_Pr_putPair 74 = .ok (.iload 4, 2) := by decide +kernel
theorem d_Pr_putPair_76 : decode b_Pr_putPair 76 = .ok (.iaload, 1) := by decide +kernel
theorem d_Pr_putPair_77 : decode b_Pr_putPair 77 = .ok (.invokevirtual 92, 3) := by decide +kernel
theorem d_Pr_putPair_80 : decode b_Pr_putPair 80 = .ok (.return_, 1) := by decide +kernel
theorem d_Pr_putSymbol_0 : decode b_Pr_putSymbol 0 = .ok (.iload_n 1, 1) := by decide +kernel
theorem d_Pr_putSymbol_1 : decode b_Pr_putSymbol 1 = .ok (.sipush 144, 3) := by decide +kernel
theorem d_Pr_putSymbol_4 : decode b_Pr_putSymbol 4 = .ok (.if_icmp .ge 24, 3) := by decide +kernel
theorem d_Pr_putSymbol_7 : decode b_Pr_putSymbol 7 = .ok (.aload_n 0, 1) := by decide +kernel
theorem d_Pr_putSymbol_8 : decode b_Pr_putSymbol 8 = .ok (.getfield 12, 3) := by decide +kernel
theorem d_Pr_putSymbol_11 : decode b_Pr_putSymbol 11 = .ok (.bipush 48, 2) := by decide +kernel
theorem d_Pr_putSymbol_13 : decode b_Pr_putSymbol 13 = .ok (.iload_n 1, 1) := by decide +kernel
theorem d_Pr_putSymbol_14 : decode b_Pr_putSymbol 14 = .ok (.iadd, 1) := by decide +kernel
theorem d_Pr_putSymbol_15 : decode b_Pr_putSymbol 15 = .ok (.bipush 8, 2) := by decide +kernel
theorem d_Pr_putSymbol_17 : decode b_Pr_putSymbol 17 = .ok (.invokestatic 109, 3) := by decide +kernel
theorem d_Pr_putSymbol_20 : decode b_Pr_putSymbol 20 = .ok (.bipush 8, 2) := by decide +kernel
theorem d_Pr_putSymbol_22 : decode b_Pr_putSymbol 22 = .ok (.invokevirtual 92, 3) := by decide +kernel
theorem d_Pr_putSymbol_25 : decode b_Pr_putSymbol 25 = .ok (.goto 88, 3) := by decide +kernel
theorem d_Pr_putSymbol_28 : decode b_Pr_putSymbol 28 = .ok (.iload_n 1, 1) := by decide +kernel
theorem d_Pr_putSymbol_29 : decode b_Pr_putSymbol 29 = .ok (.sipush 256, 3) := by decide +kernel
theorem d_Pr_putSymbol_32 : decode b_Pr_putSymbol 32 = .ok (.if_icmp .ge 29, 3) := by decide +kernel
theorem d_Pr_putSymbol_35 : decode b_Pr_putSymbol 35 = .ok (.aload_n 0, 1) := by decide +kernel
theorem d_Pr_putSymbol_36 : decode b_Pr_putSymbol 36 = .ok (.getfield 12, 3) := by decide +kernel
theorem d_Pr_putSymbol_39 : decode b_Pr_putSymbol 39 = .ok (.sipush 400, 3) := by decide +kernel
theorem d_Pr_putSymbol_42 : decode b_Pr_putSymbol 42 = .ok (.iload_n 1, 1) := by decide +kernel
theorem d_Pr_putSymbol_43 : decode b_Pr_putSymbol 43 = .ok (.iadd, 1) := by decide +kernel
theorem d_Pr_putSymbol_44 : decode b_Pr_putSymbol 44 = .ok (.sipush 144, 3) := by decide +kernel
theorem d_Pr_putSymbol_47 : decode b_Pr_putSymbol 47 = .ok (.isub, 1) := by decide +kernel
theorem d_Pr_putSymbol_48 : decode b_Pr_putSymbol 48 = .ok (.bipush 9, 2) := by decide +kernel
theorem d_Pr_putSymbol_50 : decode b_Pr_putSymbol 50 = .ok (.invokestatic 109, 3) := by decide +kernel
theorem d_Pr_putSymbol_53 : decode b_Pr_putSymbol 53 = .ok (.bipush 9, 2) := by decide +kernel
theorem d_Pr_putSymbol_55 : decode b_Pr_putSymbol 55 = .ok (.invokevirtual 92, 3) := by decide +kernel
theorem d_Pr_putSymbol_58 : decode b_Pr_putSymbol 58 = .ok (.goto 55, 3) := by decide +kernel
theorem d_Pr_putSymbol_61 : decode b_Pr_putSymbol 61 = .ok (.iload_n 1, 1) := by decide +kernel
theorem d_Pr_putSymbol_62 : decode b_Pr_putSymbol 62 = .ok (.sipush 280, 3) := by decide +kernel
theorem d_Pr_putSymbol_65 : decode b_Pr_putSymbol 65 = .ok (.if_icmp .ge 25, 3) := by decide +kernel
theorem d_Pr_putSymbol_68 : decode b_Pr_putSymbol 68 = .ok (.aload_n 0, 1) := by decide +kernel
theorem d_Pr_putSymbol_69 : decode b_Pr_putSymbol 69 = .ok (.getfield 12, 3) := by decide +kernel
theorem d_Pr_putSymbol_72 : decode b_Pr_putSymbol 72 = .ok (.iload_n 1, 1) := by decide +kernel
theorem d_Pr_putSymbol_73 : decode b_Pr_putSymbol 73 = .ok (.sipush 256, 3) := by decide +kernel
theorem d_Pr_putSymbol_76 : decode b_Pr_putSymbol 76 = .ok (.isub, 1) := by decide +kernel
theorem d_Pr_putSymbol_77 : decode b_Pr_putSymbol 77 = .ok (.bipush 7, 2) := by decide +kernel
theorem d_Pr_putSymbol_79 : decode b_Pr_putSymbol 79 = .ok (.invokestatic 109, 3) := by decide +kernel
theorem d_Pr_putSymbol_82 : decode b_Pr_putSymbol 82 = .ok (.bipush 7, 2) := by decide +kernel
theorem d_Pr_putSymbol_84 : decode b_Pr_putSymbol 84 = .ok (.invokevirtual 92, 3) := by decide +kernel
theorem d_Pr_putSymbol_87 : decode b_Pr_putSymbol 87 = .ok (.goto 26, 3) := by decide +kernel
theorem d_Pr_putSymbol_90 : decode b_Pr_putSymbol 90 = .ok (.aload_n 0, 1) := by decide +kernel
theorem d_Pr_putSymbol_91 : decode b_Pr_putSymbol 91 = .ok (.getfield 12, 3) := by decide +kernel
theorem d_Pr_putSymbol_94 : decode b_Pr_putSymbol 94 = .ok (.sipush 192, 3) := by decide +kernel
theorem d_Pr_putSymbol_97 : decode b_Pr_putSymbol 97 = .ok (.iload_n 1, 1) := by decide +kernel
theorem d_Pr_putSymbol_98 : decode b_Pr_putSymbol 98 = .ok (.iadd, 1) := by decide +kernel
theorem d_Pr_putSymbol_99 : decode b_Pr_putSymbol 99 = .ok (.sipush 280, 3) := by decide +kernel
theorem d_Pr_putSymbol_102 : decode b_Pr_putSymbol 102 = .ok (.isub, 1) := by decide +kernel
theorem d_Pr_putSymbol_103 : decode b_Pr_putSymbol 103 = .ok (.bipush 8, 2) := by decide +kernel
theorem d_Pr_putSymbol_105 : decode b_Pr_putSymbol 105 = .ok (.invokestatic 109, 3) := by decide +kernel
theorem d_Pr_putSymbol_108 : decode b_Pr_putSymbol 108 = .ok (.bipush 8, 2) := by decide +kernel
theorem d_Pr_putSymbol_110 : decode b_Pr_putSymbol 110 = .ok (.invokevirtual 92, 3) := by decide +kernel
theorem d_Pr_putSymbol_113 : decode b_Pr_putSymbol 113 = .ok (.return_, 1) := by decide +kernel
theorem d_Pr_codeOf_0 : decode b_Pr_codeOf 0 = .ok (.iconst 0, 1) := by decide +kernel
theorem d_Pr_codeOf_1 : decode b_Pr_codeOf 1 = .ok (.istore_n 2, 1) := by decide +kernel
theorem d_Pr_codeOf_2 : decode b_Pr_codeOf 2 = .ok (.iconst 1, 1) := by decide +kernel
theorem d_Pr_codeOf_3 : decode b_Pr_codeOf 3 = .ok (.istore_n 3, 1) := by decide +kernel
theorem d_Pr_codeOf_4 : decode b_Pr_codeOf 4 = .ok (.iload_n 3, 1) := by decide +kernel
theorem d_Pr_codeOf_5 : decode b_Pr_codeOf 5 = .ok (.aload_n 1, 1) := by decide +kernel
theorem d_Pr_codeOf_6 : decode b_Pr_codeOf 6 = .ok (.arraylength, 1) := by decide +kernel
theorem d_Pr_codeOf_7 : decode b_Pr_codeOf 7 = .ok (.if_icmp .ge 18, 3) := by decide +kernel
theorem d_Pr_codeOf_10 : decode b_Pr_codeOf 10 = .ok (.aload_n 1, 1) := by decide +kernel
theorem d_Pr_codeOf_11 : decode b_Pr_codeOf 11 = .ok (.iload_n 3, 1) := by decide +kernel
theorem d_Pr_codeOf_12 : decode b_Pr_codeOf 12 = .ok (.iaload, 1) := by decide +kernel
theorem d_Pr_codeOf_13 : decode b_Pr_codeOf 13 = .ok (.iload_n 0, 1) := by decide +kernel
theorem d_Pr_codeOf_14 : decode b_Pr_codeOf 14 = .ok (.if_icmp .gt 11, 3) := by decide +kernel
theorem d_Pr_codeOf_17 : decode b_Pr_codeOf 17 = .ok (.iload_n 3, 1) := by decide +kernel
theorem d_Pr_codeOf_18 : decode b_Pr_codeOf 18 = .ok (.istore_n 2, 1) := by decide +kernel
theorem d_Pr_codeOf_19 : decode b_Pr_codeOf 19 = .ok (.iinc 3 1, 3) := by decide +kernel
theorem d_Pr_codeOf_22 : decode b_Pr_codeOf 22 = .ok (.goto (-18), 3) := by decide +kernel
theorem d_Pr_codeOf_25 : decode b_Pr_codeOf 25 = .ok (.iload_n 2, 1) := by decide +kernel
theorem d_Pr_codeOf_26 : decode b_Pr_codeOf 26 = .ok (.ireturn, 1) := by decide +kernel
theorem d_Pr_reversed_0 : decode b_Pr_reversed 0 = .ok (.iconst 0, 1) := by decide +kernel
theorem d_Pr_reversed_1 : decode b_Pr_reversed 1 = .ok (.istore_n 2, 1) := by decide +kernel
theorem d_Pr_reversed_2 : decode b_Pr_reversed 2 = .ok (.iconst 0, 1) := by decide +kernel
theorem d_Pr_reversed_3 : decode b_Pr_reversed 3 = .ok (.istore_n 3, 1) := by decide +kernel
theorem d_Pr_reversed_4 : decode b_Pr_reversed 4 = .ok (.iload_n 3, 1) := by decide +kernel
theorem d_Pr_reversed_5 : decode b_Pr_reversed 5 = .ok (.iload_n 1, 1) := by decide +kernel
theorem d_Pr_reversed_6 : decode b_Pr_reversed 6 = .ok (.if_icmp .ge 19, 3) := by decide +kernel
theorem d_Pr_reversed_9 : decode b_Pr_reversed 9 = .ok (.iload_n 2, 1) := by decide +kernel
theorem d_Pr_reversed_10 : decode b_Pr_reversed 10 = .ok (.iconst 1, 1) := by decide +kernel
theorem d_Pr_reversed_11 : decode b_Pr_reversed 11 = .ok (.ishl, 1) := by decide +kernel
theorem d_Pr_reversed_12 : decode b_Pr_reversed 12 = .ok (.iload_n 0, 1) := by decide +kernel
theorem d_Pr_reversed_13 : decode b_Pr_reversed 13 = .ok (.iload_n 3, 1) := by decide +kernel
theorem d_Pr_reversed_14 : decode b_Pr_reversed 14 = .ok (.iushr, 1) := by decide +kernel
theorem d_Pr_reversed_15 : decode b_Pr_reversed 15 = .ok (.iconst 1, 1) := by decide +kernel
theorem d_Pr_reversed_16 : decode b_Pr_reversed 16 = .ok (.iand, 1) := by decide +kernel
theorem d_Pr_reversed_17 : decode b_Pr_reversed 17 = .ok (.ior, 1) := by decide +kernel
theorem d_Pr_reversed_18 : decode b_Pr_reversed 18 = .ok (.istore_n 2, 1) := by decide +kernel
theorem d_Pr_reversed_19 : decode b_Pr_reversed 19 = .ok (.iinc 3 1, 3) := by decide +kernel
theorem d_Pr_reversed_22 : decode b_Pr_reversed 22 = .ok (.goto (-18), 3) := by decide +kernel
theorem d_Pr_reversed_25 : decode b_Pr_reversed 25 = .ok (.iload_n 2, 1) := by decide +kernel
theorem d_Pr_reversed_26 : decode b_Pr_reversed 26 = .ok (.ireturn, 1) := by decide +kernel
theorem d_BR_init_0 : decode b_BR_init 0 = .ok (.aload_n 0, 1) := by decide +kernel
theorem d_BR_init_1 : decode b_BR_init 1 = .ok (.invokespecial 1, 3) := by decide +kernel
theorem d_BR_init_4 : decode b_BR_init 4 = .ok (.aload_n 0, 1) := by decide +kernel
theorem d_BR_init_5 : decode b_BR_init 5 = .ok (.iconst 0, 1) := by decide +kernel
theorem d_BR_init_6 : decode b_BR_init 6 = .ok (.newarray .byte, 2) := by decide +kernel
theorem d_BR_init_8 : decode b_BR_init 8 = .ok (.putfield 7, 3) := by decide +kernel
theorem d_BR_init_11 : decode b_BR_init 11 = .ok (.aload_n 0, 1) := by decide +kernel
theorem d_BR_init_12 : decode b_BR_init 12 = .ok (.iconst 0, 1) := by decide +kernel
theorem d_BR_init_13 : decode b_BR_init 13 = .ok (.putfield 13, 3) := by decide +kernel
theorem d_BR_init_16 : decode b_BR_init 16 = .ok (.aload_n 0, 1) := by decide +kernel
theorem d_BR_init_17 : decode b_BR_init 17 = .ok (.iconst 0, 1) := by decide +kernel
theorem d_BR_init_18 : decode b_BR_init 18 = .ok (.putfield 17, 3) := by decide +kernel
theorem d_BR_init_21 : decode b_BR_init 21 = .ok (.aload_n 0, 1) := by decide +kernel
theorem d_BR_init_22 : decode b_BR_init 22 = .ok (.iconst 0, 1) := by decide +kernel
theorem d_BR_init_23 : decode b_BR_init 23 = .ok (.putfield 20, 3) := by decide +kernel
theorem d_BR_init_26 : decode b_BR_init 26 = .ok (.return_, 1) := by decide +kernel
theorem d_BR_start_0 : decode b_BR_start 0 = .ok (.aload_n 0, 1) := by decide +kernel
theorem d_BR_start_1 : decode b_BR_start 1 = .ok (.aload_n 1, 1) := by decide +kernel
theorem d_BR_start_2 : decode b_BR_start 2 = .ok (.invokevirtual 24, 3) := by decide +kernel
theorem d_BR_start_5 : decode b_BR_start 5 = .ok (.putfield 7, 3) := by decide +kernel
theorem d_BR_start_8 : decode b_BR_start 8 = .ok (.aload_n 0, 1) := by decide +kernel
theorem d_BR_start_9 : decode b_BR_start 9 = .ok (.bipush 8, 2) := by decide +kernel
theorem d_BR_start_11 : decode b_BR_start 11 = .ok (.aload_n 1, 1) := by decide +kernel
theorem d_BR_start_12 : decode b_BR_start 12 = .ok (.invokevirtual 29, 3) := by decide +kernel
theorem d_BR_start_15 : decode b_BR_start 15 = .ok (.imul, 1) := by decide +kernel
theorem d_BR_start_16 : decode b_BR_start 16 = .ok (.putfield 13, 3) := by decide +kernel
theorem d_BR_start_19 : decode b_BR_start 19 = .ok (.aload_n 0, 1) := by decide +kernel
theorem d_BR_start_20 : decode b_BR_start 20 = .ok (.iconst 0, 1) := by decide +kernel
theorem d_BR_start_21 : decode b_BR_start 21 = .ok (.putfield 17, 3) := by decide +kernel
theorem d_BR_start_24 : decode b_BR_start 24 = .ok (.aload_n 0, 1) := by decide +kernel
theorem d_BR_start_25 : decode b_BR_start 25 = .ok (.iconst 0, 1) := by decide +kernel
theorem d_BR_start_26 : decode b_BR_start 26 = .ok (.putfield 20, 3) := by decide +kernel
theorem d_BR_start_29 : decode b_BR_start 29 = .ok (.return_, 1) := by decide +kernel
theorem d_BR_take_0 : decode b_BR_take 0 = .ok (.iconst 0, 1) := by decide +kernel
theorem d_BR_take_1 : decode b_BR_take 1 = .ok (.istore_n 2, 1) := by decide +kernel
theorem d_BR_take_2 : decode b_BR_take 2 = .ok (.iconst 0, 1) := by decide +kernel
theorem d_BR_take_3 : decode b_BR_take 3 = .ok (.istore_n 3, 1) := by decide +kernel
theorem d_BR_take_4 : decode b_BR_take 4 = .ok (.iload_n 3, 1) := by decide +kernel
theorem d_BR_take_5 : decode b_BR_take 5 = .ok (.iload_n 1, 1) := by decide +kernel
theorem d_BR_take_6 : decode b_BR_take 6 = .ok (.if_icmp .ge 63, 3) := by decide +kernel
theorem d_BR_take_9 : decode b_BR_take 9 = .ok (.aload_n 0, 1) := by decide +kernel
theorem d_BR_take_10 : decode b_BR_take 10 = .ok (.getfield 17, 3) := by decide +kernel
theorem d_BR_take_13 : decode b_BR_take 13 = .ok (.aload_n 0, 1) := by decide +kernel
theorem d_BR_take_14 : decode b_BR_take 14 = .ok (.getfield 13, 3) := by decide +kernel
theorem d_BR_take_17 : decode b_BR_take 17 = .ok (.if_icmp .lt 10, 3) := by decide +kernel
theorem d_BR_take_20 : decode b_BR_take 20 = .ok (.aload_n 0, 1) := by decide +kernel
theorem d_BR_take_21 : decode b_BR_take 21 = .ok (.iconst 1, 1) := by decide +kernel
theorem d_BR_take_22 : decode b_BR_take 22 = .ok (.putfield 20, 3) := by decide +kernel
theorem d_BR_take_25 : decode b_BR_take 25 = .ok (.iload_n 2, 1) := by decide +kernel
theorem d_BR_take_26 : decode b_BR_take 26 = .ok (.ireturn, 1) := by decide +kernel
theorem d_BR_take_27 : decode b_BR_take 27 = .ok (.iload_n 2, 1) := by decide +kernel
theorem d_BR_take_28 : decode b_BR_take 28 = .ok (.aload_n 0, 1) := by decide +kernel
theorem d_BR_take_29 : decode b_BR_take 29 = .ok (.getfield 7, 3) := by decide +kernel
theorem d_BR_take_32 : decode b_BR_take 32 = .ok (.aload_n 0, 1) := by decide +kernel
theorem d_BR_take_33 : decode b_BR_take 33 = .ok (.getfield 17, 3) := by decide +kernel
theorem d_BR_take_36 : decode b_BR_take 36 = .ok (.iconst 3, 1) := by decide +kernel
theorem d_BR_take_37 : decode b_BR_take 37 = .ok (.ishr, 1) := by decide +kernel
theorem d_BR_take_38 : decode b_BR_take 38 = .ok (.baload, 1) := by decide +kernel
theorem d_BR_take_39 : decode b_BR_take 39 = .ok (.aload_n 0, 1) := by decide +kernel
theorem d_BR_take_40 : decode b_BR_take 40 = .ok (.getfield 17, 3) := by decide +kernel
theorem d_BR_take_43 : decode b_BR_take 43 = .ok (.bipush 7, 2) := by decide +kernel
theorem d_BR_take_45 : decode b_BR_take 45 = .ok (.iand, 1) := by decide +kernel
theorem d_BR_take_46 : decode b_BR_take 46 = .ok (.ishr, 1) := by decide +kernel
theorem d_BR_take_47 : decode b_BR_take 47 = .ok (.iconst 1, 1) := by decide +kernel
theorem d_BR_take_48 : decode b_BR_take 48 = .ok (.iand, 1) := by decide +kernel
theorem d_BR_take_49 : decode b_BR_take 49 = .ok (.iload_n 3, 1) := by decide +kernel
theorem d_BR_take_50 : decode b_BR_take 50 = .ok (.ishl, 1) := by decide +kernel
theorem d_BR_take_51 : decode b_BR_take 51 = .ok (.ior, 1) := by decide +kernel
theorem d_BR_take_52 : decode b_BR_take 52 = .ok (.istore_n 2, 1) := by decide +kernel
theorem d_BR_take_53 : decode b_BR_take 53 = .ok (.aload_n 0, 1) := by decide +kernel
theorem d_BR_take_54 : decode b_BR_take 54 = .ok (.dup, 1) := by decide +kernel
theorem d_BR_take_55 : decode b_BR_take 55 = .ok (.getfield 17, 3) := by decide +kernel
theorem d_BR_take_58 : decode b_BR_take 58 = .ok (.iconst 1, 1) := by decide +kernel
theorem d_BR_take_59 : decode b_BR_take 59 = .ok (.iadd, 1) := by decide +kernel
theorem d_BR_take_60 : decode b_BR_take 60 = .ok (.putfield 17, 3) := by decide +kernel
theorem d_BR_take_63 : decode b_BR_take 63 = .ok (.iinc 3 1, 3) := by decide +kernel
theorem d_BR_take_66 : decode b_BR_take 66 = .ok (.goto (-62), 3) := by decide +kernel
theorem d_BR_take_69 : decode b_BR_take 69 = .ok (.iload_n 2, 1) := by decide +kernel
theorem d_BR_take_70 : decode b_BR_take 70 = .ok (.ireturn, 1) := by decide +kernel
theorem d_BR_takeNumber_0 : decode b_BR_takeNumber 0 = .ok (.iconst 0, 1) := by decide +kernel
theorem d_BR_takeNumber_1 : decode b_BR_takeNumber 1 = .ok (.istore_n 1, 1) := by decide +kernel
theorem d_BR_takeNumber_2 : decode b_BR_takeNumber 2 = .ok (.iconst 0, 1) := by decide +kernel
theorem d_BR_takeNumber_3 : decode b_BR_takeNumber 3 = .ok (.istore_n 2, 1) := by decide +kernel
theorem d_BR_takeNumber_4 : decode b_BR_takeNumber 4 = .ok (.iload_n 2, 1) := by decide +kernel
theorem d_BR_takeNumber_5 : decode b_BR_takeNumber 5 = .ok (.iconst 4, 1) := by decide +kernel
theorem d_BR_takeNumber_6 : decode b_BR_takeNumber 6 = .ok (.if_icmp .ge 21, 3) := by decide +kernel
theorem d_BR_takeNumber_9 : decode b_BR_takeNumber 9 = .ok (.iload_n 1, 1) := by decide +kernel
theorem d_BR_takeNumber_10 : decode b_BR_takeNumber 10 = .ok (.bipush 8, 2) := by decide +kernel
theorem d_BR_takeNumber_12 : decode b_BR_takeNumber 12 = .ok (.ishl, 1) := by decide +kernel
theorem d_BR_takeNumber_13 : decode b_BR_takeNumber 13 = .ok (.aload_n 0, 1) := by decide +kernel
theorem d_BR_takeNumber_14 : decode b_BR_takeNumber 14 = .ok (.bipush 8, 2) := by decide +kernel
theorem d_BR_takeNumber_16 : decode b_BR_takeNumber 16 = .ok (.invokevirtual 33, 3) := by decide +kernel
theorem d_BR_takeNumber_19 : decode b_BR_takeNumber 19 = .ok (.ior, 1) := by decide +kernel
theorem d_BR_takeNumber_20 : decode b_BR_takeNumber 20 = .ok (.istore_n 1, 1) := by decide +kernel
theorem d_BR_takeNumber_21 : decode b_BR_takeNumber 21 = .ok (.iinc 2 1, 3) := by decide +kernel
theorem d_BR_takeNumber_24 : decode b_BR_takeNumber 24 = .ok (.goto (-20), 3) := by decide +kernel
theorem d_BR_takeNumber_27 : decode b_BR_takeNumber 27 = .ok (.iload_n 1, 1) := by decide +kernel
theorem d_BR_takeNumber_28 : decode b_BR_takeNumber 28 = .ok (.ireturn, 1) := by decide +kernel
theorem d_BR_skipToByte_0 : decode b_BR_skipToByte 0 = .ok (.aload_n 0, 1) := by decide +kernel
theorem d_BR_skipToByte_1 : decode b_BR_skipToByte 1 = .ok (.aload_n 0, 1) := by decide +kernel
theorem d_BR_skipToByte_2 : decode b_BR_skipToByte 2 = .ok (.getfield 17, 3) := by decide +kernel
theorem d_BR_skipToByte_5 : decode b_BR_skipToByte 5 = .ok (.bipush 7, 2) := by decide +kernel
theorem d_BR_skipToByte_7 : decode b_BR_skipToByte 7 = .ok (.iadd, 1) := by decide +kernel
theorem d_BR_skipToByte_8 : decode b_BR_skipToByte 8 = .ok (.bipush (-8), 2) := by decide +kernel
theorem d_BR_skipToByte_10 : decode b_BR_skipToByte 10 = .ok (.iand, 1) := by decide +kernel
theorem d_BR_skipToByte_11 : decode b_BR_skipToByte 11 = .ok (.putfield 17, 3) := by decide +kernel
theorem d_BR_skipToByte_14 : decode b_BR_skipToByte 14 = .ok (.return_, 1) := by decide +kernel
theorem d_BR_ranOut_0 : decode b_BR_ranOut 0 = .ok (.aload_n 0, 1) := by decide +kernel
theorem d_BR_ranOut_1 : decode b_BR_ranOut 1 = .ok (.getfield 20, 3) := by decide +kernel
theorem d_BR_ranOut_4 : decode b_BR_ranOut 4 = .ok (.ireturn, 1) := by decide +kernel
theorem d_BR_isAtEnd_0 : decode b_BR_isAtEnd 0 = .ok (.aload_n 0, 1) := by decide +kernel
theorem d_BR_isAtEnd_1 : decode b_BR_isAtEnd 1 = .ok (.getfield 17, 3) := by decide +kernel
theorem d_BR_isAtEnd_4 : decode b_BR_isAtEnd 4 = .ok (.aload_n 0, 1) := by decide +kernel
theorem d_BR_isAtEnd_5 : decode b_BR_isAtEnd 5 = .ok (.getfield 13, 3) := by decide +kernel
theorem d_BR_isAtEnd_8 : decode b_BR_isAtEnd 8 = .ok (.if_icmp .ne 14, 3) := by decide +kernel
theorem d_BR_isAtEnd_11 : decode b_BR_isAtEnd 11 = .ok (.aload_n 0, 1) := by decide +kernel
theorem d_BR_isAtEnd_12 : decode b_BR_isAtEnd 12 = .ok (.getfield 20, 3) := by decide +kernel
theorem d_BR_isAtEnd_15 : decode b_BR_isAtEnd 15 = .ok (.ifCond .ne 7, 3) := by decide +kernel
theorem d_BR_isAtEnd_18 : decode b_BR_isAtEnd 18 = .ok (.iconst 1, 1) := by decide +kernel
theorem d_BR_isAtEnd_19 : decode b_BR_isAtEnd 19 = .ok (.goto 4, 3) := by decide +kernel
theorem d_BR_isAtEnd_22 : decode b_BR_isAtEnd 22 = .ok (.iconst 0, 1) := by decide +kernel
theorem d_BR_isAtEnd_23 : decode b_BR_isAtEnd 23 = .ok (.ireturn, 1) := by decide +kernel
theorem d_Co_init_0 : decode b_Co_init 0 = .ok (.aload_n 0, 1) := by decide +kernel
theorem d_Co_init_1 : decode b_Co_init 1 = .ok (.invokespecial 1, 3) := by decide +kernel
theorem d_Co_init_4 : decode b_Co_init 4 = .ok (.aload_n 0, 1) := by decide +kernel
theorem d_Co_init_5 : decode b_Co_init 5 = .ok (.bipush 16, 2) := by decide +kernel
theorem d_Co_init_7 : decode b_Co_init 7 = .ok (.newarray .int, 2) := by decide +kernel
theorem d_Co_init_9 : decode b_Co_init 9 = .ok (.putfield 9, 3) := by decide +kernel
theorem d_Co_init_12 : decode b_Co_init 12 = .ok (.aload_n 0, 1) := by decide +kernel
theorem d_Co_init_13 : decode b_Co_init 13 = .ok (.bipush 16, 2) := by decide +kernel
theorem d_Co_init_15 : decode b_Co_init 15 = .ok (.newarray .int, 2) := by decide +kernel
theorem d_Co_init_17 : decode b_Co_init 17 = .ok (.putfield 13, 3) := by decide +kernel
theorem d_Co_init_20 : decode b_Co_init 20 = .ok (.aload_n 0, 1) := by decide +kernel
theorem d_Co_init_21 : decode b_Co_init 21 = .ok (.iload_n 1, 1) := by decide +kernel
theorem d_Co_init_22 : decode b_Co_init 22 = .ok (.newarray .int, 2) := by decide +kernel
theorem d_Co_init_24 : decode b_Co_init 24 = .ok (.putfield 16, 3) := by decide +kernel
theorem d_Co_init_27 : decode b_Co_init 27 = .ok (.return_, 1) := by decide +kernel
theorem d_Co_tell_0 : decode b_Co_tell 0 = .ok (.aload_n 0, 1) := by decide +kernel
theorem d_Co_tell_1 : decode b_Co_tell 1 = .ok (.getfield 9, 3) := by decide +kernel
theorem d_Co_tell_4 : decode b_Co_tell 4 = .ok (.iconst 0, 1) := by decide +kernel
theorem d_Co_tell_5 : decode b_Co_tell 5 = .ok (.invokestatic 19, 3) := by decide +kernel
theorem d_Co_tell_8 : decode b_Co_tell 8 = .ok (.iconst 0, 1) := by decide +kernel
theorem d_Co_tell_9 : decode b_Co_tell 9 = .ok (.istore 4, 2) := by decide +kernel
theorem d_Co_tell_11 : decode b_Co_tell 11 = .ok (.iload 4, 2) := by decide +kernel
theorem d_Co_tell_13 : decode b_Co_tell 13 = .ok (.iload_n 3, 1) := by decide +kernel
theorem d_Co_tell_14 : decode b_Co_tell 14 = .ok (.if_icmp .ge 24, 3) := by decide +kernel
theorem d_Co_tell_17 : decode b_Co_tell 17 = .ok (.aload_n 0, 1) := by decide +kernel
theorem d_Co_tell_18 : decode b_Co_tell 18 = .ok (.getfield 9, 3) := by decide +kernel
theorem d_Co_tell_21 : decode b_Co_tell 21 = .ok (.aload_n 1, 1) := by decide +kernel
theorem d_Co_tell_22 : decode b_Co_tell 22 = .ok (.iload_n 2, 1) := by decide +kernel
theorem d_Co_tell_23 : decode b_Co_tell 23 = .ok (.iload 4, 2) := by decide +kernel
theorem d_Co_tell_25 : decode b_Co_tell 25 = .ok (.iadd, 1) := by decide +kernel
theorem d_Co_tell_26 : decode b_Co_tell 26 = .ok (.iaload, 1) := by decide +kernel
theorem d_Co_tell_27 : decode b_Co_tell 27 = .ok (.dup2, 1) := by decide +kernel
theorem d_Co_tell_28 : decode b_Co_tell 28 = .ok (.iaload, 1) := by decide +kernel
theorem d_Co_tell_29 : decode b_Co_tell 29 = .ok (.iconst 1, 1) := by decide +kernel
theorem d_Co_tell_30 : decode b_Co_tell 30 = .ok (.iadd, 1) := by decide +kernel
theorem d_Co_tell_31 : decode b_Co_tell 31 = .ok (.iastore, 1) := by decide +kernel
theorem d_Co_tell_32 : decode b_Co_tell 32 = .ok (.iinc 4 1, 3) := by decide +kernel
theorem d_Co_tell_35 : decode b_Co_tell 35 = .ok (.goto (-24), 3) := by decide +kernel
theorem d_Co_tell_38 : decode b_Co_tell 38 = .ok (.aload_n 0, 1) := by decide +kernel
theorem d_Co_tell_39 : decode b_Co_tell 39 = .ok (.getfield 9, 3) := by decide +kernel
theorem d_Co_tell_42 : decode b_Co_tell 42 = .ok (.iconst 0, 1) := by decide +kernel
theorem d_Co_tell_43 : decode b_Co_tell 43 = .ok (.iconst 0, 1) := by decide +kernel
theorem d_Co_tell_44 : decode b_Co_tell 44 = .ok (.iastore, 1) := by decide +kernel
theorem d_Co_tell_45 : decode b_Co_tell 45 = .ok (.aload_n 0, 1) := by decide +kernel
theorem d_Co_tell_46 : decode b_Co_tell 46 = .ok (.getfield 13, 3) := by decide +kernel
theorem d_Co_tell_49 : decode b_Co_tell 49 = .ok (.iconst 0, 1) := by decide +kernel
theorem d_Co_tell_50 : decode b_Co_tell 50 = .ok (.iconst 0, 1) := by decide +kernel
theorem d_Co_tell_51 : decode b_Co_tell 51 = .ok (.iastore, 1) := by decide +kernel
theorem d_Co_tell_52 : decode b_Co_tell 52 = .ok (.iconst 1, 1) := by decide +kernel
theorem d_Co_tell_53 : decode b_Co_tell 53 = .ok (.istore 4, 2) := by decide +kernel
theorem d_Co_tell_55 : decode b_Co_tell 55 = .ok (.iload 4, 2) := by decide +kernel
theorem d_Co_tell_57 : decode b_Co_tell 57 = .ok (.bipush 15, 2) := by decide +kernel
theorem d_Co_tell_59 : decode b_Co_tell 59 = .ok (.if_icmp .gt 35, 3) := by decide +kernel
theorem d_Co_tell_62 : decode b_Co_tell 62 = .ok (.aload_n 0, 1) := by decide +kernel
theorem d_Co_tell_63 : decode b_Co_tell 63 = .ok (.getfield 13, 3) := by decide +kernel
theorem d_Co_tell_66 : decode b_Co_tell 66 = .ok (.iload 4, 2) := by decide +kernel
theorem d_Co_tell_68 : decode b_Co_tell 68 = .ok (.aload_n 0, 1) := by decide +kernel
theorem d_Co_tell_69 : decode b_Co_tell 69 = .ok (.getfield 13, 3) := by decide +kernel
theorem d_Co_tell_72 : decode b_Co_tell 72 = .ok (.iload 4, 2) := by decide +kernel
theorem d_Co_tell_74 : decode b_Co_tell 74 = .ok (.iconst 1, 1) := by decide +kernel
theorem d_Co_tell_75 : decode b_Co_tell 75 = .ok (.isub, 1) := by decide +kernel
theorem d_Co_tell_76 : decode b_Co_tell 76 = .ok (.iaload, 1) := by decide +kernel
theorem d_Co_tell_77 : decode b_Co_tell 77 = .ok (.aload_n 0, 1) := by decide +kernel
theorem d_Co_tell_78 : decode b_Co_tell 78 = .ok (.getfield 9, 3) := by decide +kernel
theorem d_Co_tell_81 : decode b_Co_tell 81 = .ok (.iload 4, 2) := by decide +kernel
theorem d_Co_tell_83 : decode b_Co_tell 83 = .ok (.iconst 1, 1) := by decide +kernel
theorem d_Co_tell_84 : decode b_Co_tell 84 = .ok (.isub, 1) := by decide +kernel
theorem d_Co_tell_85 : decode b_Co_tell 85 = .ok (.iaload, 1) := by decide +kernel
theorem d_Co_tell_86 : decode b_Co_tell 86 = .ok (.iadd, 1) := by decide +kernel
theorem d_Co_tell_87 : decode b_Co_tell 87 = .ok (.iastore, 1) := by decide +kernel
theorem d_Co_tell_88 : decode b_Co_tell 88 = .ok (.iinc 4 1, 3) := by decide +kernel
theorem d_Co_tell_91 : decode b_Co_tell 91 = .ok (.goto (-36), 3) := by decide +kernel
theorem d_Co_tell_94 : decode b_Co_tell 94 = .ok (.iconst 0, 1) := by decide +kernel
theorem d_Co_tell_95 : decode b_Co_tell 95 = .ok (.istore 4, 2) := by decide +kernel
theorem d_Co_tell_97 : decode b_Co_tell 97 = .ok (.iload 4, 2) := by decide +kernel
theorem d_Co_tell_99 : decode b_Co_tell 99 = .ok (.iload_n 3, 1) := by decide +kernel
theorem d_Co_tell_100 : decode b_Co_tell 100 = .ok (.if_icmp .ge 47, 3) := by decide +kernel
theorem d_Co_tell_103 : decode b_Co_tell 103 = .ok (.aload_n 1, 1) := by decide +kernel
theorem d_Co_tell_104 : decode b_Co_tell 104 = .ok (.iload_n 2, 1) := by decide +kernel
theorem d_Co_tell_105 : decode b_Co_tell 105 = .ok (.iload 4, 2) := by decide +kernel
theorem d_Co_tell_107 : decode b_Co_tell 107 = .ok (.iadd, 1) := by decide +kernel
theorem d_Co_tell_108 : decode b_Co_tell 108 = .ok (.iaload, 1) := by decide +kernel
theorem d_Co_tell_109 : decode b_Co_tell 109 = .ok (.istore 5, 2) := by decide +kernel
theorem d_Co_tell_111 : decode b_Co_tell 111 = .ok (.iload 5, 2) := by decide +kernel
theorem d_Co_tell_113 : decode b_Co_tell 113 = .ok (.ifCond .eq 28, 3) := by decide +kernel
theorem d_Co_tell_116 : decode b_Co_tell 116 = .ok (.aload_n 0, 1) := by decide +kernel
theorem d_Co_tell_117 : decode b_Co_tell 117 = .ok (.getfield 16, 3) := by decide +kernel
theorem d_Co_tell_120 : decode b_Co_tell 120 = .ok (.aload_n 0, 1) := by decide +kernel
theorem d_Co_tell_121 : decode b_Co_tell 121 = .ok (.getfield 13, 3) := by decide +kernel
theorem d_Co_tell_124 : decode b_Co_tell 124 = .ok (.iload 5, 2) := by decide +kernel
theorem d_Co_tell_126 : decode b_Co_tell 126 = .ok (.iaload, 1) := by decide +kernel
theorem d_Co_tell_127 : decode b_Co_tell 127 = .ok (.iload 4, 2) := by decide +kernel
theorem d_Co_tell_129 : decode b_Co_tell 129 = .ok (.iastore, 1) := by decide +kernel
theorem d_Co_tell_130 : decode b_Co_tell 130 = .ok (.aload_n 0, 1) := by decide +kernel
theorem d_Co_tell_131 : decode b_Co_tell 131 = .ok (.getfield 13, 3) := by decide +kernel
theorem d_Co_tell_134 : decode b_Co_tell 134 = .ok (.iload 5, 2) := by decide +kernel
theorem d_Co_tell_136 : decode b_Co_tell 136 = .ok (.dup2, 1) := by decide +kernel
theorem d_Co_tell_137 : decode b_Co_tell 137 = .ok (.iaload, 1) := by decide +kernel
theorem d_Co_tell_138 : decode b_Co_tell 138 = .ok (.iconst 1, 1) := by decide +kernel
theorem d_Co_tell_139 : decode b_Co_tell 139 = .ok (.iadd, 1) := by decide +kernel
theorem d_Co_tell_140 : decode b_Co_tell 140 = .ok (.iastore, 1) := by decide +kernel
theorem d_Co_tell_141 : decode b_Co_tell 141 = .ok (.iinc 4 1, 3) := by decide +kernel
theorem d_Co_tell_144 : decode b_Co_tell 144 = .ok (.goto (-47), 3) := by decide +kernel
theorem d_Co_tell_147 : decode b_Co_tell 147 = .ok (.return_, 1) := by decide +kernel
theorem d_Co_isFull_0 : decode b_Co_isFull 0 = .ok (.ldc 25, 2) := by decide +kernel
theorem d_Co_isFull_2 : decode b_Co_isFull 2 = .ok (.istore_n 1, 1) := by decide +kernel
theorem d_Co_isFull_3 : decode b_Co_isFull 3 = .ok (.iconst 1, 1) := by decide +kernel
theorem d_Co_isFull_4 : decode b_Co_isFull 4 = .ok (.istore_n 2, 1) := by decide +kernel
theorem d_Co_isFull_5 : decode b_Co_isFull 5 = .ok (.iload_n 2, 1) := by decide +kernel
theorem d_Co_isFull_6 : decode b_Co_isFull 6 = .ok (.bipush 15, 2) := by decide +kernel
theorem d_Co_isFull_8 : decode b_Co_isFull 8 = .ok (.if_icmp .gt 23, 3) := by decide +kernel
theorem d_Co_isFull_11 : decode b_Co_isFull 11 = .ok (.iload_n 1, 1) := by decide +kernel
theorem d_Co_isFull_12 : decode b_Co_isFull 12 = .ok (.aload_n 0, 1) := by decide +kernel
theorem d_Co_isFull_13 : decode b_Co_isFull 13 = .ok (.getfield 9, 3) := by decide +kernel
theorem d_Co_isFull_16 : decode b_Co_isFull 16 = .ok (.iload_n 2, 1) := by decide +kernel
theorem d_Co_isFull_17 : decode b_Co_isFull 17 = .ok (.iaload, 1) := by decide +kernel
theorem d_Co_isFull_18 : decode b_Co_isFull 18 = .ok (.bipush 15, 2) := by decide +kernel
theorem d_Co_isFull_20 : decode b_Co_isFull 20 = .ok (.iload_n 2, 1) := by decide +kernel
theorem d_Co_isFull_21 : decode b_Co_isFull 21 = .ok (.isub, 1) := by decide +kernel
theorem d_Co_isFull_22 : decode b_Co_isFull 22 = .ok (.ishl, 1) := by decide +kernel
theorem d_Co_isFull_23 : decode b_Co_isFull 23 = .ok (.isub, 1) := by decide +kernel
theorem d_Co_isFull_24 : decode b_Co_isFull 24 = .ok (.istore_n 1, 1) := by decide +kernel
theorem d_Co_isFull_25 : decode b_Co_isFull 25 = .ok (.iinc 2 1, 3) := by decide +kernel
theorem d_Co_isFull_28 : decode b_Co_isFull 28 = .ok (.goto (-23), 3) := by decide +kernel
theorem d_Co_isFull_31 : decode b_Co_isFull 31 = .ok (.iload_n 1, 1) := by decide +kernel
theorem d_Co_isFull_32 : decode b_Co_isFull 32 = .ok (.ifCond .ne 7, 3) := by decide +kernel
theorem d_Co_isFull_35 : decode b_Co_isFull 35 = .ok (.iconst 1, 1) := by decide +kernel
theorem d_Co_isFull_36 : decode b_Co_isFull 36 = .ok (.goto 4, 3) := by decide +kernel
theorem d_Co_isFull_39 : decode b_Co_isFull 39 = .ok (.iconst 0, 1) := by decide +kernel
theorem d_Co_isFull_40 : decode b_Co_isFull 40 = .ok (.ireturn, 1) := by decide +kernel
theorem d_Co_isScant_0 : decode b_Co_isScant 0 = .ok (.iconst 0, 1) := by decide +kernel
theorem d_Co_isScant_1 : decode b_Co_isScant 1 = .ok (.istore_n 1, 1) := by decide +kernel
theorem d_Co_isScant_2 : decode b_Co_isScant 2 = .ok (.iconst 1, 1) := by decide +kernel
theorem d_Co_isScant_3 : decode b_Co_isScant 3 = .ok (.istore_n 2, 1) := by decide +kernel
theorem d_Co_isScant_4 : decode b_Co_isScant 4 = .ok (.iload_n 2, 1) := by decide +kernel
theorem d_Co_isScant_5 : decode b_Co_isScant 5 = .ok (.bipush 15, 2) := by decide +kernel
theorem d_Co_isScant_7 : decode b_Co_isScant 7 = .ok (.if_icmp .gt 18, 3) := by decide +kernel
theorem d_Co_isScant_10 : decode b_Co_isScant 10 = .ok (.iload_n 1, 1) := by decide +kernel
theorem d_Co_isScant_11 : decode b_Co_isScant 11 = .ok (.aload_n 0, 1) := by decide +kernel
theorem d_Co_isScant_12 : decode b_Co_isScant 12 = .ok (.getfield 9, 3) := by decide +kernel
theorem d_Co_isScant_15 : decode b_Co_isScant 15 = .ok (.iload_n 2, 1) := by decide +kernel
theorem d_Co_isScant_16 : decode b_Co_isScant 16 = .ok (.iaload, 1) := by decide +kernel
theorem d_Co_isScant_17 : decode b_Co_isScant 17 = .ok (.iadd, 1) := by decide +kernel
theorem d_Co_isScant_18 : decode b_Co_isScant 18 = .ok (.istore_n 1, 1) := by decide +kernel
theorem d_Co_isScant_19 : decode b_Co_isScant 19 = .ok (.iinc 2 1, 3) := by decide +kernel
theorem d_Co_isScant_22 : decode b_Co_isScant 22 = .ok (.goto (-18), 3) := by decide +kernel
theorem d_Co_isScant_25 : decode b_Co_isScant 25 = .ok (.iload_n 1, 1) := by decide +kernel
theorem d_Co_isScant_26 : decode b_Co_isScant 26 = .ok (.ifCond .eq 18, 3) := by decide +kernel
theorem d_Co_isScant_29 : decode b_Co_isScant 29 = .ok (.iload_n 1, 1) := by decide +kernel
theorem d_Co_isScant_30 : decode b_Co_isScant 30 = .ok (.iconst 1, 1) := by decide +kernel
theorem d_Co_isScant_31 : decode b_Co_isScant 31 = .ok (.if_icmp .ne 17, 3) := by decide +kernel
theorem d_Co_isScant_34 : decode b_Co_isScant 34 = .ok (.aload_n 0, 1) := by decide +kernel
theorem d_Co_isScant_35 : decode b_Co_isScant 35 = .ok (.getfield 9, 3) := by decide +kernel
theorem d_Co_isScant_38 : decode b_Co_isScant 38 = .ok (.iconst 1, 1) := by decide +kernel
theorem d_Co_isScant_39 : decode b_Co_isScant 39 = .ok (.iaload, 1) := by decide +kernel
theorem d_Co_isScant_40 : decode b_Co_isScant 40 = .ok (.iconst 1, 1) := by decide +kernel
theorem d_Co_isScant_41 : decode b_Co_isScant 41 = .ok (.if_icmp .ne 7, 3) := by decide +kernel
theorem d_Co_isScant_44 : decode b_Co_isScant 44 = .ok (.iconst 1, 1) := by decide +kernel
theorem d_Co_isScant_45 : decode b_Co_isScant 45 = .ok (.goto 4, 3) := by decide +kernel
theorem d_Co_isScant_48 : decode b_Co_isScant 48 = .ok (.iconst 0, 1) := by decide +kernel
theorem d_Co_isScant_49 : decode b_Co_isScant 49 = .ok (.ireturn, 1) := by decide +kernel
theorem d_Co_next_0 : decode b_Co_next 0 = .ok (.iconst 0, 1) := by decide +kernel
theorem d_Co_next_1 : decode b_Co_next 1 = .ok (.istore_n 2, 1) := by decide +kernel
theorem d_Co_next_2 : decode b_Co_next 2 = .ok (.iconst 0, 1) := by decide +kernel
theorem d_Co_next_3 : decode b_Co_next 3 = .ok (.istore_n 3, 1) := by decide +kernel
theorem d_Co_next_4 : decode b_Co_next 4 = .ok (.iconst 0, 1) := by decide +kernel
theorem d_Co_next_5 : decode b_Co_next 5 = .ok (.istore 4, 2) := by decide +kernel
theorem d_Co_next_7 : decode b_Co_next 7 = .ok (.iconst 1, 1) := by decide +kernel
theorem d_Co_next_8 : decode b_Co_next 8 = .ok (.istore 5, 2) := by decide +kernel
theorem d_Co_next_10 : decode b_Co_next 10 = .ok (.iload 5, 2) := by decide +kernel
theorem d_Co_next_12 : decode b_Co_next 12 = .ok (.bipush 15, 2) := by decide +kernel
theorem d_Co_next_14 : decode b_Co_next 14 = .ok (.if_icmp .gt 73, 3) := by decide +kernel
theorem d_Co_next_17 : decode b_Co_next 17 = .ok (.iload_n 2, 1) := by decide +kernel
theorem d_Co_next_18 : decode b_Co_next 18 = .ok (.iconst 1, 1) := by decide +kernel
theorem d_Co_next_19 : decode b_Co_next 19 = .ok (.ishl, 1) := by decide +kernel
theorem d_Co_next_20 : decode b_Co_next 20 = .ok (.aload_n 1, 1) := by decide +kernel
theorem d_Co_next_21 : decode b_Co_next 21 = .ok (.iconst 1, 1) := by decide +kernel
theorem d_Co_next_22 : decode b_Co_next 22 = .ok (.invokevirtual 26, 3) := by decide +kernel
theorem d_Co_next_25 : decode b_Co_next 25 = .ok (.ior, 1) := by decide +kernel
theorem d_Co_next_26 : decode b_Co_next 26 = .ok (.istore_n 2, 1) := by decide +kernel
theorem d_Co_next_27 : decode b_Co_next 27 = .ok (.iload_n 3, 1) := by decide +kernel
theorem d_Co_next_28 : decode b_Co_next 28 = .ok (.iconst 1, 1) := by decide +kernel
theorem d_Co_next_29 : decode b_Co_next 29 = .ok (.ishl, 1) := by decide +kernel
theorem d_Co_next_30 : decode b_Co_next 30 = .ok (.istore_n 3, 1) := by decide +kernel
theorem d_Co_next_31 : decode b_Co_next 31 = .ok (.iload_n 2, 1) := by decide +kernel
theorem d_Co_next_32 : decode b_Co_next 32 = .ok (.iload_n 3, 1) := by decide +kernel
theorem d_Co_next_33 : decode b_Co_next 33 = .ok (.isub, 1) := by decide +kernel
theorem d_Co_next_34 : decode b_Co_next 34 = .ok (.istore 6, 2) := by decide +kernel
theorem d_Co_next_36 : decode b_Co_next 36 = .ok (.iload 6, 2) := by decide +kernel
theorem d_Co_next_38 : decode b_Co_next 38 = .ok (.aload_n 0, 1) := by decide +kernel
theorem d_Co_next_39 : decode b_Co_next 39 = .ok (.getfield 9, 3) := by decide +kernel
theorem d_Co_next_42 : decode b_Co_next 42 = .ok (.iload 5, 2) := by decide +kernel
theorem d_Co_next_44 : decode b_Co_next 44 = .ok (.iaload, 1) := by decide +kernel
theorem d_Co_next_45 : decode b_Co_next 45 = .ok (.if_icmp .ge 14, 3) := by decide +kernel
theorem d_Co_next_48 : decode b_Co_next 48 = .ok (.aload_n 0, 1) := by decide +kernel
theorem d_Co_next_49 : decode b_Co_next 49 = .ok (.getfield 16, 3) := by decide +kernel
theorem d_Co_next_52 : decode b_Co_next 52 = .ok (.iload 4, 2) := by decide +kernel
theorem d_Co_next_54 : decode b_Co_next 54 = .ok (.iload 6, 2) := by decide +kernel
theorem d_Co_next_56 : decode b_Co_next 56 = .ok (.iadd, 1) := by decide +kernel
theorem d_Co_next_57 : decode b_Co_next 57 = .ok (.iaload, 1) := by decide +kernel
theorem d_Co_next_58 : decode b_Co_next 58 = .ok (.ireturn, 1) := by decide +kernel
theorem d_Co_next_59 : decode b_Co_next 59 = .ok (.iload 4, 2) := by decide +kernel
theorem d_Co_next_61 : decode b_Co_next 61 = .ok (.aload_n 0, 1) := by decide +kernel
theorem d_Co_next_62 : decode b_Co_next 62 = .ok (.getfield 9, 3) := by decide +kernel
theorem d_Co_next_65 : decode b_Co_next 65 = .ok (.iload 5, 2) := by decide +kernel
theorem d_Co_next_67 : decode b_Co_next 67 = .ok (.iaload, 1) := by decide +kernel
theorem d_Co_next_68 : decode b_Co_next 68 = .ok (.iadd, 1) := by decide +kernel
theorem d_Co_next_69 : decode b_Co_next 69 = .ok (.istore 4, 2) := by decide +kernel
theorem d_Co_next_71 : decode b_Co_next 71 = .ok (.iload_n 3, 1) := by decide +kernel
theorem d_Co_next_72 : decode b_Co_next 72 = .ok (.aload_n 0, 1) := by decide +kernel
theorem d_Co_next_73 : decode b_Co_next 73 = .ok (.getfield 9, 3) := by decide +kernel
theorem d_Co_next_76 : decode b_Co_next 76 = .ok (.iload 5, 2) := by decide +kernel
theorem d_Co_next_78 : decode b_Co_next 78 = .ok (.iaload, 1) := by decide +kernel
theorem d_Co_next_79 : decode b_Co_next 79 = .ok (.iadd, 1) := by decide +kernel
theorem d_Co_next_80 : decode b_Co_next 80 = .ok (.istore_n 3, 1) := by decide +kernel
theorem d_Co_next_81 : decode b_Co_next 81 = .ok (.iinc 5 1, 3) := by decide +kernel
theorem d_Co_next_84 : decode b_Co_next 84 = .ok (.goto (-74), 3) := by decide +kernel
theorem d_Co_next_87 : decode b_Co_next 87 = .ok (.iconst (-1), 1) := by decide +kernel
theorem d_Co_next_88 : decode b_Co_next 88 = .ok (.ireturn, 1) := by decide +kernel
theorem d_Un_init_0 : decode b_Un_init 0 = .ok (.aload_n 0, 1) := by decide +kernel
theorem d_Un_init_1 : decode b_Un_init 1 = .ok (.invokespecial 3, 3) := by decide +kernel
theorem d_Un_init_4 : decode b_Un_init 4 = .ok (.aload_n 0, 1) := by decide +kernel
theorem d_Un_init_5 : decode b_Un_init 5 = .ok (.new 9, 3) := by decide +kernel
theorem d_Un_init_8 : decode b_Un_init 8 = .ok (.dup, 1) := by decide +kernel
theorem d_Un_init_9 : decode b_Un_init 9 = .ok (.invokespecial 11, 3) := by decide +kernel
theorem d_Un_init_12 : decode b_Un_init 12 = .ok (.putfield 12, 3) := by decide +kernel
theorem d_Un_init_15 : decode b_Un_init 15 = .ok (.aload_n 0, 1) := by decide +kernel
theorem d_Un_init_16 : decode b_Un_init 16 = .ok (.sipush 316, 3) := by decide +kernel
theorem d_Un_init_19 : decode b_Un_init 19 = .ok (.newarray .int, 2) := by decide +kernel
theorem d_Un_init_21 : decode b_Un_init 21 = .ok (.putfield 18, 3) := by decide +kernel
theorem d_Un_init_24 : decode b_Un_init 24 = .ok (.aload_n 0, 1) := by decide +kernel
theorem d_Un_init_25 : decode b_Un_init 25 = .ok (.new 22, 3) := by decide +kernel
theorem d_Un_init_28 : decode b_Un_init 28 = .ok (.dup, 1) := by decide +kernel
theorem d_Un_init_29 : decode b_Un_init 29 = .ok (.sipush 288, 3) := by decide +kernel
theorem d_Un_init_32 : decode b_Un_init 32 = .ok (.invokespecial 24, 3) := by decide +kernel
theorem d_Un_init_35 : decode b_Un_init 35 = .ok (.putfield 27, 3) := by decide +kernel
theorem d_Un_init_38 : decode b_Un_init 38 = .ok (.iconst 0, 1) := by decide +kernel
theorem d_Un_init_39 : decode b_Un_init 39 = .ok (.istore_n 1, 1) := by decide +kernel
theorem d_Un_init_40 : decode b_Un_init 40 = .ok (.iload_n 1, 1) := by decide +kernel
theorem d_Un_init_41 : decode b_Un_init 41 = .ok (.sipush 288, 3) := by decide +kernel
theorem d_Un_init_44 : decode b_Un_init 44 = .ok (.if_icmp .ge 53, 3) := by decide +kernel
theorem d_Un_init_47 : decode b_Un_init 47 = .ok (.aload_n 0, 1) := by decide +kernel
theorem d_Un_init_48 : decode b_Un_init 48 = .ok (.getfield 18, 3) := by decide +kernel
theorem d_Un_init_51 : decode b_Un_init 51 = .ok (.iload_n 1, 1) := by decide +kernel
theorem d_Un_init_52 : decode b_Un_init 52 = .ok (.iload_n 1, 1) := by decide +kernel
theorem d_Un_init_53 : decode b_Un_init 53 = .ok (.sipush 144, 3) := by decide +kernel
theorem d_Un_init_56 : decode b_Un_init 56 = .ok (.if_icmp .ge 8, 3) := by decide +kernel
theorem d_Un_init_59 : decode b_Un_init 59 = .ok (.bipush 8, 2) := by decide +kernel
theorem d_Un_init_61 : decode b_Un_init 61 = .ok (.goto 29, 3) := by decide +kernel
theorem d_Un_init_64 : decode b_Un_init 64 = .ok (.iload_n 1, 1) := by decide +kernel
theorem d_Un_init_65 : decode b_Un_init 65 = .ok (.sipush 256, 3) := by decide +kernel
theorem d_Un_init_68 : decode b_Un_init 68 = .ok (.if_icmp .ge 8, 3) := by decide +kernel
theorem d_Un_init_71 : decode b_Un_init 71 = .ok (.bipush 9, 2) := by decide +kernel
theorem d_Un_init_73 : decode b_Un_init 73 = .ok (.goto 17, 3) := by decide +kernel
theorem d_Un_init_76 : decode b_Un_init 76 = .ok (.iload_n 1, 1) := by decide +kernel
theorem d_Un_init_77 : decode b_Un_init 77 = .ok (.sipush 280, 3) := by decide +kernel
theorem d_Un_init_80 : decode b_Un_init 80 = .ok (.if_icmp .ge 8, 3) := by decide +kernel
theorem d_Un_init_83 : decode b_Un_init 83 = .ok (.bipush 7, 2) := by decide +kernel
theorem d_Un_init_85 : decode b_Un_init 85 = .ok (.goto 5, 3) := by decide +kernel
theorem d_Un_init_88 : decode b_Un_init 88 = .ok (.bipush 8, 2) := by decide +kernel
theorem d_Un_init_90 : decode b_Un_init 90 = .ok (.iastore, 1) := by decide +kernel
theorem d_Un_init_91 : decode b_Un_init 91 = .ok (.iinc 1 1, 3) := by decide +kernel
theorem d_Un_init_94 : decode b_Un_init 94 = .ok (.goto (-54), 3) := by decide +kernel
theorem d_Un_init_97 : decode b_Un_init 97 = .ok (.aload_n 0, 1) := by decide +kernel
theorem d_Un_init_98 : decode b_Un_init 98 = .ok (.getfield 27, 3) := by decide +kernel
theorem d_Un_init_101 : decode b_Un_init 101 = .ok (.aload_n 0, 1) := by decide +kernel
theorem d_Un_init_102 : decode b_Un_init 102 = .ok (.getfield 18, 3) := by decide +kernel
theorem d_Un_init_105 : decode b_Un_init 105 = .ok (.iconst 0, 1) := by decide +kernel
theorem d_Un_init_106 : decode b_Un_init 106 = .ok (.sipush 288, 3) := by decide +kernel
theorem d_Un_init_109 : decode b_Un_init 109 = .ok (.invokevirtual 31, 3) := by decide +kernel
theorem d_Un_init_112 : decode b_Un_init 112 = .ok (.aload_n 0, 1) := by decide +kernel
theorem d_Un_init_113 : decode b_Un_init 113 = .ok (.new 22, 3) := by decide +kernel
theorem d_Un_init_116 : decode b_Un_init 116 = .ok (.dup, 1) := by decide +kernel
theorem d_Un_init_117 : decode b_Un_init 117 = .ok (.bipush 32, 2) := by decide +kernel
theorem d_Un_init_119 : decode b_Un_init 119 = .ok (.invokespecial 24, 3) := by decide +kernel
theorem d_Un_init_122 : decode b_Un_init 122 = .ok (.putfield 35, 3) := by decide +kernel
theorem d_Un_init_125 : decode b_Un_init 125 = .ok (.aload_n 0, 1) := by decide +kernel
theorem d_Un_init_126 : decode b_Un_init 126 = .ok (.getfield 18, 3) := by decide +kernel
theorem d_Un_init_129 : decode b_Un_init 129 = .ok (.iconst 5, 1) := by decide +kernel
theorem d_Un_init_130 : decode b_Un_init 130 = .ok (.invokestatic 38, 3) := by decide +kernel
theorem d_Un_init_133 : decode b_Un_init 133 = .ok (.aload_n 0, 1) := by decide +kernel
theorem d_Un_init_134 : decode b_Un_init 134 = .ok (.getfield 35, 3) := by decide +kernel
theorem d_Un_init_137 : decode b_Un_init 137 = .ok (.aload_n 0, 1) := by decide +kernel
theorem d_Un_init_138 : decode b_Un_init 138 = .ok (.getfield 18, 3) := by decide +kernel
theorem d_Un_init_141 : decode b_Un_init 141 = .ok (.iconst 0, 1) := by decide +kernel
theorem d_Un_init_142 : decode b_Un_init 142 = .ok (.bipush 32, 2) := by decide +kernel
theorem d_Un_init_144 : decode b_Un_init 144 = .ok (.invokevirtual 31, 3) := by decide +kernel
theorem d_Un_init_147 : decode b_Un_init 147 = .ok (.aload_n 0, 1) := by decide +kernel
theorem d_Un_init_148 : decode b_Un_init 148 = .ok (.new 22, 3) := by decide +kernel
theorem d_Un_init_151 : decode b_Un_init 151 = .ok (.dup, 1) := by decide +kernel
theorem d_Un_init_152 : decode b_Un_init 152 = .ok (.bipush 19, 2) := by decide +kernel
