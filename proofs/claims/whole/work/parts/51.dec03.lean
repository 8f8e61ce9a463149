theorem d_Un_init_154 : decode b_Un_init 154 = .ok (.invokespecial 24, 3) := by decide +kernel
theorem d_Un_init_157 : decode b_Un_init 157 = .ok (.putfield 44, 3) := by decide +kernel
theorem d_Un_init_160 : decode b_Un_init 160 = .ok (.aload_n 0, 1) := by decide +kernel
theorem d_Un_init_161 : decode b_Un_init 161 = .ok (.new 22, 3) := by decide +kernel
theorem d_Un_init_164 : decode b_Un_init 164 = .ok (.dup, 1) := by decide +kernel
theorem d_Un_init_165 : decode b_Un_init 165 = .ok (.sipush 286, 3) := by decide +kernel
theorem d_Un_init_168 : decode b_Un_init 168 = .ok (.invokespecial 24, 3) := by decide +kernel
theorem d_Un_init_171 : decode b_Un_init 171 = .ok (.putfield 47, 3) := by decide +kernel
theorem d_Un_init_174 : decode b_Un_init 174 = .ok (.aload_n 0, 1) := by decide +kernel
theorem d_Un_init_175 : decode b_Un_init 175 = .ok (.new 22, 3) := by decide +kernel
theorem d_Un_init_178 : decode b_Un_init 178 = .ok (.dup, 1) := by decide +kernel
theorem d_Un_init_179 : decode b_Un_init 179 = .ok (.bipush 30, 2) := by decide +kernel
theorem d_Un_init_181 : decode b_Un_init 181 = .ok (.invokespecial 24, 3) := by decide +kernel
theorem d_Un_init_184 : decode b_Un_init 184 = .ok (.putfield 50, 3) := by decide +kernel
theorem d_Un_init_187 : decode b_Un_init 187 = .ok (.aload_n 0, 1) := by decide +kernel
theorem d_Un_init_188 : decode b_Un_init 188 = .ok (.iconst 0, 1) := by decide +kernel
theorem d_Un_init_189 : decode b_Un_init 189 = .ok (.putfield 53, 3) := by decide +kernel
theorem d_Un_init_192 : decode b_Un_init 192 = .ok (.aload_n 0, 1) := by decide +kernel
theorem d_Un_init_193 : decode b_Un_init 193 = .ok (.iconst 0, 1) := by decide +kernel
theorem d_Un_init_194 : decode b_Un_init 194 = .ok (.putfield 57, 3) := by decide +kernel
theorem d_Un_init_197 : decode b_Un_init 197 = .ok (.return_, 1) := by decide +kernel
theorem d_Un_blocks_0 : decode b_Un_blocks 0 = .ok (.aload_n 0, 1) := by decide +kernel
theorem d_Un_blocks_1 : decode b_Un_blocks 1 = .ok (.getfield 53, 3) := by decide +kernel
theorem d_Un_blocks_4 : decode b_Un_blocks 4 = .ok (.ireturn, 1) := by decide +kernel
theorem d_Un_toldBlocks_0 : decode b_Un_toldBlocks 0 = .ok (.aload_n 0, 1) := by decide +kernel
theorem d_Un_toldBlocks_1 : decode b_Un_toldBlocks 1 = .ok (.getfield 57, 3) := by decide +kernel
theorem d_Un_toldBlocks_4 : decode b_Un_toldBlocks 4 = .ok (.ireturn, 1) := by decide +kernel
theorem d_Un_read_0 : decode b_Un_read 0 = .ok (.aload_n 0, 1) := by decide +kernel
theorem d_Un_read_1 : decode b_Un_read 1 = .ok (.getfield 12, 3) := by decide +kernel
theorem d_Un_read_4 : decode b_Un_read 4 = .ok (.aload_n 1, 1) := by decide +kernel
theorem d_Un_read_5 : decode b_Un_read 5 = .ok (.invokevirtual 60, 3) := by decide +kernel
theorem d_Un_read_8 : decode b_Un_read 8 = .ok (.aload_n 2, 1) := by decide +kernel
theorem d_Un_read_9 : decode b_Un_read 9 = .ok (.iconst 0, 1) := by decide +kernel
theorem d_Un_read_10 : decode b_Un_read 10 = .ok (.invokevirtual 64, 3) := by decide +kernel
theorem d_Un_read_13 : decode b_Un_read 13 = .ok (.aload_n 0, 1) := by decide +kernel
theorem d_Un_read_14 : decode b_Un_read 14 = .ok (.iconst 0, 1) := by decide +kernel
theorem d_Un_read_15 : decode b_Un_read 15 = .ok (.putfield 53, 3) := by decide +kernel
theorem d_Un_read_18 : decode b_Un_read 18 = .ok (.aload_n 0, 1) := by decide +kernel
theorem d_Un_read_19 : decode b_Un_read 19 = .ok (.iconst 0, 1) := by decide +kernel
theorem d_Un_read_20 : decode b_Un_read 20 = .ok (.putfield 57, 3) := by decide +kernel
theorem d_Un_read_23 : decode b_Un_read 23 = .ok (.aload_n 0, 1) := by decide +kernel
theorem d_Un_read_24 : decode b_Un_read 24 = .ok (.invokevirtual 69, 3) := by decide +kernel
theorem d_Un_read_27 : decode b_Un_read 27 = .ok (.ifCond .ne 5, 3) := by decide +kernel
theorem d_Un_read_30 : decode b_Un_read 30 = .ok (.iconst 0, 1) := by decide +kernel
theorem d_Un_read_31 : decode b_Un_read 31 = .ok (.ireturn, 1) := by decide +kernel
theorem d_Un_read_32 : decode b_Un_read 32 = .ok (.iconst 0, 1) := by decide +kernel
theorem d_Un_read_33 : decode b_Un_read 33 = .ok (.istore_n 3, 1) := by decide +kernel
theorem d_Un_read_34 : decode b_Un_read 34 = .ok (.iconst 0, 1) := by decide +kernel
theorem d_Un_read_35 : decode b_Un_read 35 = .ok (.istore 4, 2) := by decide +kernel
theorem d_Un_read_37 : decode b_Un_read 37 = .ok (.iload 4, 2) := by decide +kernel
theorem d_Un_read_39 : decode b_Un_read 39 = .ok (.ldc 73, 2) := by decide +kernel
theorem d_Un_read_41 : decode b_Un_read 41 = .ok (.if_icmp .ge 69, 3) := by decide +kernel
theorem d_Un_read_44 : decode b_Un_read 44 = .ok (.iload_n 3, 1) := by decide +kernel
theorem d_Un_read_45 : decode b_Un_read 45 = .ok (.ifCond .ne 65, 3) := by decide +kernel
theorem d_Un_read_48 : decode b_Un_read 48 = .ok (.aload_n 0, 1) := by decide +kernel
theorem d_Un_read_49 : decode b_Un_read 49 = .ok (.getfield 12, 3) := by decide +kernel
theorem d_Un_read_52 : decode b_Un_read 52 = .ok (.iconst 1, 1) := by decide +kernel
theorem d_Un_read_53 : decode b_Un_read 53 = .ok (.invokevirtual 74, 3) := by decide +kernel
theorem d_Un_read_56 : decode b_Un_read 56 = .ok (.iconst 1, 1) := by decide +kernel
theorem d_Un_read_57 : decode b_Un_read 57 = .ok (.if_icmp .ne 7, 3) := by decide +kernel
theorem d_Un_read_60 : decode b_Un_read 60 = .ok (.iconst 1, 1) := by decide +kernel
theorem d_Un_read_61 : decode b_Un_read 61 = .ok (.goto 4, 3) := by decide +kernel
theorem d_Un_read_64 : decode b_Un_read 64 = .ok (.iconst 0, 1) := by decide +kernel
theorem d_Un_read_65 : decode b_Un_read 65 = .ok (.istore_n 3, 1) := by decide +kernel
theorem d_Un_read_66 : decode b_Un_read 66 = .ok (.aload_n 0, 1) := by decide +kernel
theorem d_Un_read_67 : decode b_Un_read 67 = .ok (.aload_n 0, 1) := by decide +kernel
theorem d_Un_read_68 : decode b_Un_read 68 = .ok (.getfield 12, 3) := by decide +kernel
theorem d_Un_read_71 : decode b_Un_read 71 = .ok (.iconst 2, 1) := by decide +kernel
theorem d_Un_read_72 : decode b_Un_read 72 = .ok (.invokevirtual 74, 3) := by decide +kernel
theorem d_Un_read_75 : decode b_Un_read 75 = .ok (.aload_n 2, 1) := by decide +kernel
theorem d_Un_read_76 : decode b_Un_read 76 = .ok (.invokevirtual 78, 3) := by decide +kernel
theorem d_Un_read_79 : decode b_Un_read 79 = .ok (.ifCond .eq 13, 3) := by decide +kernel
theorem d_Un_read_82 : decode b_Un_read 82 = .ok (.aload_n 0, 1) := by decide +kernel
theorem d_Un_read_83 : decode b_Un_read 83 = .ok (.getfield 12, 3) := by decide +kernel
theorem d_Un_read_86 : decode b_Un_read 86 = .ok (.invokevirtual 82, 3) := by decide +kernel
theorem d_Un_read_89 : decode b_Un_read 89 = .ok (.ifCond .eq 5, 3) := by decide +kernel
theorem d_Un_read_92 : decode b_Un_read 92 = .ok (.iconst 0, 1) := by decide +kernel
theorem d_Un_read_93 : decode b_Un_read 93 = .ok (.ireturn, 1) := by decide +kernel
theorem d_Un_read_94 : decode b_Un_read 94 = .ok (.aload_n 0, 1) := by decide +kernel
theorem d_Un_read_95 : decode b_Un_read 95 = .ok (.dup, 1) := by decide +kernel
theorem d_Un_read_96 : decode b_Un_read 96 = .ok (.getfield 53, 3) := by decide +kernel
theorem d_Un_read_99 : decode b_Un_read 99 = .ok (.iconst 1, 1) := by decide +kernel
theorem d_Un_read_100 : decode b_Un_read 100 = .ok (.iadd, 1) := by decide +kernel
theorem d_Un_read_101 : decode b_Un_read 101 = .ok (.putfield 53, 3) := by decide +kernel
theorem d_Un_read_104 : decode b_Un_read 104 = .ok (.iinc 4 1, 3) := by decide +kernel
theorem d_Un_read_107 : decode b_Un_read 107 = .ok (.goto (-70), 3) := by decide +kernel
theorem d_Un_read_110 : decode b_Un_read 110 = .ok (.aload_n 0, 1) := by decide +kernel
theorem d_Un_read_111 : decode b_Un_read 111 = .ok (.getfield 12, 3) := by decide +kernel
theorem d_Un_read_114 : decode b_Un_read 114 = .ok (.invokevirtual 85, 3) := by decide +kernel
theorem d_Un_read_117 : decode b_Un_read 117 = .ok (.iload_n 3, 1) := by decide +kernel
theorem d_Un_read_118 : decode b_Un_read 118 = .ok (.ifCond .eq 31, 3) := by decide +kernel
theorem d_Un_read_121 : decode b_Un_read 121 = .ok (.aload_n 0, 1) := by decide +kernel
theorem d_Un_read_122 : decode b_Un_read 122 = .ok (.getfield 12, 3) := by decide +kernel
theorem d_Un_read_125 : decode b_Un_read 125 = .ok (.invokevirtual 88, 3) := by decide +kernel
theorem d_Un_read_128 : decode b_Un_read 128 = .ok (.aload_n 2, 1) := by decide +kernel
theorem d_Un_read_129 : decode b_Un_read 129 = .ok (.invokevirtual 92, 3) := by decide +kernel
theorem d_Un_read_132 : decode b_Un_read 132 = .ok (.if_icmp .ne 17, 3) := by decide +kernel
theorem d_Un_read_135 : decode b_Un_read 135 = .ok (.aload_n 0, 1) := by decide +kernel
theorem d_Un_read_136 : decode b_Un_read 136 = .ok (.getfield 12, 3) := by decide +kernel
theorem d_Un_read_139 : decode b_Un_read 139 = .ok (.invokevirtual 95, 3) := by decide +kernel
theorem d_Un_read_142 : decode b_Un_read 142 = .ok (.ifCond .eq 7, 3) := by decide +kernel
theorem d_Un_read_145 : decode b_Un_read 145 = .ok (.iconst 1, 1) := by decide +kernel
theorem d_Un_read_146 : decode b_Un_read 146 = .ok (.goto 4, 3) := by decide +kernel
theorem d_Un_read_149 : decode b_Un_read 149 = .ok (.iconst 0, 1) := by decide +kernel
theorem d_Un_read_150 : decode b_Un_read 150 = .ok (.ireturn, 1) := by decide +kernel
theorem d_Un_headIsRight_0 : decode b_Un_headIsRight 0 = .ok (.aload_n 0, 1) := by decide +kernel
theorem d_Un_headIsRight_1 : decode b_Un_headIsRight 1 = .ok (.getfield 12, 3) := by decide +kernel
theorem d_Un_headIsRight_4 : decode b_Un_headIsRight 4 = .ok (.bipush 8, 2) := by decide +kernel
theorem d_Un_headIsRight_6 : decode b_Un_headIsRight 6 = .ok (.invokevirtual 74, 3) := by decide +kernel
theorem d_Un_headIsRight_9 : decode b_Un_headIsRight 9 = .ok (.istore_n 1, 1) := by decide +kernel
theorem d_Un_headIsRight_10 : decode b_Un_headIsRight 10 = .ok (.aload_n 0, 1) := by decide +kernel
theorem d_Un_headIsRight_11 : decode b_Un_headIsRight 11 = .ok (.getfield 12, 3) := by decide +kernel
theorem d_Un_headIsRight_14 : decode b_Un_headIsRight 14 = .ok (.bipush 8, 2) := by decide +kernel
theorem d_Un_headIsRight_16 : decode b_Un_headIsRight 16 = .ok (.invokevirtual 74, 3) := by decide +kernel
theorem d_Un_headIsRight_19 : decode b_Un_headIsRight 19 = .ok (.istore_n 2, 1) := by decide +kernel
theorem d_Un_headIsRight_20 : decode b_Un_headIsRight 20 = .ok (.iload_n 1, 1) := by decide +kernel
theorem d_Un_headIsRight_21 : decode b_Un_headIsRight 21 = .ok (.bipush 15, 2) := by decide +kernel
theorem d_Un_headIsRight_23 : decode b_Un_headIsRight 23 = .ok (.iand, 1) := by decide +kernel
theorem d_Un_headIsRight_24 : decode b_Un_headIsRight 24 = .ok (.bipush 8, 2) := by decide +kernel
theorem d_Un_headIsRight_26 : decode b_Un_headIsRight 26 = .ok (.if_icmp .ne 15, 3) := by decide +kernel
theorem d_Un_headIsRight_29 : decode b_Un_headIsRight 29 = .ok (.iload_n 1, 1) := by decide +kernel
theorem d_Un_headIsRight_30 : decode b_Un_headIsRight 30 = .ok (.iconst 4, 1) := by decide +kernel
theorem d_Un_headIsRight_31 : decode b_Un_headIsRight 31 = .ok (.ishr, 1) := by decide +kernel
theorem d_Un_headIsRight_32 : decode b_Un_headIsRight 32 = .ok (.bipush 7, 2) := by decide +kernel
theorem d_Un_headIsRight_34 : decode b_Un_headIsRight 34 = .ok (.if_icmp .gt 7, 3) := by decide +kernel
theorem d_Un_headIsRight_37 : decode b_Un_headIsRight 37 = .ok (.iconst 1, 1) := by decide +kernel
theorem d_Un_headIsRight_38 : decode b_Un_headIsRight 38 = .ok (.goto 4, 3) := by decide +kernel
theorem d_Un_headIsRight_41 : decode b_Un_headIsRight 41 = .ok (.iconst 0, 1) := by decide +kernel
theorem d_Un_headIsRight_42 : decode b_Un_headIsRight 42 = .ok (.istore_n 3, 1) := by decide +kernel
theorem d_Un_headIsRight_43 : decode b_Un_headIsRight 43 = .ok (.iload_n 2, 1) := by decide +kernel
theorem d_Un_headIsRight_44 : decode b_Un_headIsRight 44 = .ok (.bipush 32, 2) := by decide +kernel
theorem d_Un_headIsRight_46 : decode b_Un_headIsRight 46 = .ok (.iand, 1) := by decide +kernel
theorem d_Un_headIsRight_47 : decode b_Un_headIsRight 47 = .ok (.ifCond .eq 7, 3) := by decide +kernel
theorem d_Un_headIsRight_50 : decode b_Un_headIsRight 50 = .ok (.iconst 1, 1) := by decide +kernel
theorem d_Un_headIsRight_51 : decode b_Un_headIsRight 51 = .ok (.goto 4, 3) := by decide +kernel
theorem d_Un_headIsRight_54 : decode b_Un_headIsRight 54 = .ok (.iconst 0, 1) := by decide +kernel
theorem d_Un_headIsRight_55 : decode b_Un_headIsRight 55 = .ok (.istore 4, 2) := by decide +kernel
theorem d_Un_headIsRight_57 : decode b_Un_headIsRight 57 = .ok (.iload_n 3, 1) := by decide +kernel
theorem d_Un_headIsRight_58 : decode b_Un_headIsRight 58 = .ok (.ifCond .eq 25, 3) := by decide +kernel
theorem d_Un_headIsRight_61 : decode b_Un_headIsRight 61 = .ok (.iload 4, 2) := by decide +kernel
theorem d_Un_headIsRight_63 : decode b_Un_headIsRight 63 = .ok (.ifCond .ne 20, 3) := by decide +kernel
theorem d_Un_headIsRight_66 : decode b_Un_headIsRight 66 = .ok (.sipush 256, 3) := by decide +kernel
theorem d_Un_headIsRight_69 : decode b_Un_headIsRight 69 = .ok (.iload_n 1, 1) := by decide +kernel
theorem d_Un_headIsRight_70 : decode b_Un_headIsRight 70 = .ok (.imul, 1) := by decide +kernel
theorem d_Un_headIsRight_71 : decode b_Un_headIsRight 71 = .ok (.iload_n 2, 1) := by decide +kernel
theorem d_Un_headIsRight_72 : decode b_Un_headIsRight 72 = .ok (.iadd, 1) := by decide +kernel
theorem d_Un_headIsRight_73 : decode b_Un_headIsRight 73 = .ok (.bipush 31, 2) := by decide +kernel
theorem d_Un_headIsRight_75 : decode b_Un_headIsRight 75 = .ok (.irem, 1) := by decide +kernel
theorem d_Un_headIsRight_76 : decode b_Un_headIsRight 76 = .ok (.ifCond .ne 7, 3) := by decide +kernel
theorem d_Un_headIsRight_79 : decode b_Un_headIsRight 79 = .ok (.iconst 1, 1) := by decide +kernel
theorem d_Un_headIsRight_80 : decode b_Un_headIsRight 80 = .ok (.goto 4, 3) := by decide +kernel
theorem d_Un_headIsRight_83 : decode b_Un_headIsRight 83 = .ok (.iconst 0, 1) := by decide +kernel
theorem d_Un_headIsRight_84 : decode b_Un_headIsRight 84 = .ok (.ireturn, 1) := by decide +kernel
theorem d_Un_readBlock_0 : decode b_Un_readBlock 0 = .ok (.iload_n 1, 1) := by decide +kernel
theorem d_Un_readBlock_1 : decode b_Un_readBlock 1 = .ok (.tableswitch 86 0 2 #[27, 33, 47], 27) := by decide +kernel
theorem d_Un_readBlock_28 : decode b_Un_readBlock 28 = .ok (.aload_n 0, 1) := by decide +kernel
theorem d_Un_readBlock_29 : decode b_Un_readBlock 29 = .ok (.aload_n 2, 1) := by decide +kernel
theorem d_Un_readBlock_30 : decode b_Un_readBlock 30 = .ok (.invokevirtual 98, 3) := by decide +kernel
theorem d_Un_readBlock_33 : decode b_Un_readBlock 33 = .ok (.ireturn, 1) := by decide +kernel
theorem d_Un_readBlock_34 : decode b_Un_readBlock 34 = .ok (.aload_n 0, 1) := by decide +kernel
theorem d_Un_readBlock_35 : decode b_Un_readBlock 35 = .ok (.aload_n 0, 1) := by decide +kernel
theorem d_Un_readBlock_36 : decode b_Un_readBlock 36 = .ok (.getfield 27, 3) := by decide +kernel
theorem d_Un_readBlock_39 : decode b_Un_readBlock 39 = .ok (.aload_n 0, 1) := by decide +kernel
theorem d_Un_readBlock_40 : decode b_Un_readBlock 40 = .ok (.getfield 35, 3) := by decide +kernel
theorem d_Un_readBlock_43 : decode b_Un_readBlock 43 = .ok (.aload_n 2, 1) := by decide +kernel
theorem d_Un_readBlock_44 : decode b_Un_readBlock 44 = .ok (.invokevirtual 102, 3) := by decide +kernel
theorem d_Un_readBlock_47 : decode b_Un_readBlock 47 = .ok (.ireturn, 1) := by decide +kernel
theorem d_Un_readBlock_48 : decode b_Un_readBlock 48 = .ok (.aload_n 0, 1) := by decide +kernel
theorem d_Un_readBlock_49 : decode b_Un_readBlock 49 = .ok (.dup, 1) := by decide +kernel
theorem d_Un_readBlock_50 : decode b_Un_readBlock 50 = .ok (.getfield 57, 3) := by decide +kernel
theorem d_Un_readBlock_53 : decode b_Un_readBlock 53 = .ok (.iconst 1, 1) := by decide +kernel
theorem d_Un_readBlock_54 : decode b_Un_readBlock 54 = .ok (.iadd, 1) := by decide +kernel
theorem d_Un_readBlock_55 : decode b_Un_readBlock 55 = .ok (.putfield 57, 3) := by decide +kernel
theorem d_Un_readBlock_58 : decode b_Un_readBlock 58 = .ok (.aload_n 0, 1) := by decide +kernel
theorem d_Un_readBlock_59 : decode b_Un_readBlock 59 = .ok (.invokevirtual 106, 3) := by decide +kernel
theorem d_Un_readBlock_62 : decode b_Un_readBlock 62 = .ok (.ifCond .eq 23, 3) := by decide +kernel
theorem d_Un_readBlock_65 : decode b_Un_readBlock 65 = .ok (.aload_n 0, 1) := by decide +kernel
theorem d_Un_readBlock_66 : decode b_Un_readBlock 66 = .ok (.aload_n 0, 1) := by decide +kernel
theorem d_Un_readBlock_67 : decode b_Un_readBlock 67 = .ok (.getfield 47, 3) := by decide +kernel
theorem d_Un_readBlock_70 : decode b_Un_readBlock 70 = .ok (.aload_n 0, 1) := by decide +kernel
theorem d_Un_readBlock_71 : decode b_Un_readBlock 71 = .ok (.getfield 50, 3) := by decide +kernel
theorem d_Un_readBlock_74 : decode b_Un_readBlock 74 = .ok (.aload_n 2, 1) := by decide +kernel
theorem d_Un_readBlock_75 : decode b_Un_readBlock 75 = .ok (.invokevirtual 102, 3) := by decide +kernel
theorem d_Un_readBlock_78 : decode b_Un_readBlock 78 = .ok (.ifCond .eq 7, 3) := by decide +kernel
theorem d_Un_readBlock_81 : decode b_Un_readBlock 81 = .ok (.iconst 1, 1) := by decide +kernel
theorem d_Un_readBlock_82 : decode b_Un_readBlock 82 = .ok (.goto 4, 3) := by decide +kernel
theorem d_Un_readBlock_85 : decode b_Un_readBlock 85 = .ok (.iconst 0, 1) := by decide +kernel
theorem d_Un_readBlock_86 : decode b_Un_readBlock 86 = .ok (.ireturn, 1) := by decide +kernel
theorem d_Un_readBlock_87 : decode b_Un_readBlock 87 = .ok (.iconst 0, 1) := by decide +kernel
theorem d_Un_readBlock_88 : decode b_Un_readBlock 88 = .ok (.ireturn, 1) := by decide +kernel
theorem d_Un_readStored_0 : decode b_Un_readStored 0 = .ok (.aload_n 0, 1) := by decide +kernel
theorem d_Un_readStored_1 : decode b_Un_readStored 1 = .ok (.getfield 12, 3) := by decide +kernel
theorem d_Un_readStored_4 : decode b_Un_readStored 4 = .ok (.invokevirtual 85, 3) := by decide +kernel
theorem d_Un_readStored_7 : decode b_Un_readStored 7 = .ok (.aload_n 0, 1) := by decide +kernel
theorem d_Un_readStored_8 : decode b_Un_readStored 8 = .ok (.getfield 12, 3) := by decide +kernel
theorem d_Un_readStored_11 : decode b_Un_readStored 11 = .ok (.bipush 16, 2) := by decide +kernel
theorem d_Un_readStored_13 : decode b_Un_readStored 13 = .ok (.invokevirtual 74, 3) := by decide +kernel
theorem d_Un_readStored_16 : decode b_Un_readStored 16 = .ok (.istore_n 2, 1) := by decide +kernel
theorem d_Un_readStored_17 : decode b_Un_readStored 17 = .ok (.aload_n 0, 1) := by decide +kernel
theorem d_Un_readStored_18 : decode b_Un_readStored 18 = .ok (.getfield 12, 3) := by decide +kernel
theorem d_Un_readStored_21 : decode b_Un_readStored 21 = .ok (.bipush 16, 2) := by decide +kernel
theorem d_Un_readStored_23 : decode b_Un_readStored 23 = .ok (.invokevirtual 74, 3) := by decide +kernel
theorem d_Un_readStored_26 : decode b_Un_readStored 26 = .ok (.istore_n 3, 1) := by decide +kernel
theorem d_Un_readStored_27 : decode b_Un_readStored 27 = .ok (.iload_n 2, 1) := by decide +kernel
theorem d_Un_readStored_28 : decode b_Un_readStored 28 = .ok (.ldc 109, 2) := by decide +kernel
theorem d_Un_readStored_30 : decode b_Un_readStored 30 = .ok (.ixor, 1) := by decide +kernel
theorem d_Un_readStored_31 : decode b_Un_readStored 31 = .ok (.iload_n 3, 1) := by decide +kernel
theorem d_Un_readStored_32 : decode b_Un_readStored 32 = .ok (.if_icmp .ne 14, 3) := by decide +kernel
theorem d_Un_readStored_35 : decode b_Un_readStored 35 = .ok (.aload_n 1, 1) := by decide +kernel
theorem d_Un_readStored_36 : decode b_Un_readStored 36 = .ok (.invokevirtual 110, 3) := by decide +kernel
theorem d_Un_readStored_39 : decode b_Un_readStored 39 = .ok (.iload_n 2, 1) := by decide +kernel
theorem d_Un_readStored_40 : decode b_Un_readStored 40 = .ok (.iadd, 1) := by decide +kernel
theorem d_Un_readStored_41 : decode b_Un_readStored 41 = .ok (.ldc 113, 2) := by decide +kernel
theorem d_Un_readStored_43 : decode b_Un_readStored 43 = .ok (.if_icmp .le 5, 3) := by decide +kernel
theorem d_Un_readStored_46 : decode b_Un_readStored 46 = .ok (.iconst 0, 1) := by decide +kernel
theorem d_Un_readStored_47 : decode b_Un_readStored 47 = .ok (.ireturn, 1) := by decide +kernel
theorem d_Un_readStored_48 : decode b_Un_readStored 48 = .ok (.iconst 0, 1) := by decide +kernel
theorem d_Un_readStored_49 : decode b_Un_readStored 49 = .ok (.istore 4, 2) := by decide +kernel
theorem d_Un_readStored_51 : decode b_Un_readStored 51 = .ok (.iload 4, 2) := by decide +kernel
theorem d_Un_readStored_53 : decode b_Un_readStored 53 = .ok (.iload_n 2, 1) := by decide +kernel
theorem d_Un_readStored_54 : decode b_Un_readStored 54 = .ok (.if_icmp .ge 32, 3) := by decide +kernel
theorem d_Un_readStored_57 : decode b_Un_readStored 57 = .ok (.aload_n 0, 1) := by decide +kernel
theorem d_Un_readStored_58 : decode b_Un_readStored 58 = .ok (.getfield 12, 3) := by decide +kernel
theorem d_Un_readStored_61 : decode b_Un_readStored 61 = .ok (.invokevirtual 82, 3) := by decide +kernel
theorem d_Un_readStored_64 : decode b_Un_readStored 64 = .ok (.ifCond .ne 22, 3) := by decide +kernel
theorem d_Un_readStored_67 : decode b_Un_readStored 67 = .ok (.aload_n 1, 1) := by decide +kernel
theorem d_Un_readStored_68 : decode b_Un_readStored 68 = .ok (.aload_n 0, 1) := by decide +kernel
theorem d_Un_readStored_69 : decode b_Un_readStored 69 = .ok (.getfield 12, 3) := by decide +kernel
theorem d_Un_readStored_72 : decode b_Un_readStored 72 = .ok (.bipush 8, 2) := by decide +kernel
theorem d_Un_readStored_74 : decode b_Un_readStored 74 = .ok (.invokevirtual 74, 3) := by decide +kernel
theorem d_Un_readStored_77 : decode b_Un_readStored 77 = .ok (.invokevirtual 114, 3) := by decide +kernel
theorem d_Un_readStored_80 : decode b_Un_readStored 80 = .ok (.iinc 4 1, 3) := by decide +kernel
theorem d_Un_readStored_83 : decode b_Un_readStored 83 = .ok (.goto (-32), 3) := by decide +kernel
theorem d_Un_readStored_86 : decode b_Un_readStored 86 = .ok (.iconst 1, 1) := by decide +kernel
theorem d_Un_readStored_87 : decode b_Un_readStored 87 = .ok (.ireturn, 1) := by decide +kernel
theorem d_Un_readCoded_0 : decode b_Un_readCoded 0 = .ok (.iconst 0, 1) := by decide +kernel
theorem d_Un_readCoded_1 : decode b_Un_readCoded 1 = .ok (.istore 4, 2) := by decide +kernel
theorem d_Un_readCoded_3 : decode b_Un_readCoded 3 = .ok (.iload 4, 2) := by decide +kernel
theorem d_Un_readCoded_5 : decode b_Un_readCoded 5 = .ok (.ldc 73, 2) := by decide +kernel
theorem d_Un_readCoded_7 : decode b_Un_readCoded 7 = .ok (.if_icmp .ge 86, 3) := by decide +kernel
theorem d_Un_readCoded_10 : decode b_Un_readCoded 10 = .ok (.aload_n 0, 1) := by decide +kernel
theorem d_Un_readCoded_11 : decode b_Un_readCoded 11 = .ok (.getfield 12, 3) := by decide +kernel
theorem d_Un_readCoded_14 : decode b_Un_readCoded 14 = .ok (.invokevirtual 82, 3) := by decide +kernel
theorem d_Un_readCoded_17 : decode b_Un_readCoded 17 = .ok (.ifCond .ne 76, 3) := by decide +kernel
theorem d_Un_readCoded_20 : decode b_Un_readCoded 20 = .ok (.aload_n 1, 1) := by decide +kernel
theorem d_Un_readCoded_21 : decode b_Un_readCoded 21 = .ok (.aload_n 0, 1) := by decide +kernel
theorem d_Un_readCoded_22 : decode b_Un_readCoded 22 = .ok (.getfield 12, 3) := by decide +kernel
theorem d_Un_readCoded_25 : decode b_Un_readCoded 25 = .ok (.invokevirtual 117, 3) := by decide +kernel
theorem d_Un_readCoded_28 : decode b_Un_readCoded 28 = .ok (.istore 5, 2) := by decide +kernel
theorem d_Un_readCoded_30 : decode b_Un_readCoded 30 = .ok (.iload 5, 2) := by decide +kernel
theorem d_Un_readCoded_32 : decode b_Un_readCoded 32 = .ok (.sipush 256, 3) := by decide +kernel
theorem d_Un_readCoded_35 : decode b_Un_readCoded 35 = .ok (.if_icmp .ne 5, 3) := by decide +kernel
theorem d_Un_readCoded_38 : decode b_Un_readCoded 38 = .ok (.iconst 1, 1) := by decide +kernel
theorem d_Un_readCoded_39 : decode b_Un_readCoded 39 = .ok (.ireturn, 1) := by decide +kernel
theorem d_Un_readCoded_40 : decode b_Un_readCoded 40 = .ok (.iload 5, 2) := by decide +kernel
theorem d_Un_readCoded_42 : decode b_Un_readCoded 42 = .ok (.sipush 256, 3) := by decide +kernel
theorem d_Un_readCoded_45 : decode b_Un_readCoded 45 = .ok (.if_icmp .le 20, 3) := by decide +kernel
theorem d_Un_readCoded_48 : decode b_Un_readCoded 48 = .ok (.aload_n 0, 1) := by decide +kernel
theorem d_Un_readCoded_49 : decode b_Un_readCoded 49 = .ok (.iload 5, 2) := by decide +kernel
theorem d_Un_readCoded_51 : decode b_Un_readCoded 51 = .ok (.sipush 257, 3) := by decide +kernel
theorem d_Un_readCoded_54 : decode b_Un_readCoded 54 = .ok (.isub, 1) := by decide +kernel
theorem d_Un_readCoded_55 : decode b_Un_readCoded 55 = .ok (.aload_n 2, 1) := by decide +kernel
theorem d_Un_readCoded_56 : decode b_Un_readCoded 56 = .ok (.aload_n 3, 1) := by decide +kernel
theorem d_Un_readCoded_57 : decode b_Un_readCoded 57 = .ok (.invokevirtual 121, 3) := by decide +kernel
theorem d_Un_readCoded_60 : decode b_Un_readCoded 60 = .ok (.ifCond .ne 27, 3) := by decide +kernel
theorem d_Un_readCoded_63 : decode b_Un_readCoded 63 = .ok (.iconst 0, 1) := by decide +kernel
theorem d_Un_readCoded_64 : decode b_Un_readCoded 64 = .ok (.ireturn, 1) := by decide +kernel
theorem d_Un_readCoded_65 : decode b_Un_readCoded 65 = .ok (.iload 5, 2) := by decide +kernel
theorem d_Un_readCoded_67 : decode b_Un_readCoded 67 = .ok (.ifCond .lt 12, 3) := by decide +kernel
theorem d_Un_readCoded_70 : decode b_Un_readCoded 70 = .ok (.aload_n 3, 1) := by decide +kernel
theorem d_Un_readCoded_71 : decode b_Un_readCoded 71 = .ok (.invokevirtual 110, 3) := by decide +kernel
theorem d_Un_readCoded_74 : decode b_Un_readCoded 74 = .ok (.ldc 113, 2) := by decide +kernel
theorem d_Un_readCoded_76 : decode b_Un_readCoded 76 = .ok (.if_icmp .lt 5, 3) := by decide +kernel
theorem d_Un_readCoded_79 : decode b_Un_readCoded 79 = .ok (.iconst 0, 1) := by decide +kernel
theorem d_Un_readCoded_80 : decode b_Un_readCoded 80 = .ok (.ireturn, 1) := by decide +kernel
theorem d_Un_readCoded_81 : decode b_Un_readCoded 81 = .ok (.aload_n 3, 1) := by decide +kernel
theorem d_Un_readCoded_82 : decode b_Un_readCoded 82 = .ok (.iload 5, 2) := by decide +kernel
theorem d_Un_readCoded_84 : decode b_Un_readCoded 84 = .ok (.invokevirtual 114, 3) := by decide +kernel
theorem d_Un_readCoded_87 : decode b_Un_readCoded 87 = .ok (.iinc 4 1, 3) := by decide +kernel
theorem d_Un_readCoded_90 : decode b_Un_readCoded 90 = .ok (.goto (-87), 3) := by decide +kernel
theorem d_Un_readCoded_93 : decode b_Un_readCoded 93 = .ok (.iconst 0, 1) := by decide +kernel
theorem d_Un_readCoded_94 : decode b_Un_readCoded 94 = .ok (.ireturn, 1) := by decide +kernel
theorem d_Un_readPair_0 : decode b_Un_readPair 0 = .ok (.iload_n 1, 1) := by decide +kernel
theorem d_Un_readPair_1 : decode b_Un_readPair 1 = .ok (.getstatic 125, 3) := by decide +kernel
theorem d_Un_readPair_4 : decode b_Un_readPair 4 = .ok (.arraylength, 1) := by decide +kernel
theorem d_Un_readPair_5 : decode b_Un_readPair 5 = .ok (.if_icmp .lt 5, 3) := by decide +kernel
theorem d_Un_readPair_8 : decode b_Un_readPair 8 = .ok (.iconst 0, 1) := by decide +kernel
theorem d_Un_readPair_9 : decode b_Un_readPair 9 = .ok (.ireturn, 1) := by decide +kernel
theorem d_Un_readPair_10 : decode b_Un_readPair 10 = .ok (.getstatic 125, 3) := by decide +kernel
theorem d_Un_readPair_13 : decode b_Un_readPair 13 = .ok (.iload_n 1, 1) := by decide +kernel
theorem d_Un_readPair_14 : decode b_Un_readPair 14 = .ok (.iaload, 1) := by decide +kernel
theorem d_Un_readPair_15 : decode b_Un_readPair 15 = .ok (.aload_n 0, 1) := by decide +kernel
theorem d_Un_readPair_16 : decode b_Un_readPair 16 = .ok (.getfield 12, 3) := by decide +kernel
theorem d_Un_readPair_19 : decode b_Un_readPair 19 = .ok (.getstatic 128, 3) := by decide +kernel
theorem d_Un_readPair_22 : decode b_Un_readPair 22 = .ok (.iload_n 1, 1) := by decide +kernel
theorem d_Un_readPair_23 : decode b_Un_readPair 23 = .ok (.iaload, 1) := by decide +kernel
theorem d_Un_readPair_24 : decode b_Un_readPair 24 = .ok (.invokevirtual 74, 3) := by decide +kernel
theorem d_Un_readPair_27 : decode b_Un_readPair 27 = .ok (.iadd, 1) := by decide +kernel
theorem d_Un_readPair_28 : decode b_Un_readPair 28 = .ok (.istore 4, 2) := by decide +kernel
theorem d_Un_readPair_30 : decode b_Un_readPair 30 = .ok (.aload_n 2, 1) := by decide +kernel
theorem d_Un_readPair_31 : decode b_Un_readPair 31 = .ok (.aload_n 0, 1) := by decide +kernel
theorem d_Un_readPair_32 : decode b_Un_readPair 32 = .ok (.getfield 12, 3) := by decide +kernel
theorem d_Un_readPair_35 : decode b_Un_readPair 35 = .ok (.invokevirtual 117, 3) := by decide +kernel
theorem d_Un_readPair_38 : decode b_Un_readPair 38 = .ok (.istore 5, 2) := by decide +kernel
theorem d_Un_readPair_40 : decode b_Un_readPair 40 = .ok (.iload 5, 2) := by decide +kernel
theorem d_Un_readPair_42 : decode b_Un_readPair 42 = .ok (.ifCond .lt 12, 3) := by decide +kernel
theorem d_Un_readPair_45 : decode b_Un_readPair 45 = .ok (.iload 5, 2) := by decide +kernel
theorem d_Un_readPair_47 : decode b_Un_readPair 47 = .ok (.getstatic 131, 3) := by decide +kernel
theorem d_Un_readPair_50 : decode b_Un_readPair 50 = .ok (.arraylength, 1) := by decide +kernel
theorem d_Un_readPair_51 : decode b_Un_readPair 51 = .ok (.if_icmp .lt 5, 3) := by decide +kernel
theorem d_Un_readPair_54 : decode b_Un_readPair 54 = .ok (.iconst 0, 1) := by decide +kernel
theorem d_Un_readPair_55 : decode b_Un_readPair 55 = .ok (.ireturn, 1) := by decide +kernel
theorem d_Un_readPair_56 : decode b_Un_readPair 56 = .ok (.getstatic 131, 3) := by decide +kernel
theorem d_Un_readPair_59 : decode b_Un_readPair 59 = .ok (.iload 5, 2) := by decide +kernel
theorem d_Un_readPair_61 : decode b_Un_readPair 61 = .ok (.iaload, 1) := by decide +kernel
theorem d_Un_readPair_62 : decode b_Un_readPair 62 = .ok (.aload_n 0, 1) := by decide +kernel
theorem d_Un_readPair_63 : decode b_Un_readPair 63 = .ok (.getfield 12, 3) := by decide +kernel
theorem d_Un_readPair_66 : decode b_Un_readPair 66 = .ok (.getstatic 134, 3) := by decide +kernel
theorem d_Un_readPair_69 : decode b_Un_readPair 69 = .ok (.iload 5, 2) := by decide +kernel
theorem d_Un_readPair_71 : decode b_Un_readPair 71 = .ok (.iaload, 1) := by decide +kernel
theorem d_Un_readPair_72 : decode b_Un_readPair 72 = .ok (.invokevirtual 74, 3) := by decide +kernel
theorem d_Un_readPair_75 : decode b_Un_readPair 75 = .ok (.iadd, 1) := by decide +kernel
theorem d_Un_readPair_76 : decode b_Un_readPair 76 = .ok (.istore 6, 2) := by decide +kernel
theorem d_Un_readPair_78 : decode b_Un_readPair 78 = .ok (.iload 6, 2) := by decide +kernel
theorem d_Un_readPair_80 : decode b_Un_readPair 80 = .ok (.aload_n 3, 1) := by decide +kernel
theorem d_Un_readPair_81 : decode b_Un_readPair 81 = .ok (.invokevirtual 110, 3) := by decide +kernel
theorem d_Un_readPair_84 : decode b_Un_readPair 84 = .ok (.if_icmp .gt 15, 3) := by decide +kernel
theorem d_Un_readPair_87 : decode b_Un_readPair 87 = .ok (.aload_n 3, 1) := by decide +kernel
theorem d_Un_readPair_88 : decode b_Un_readPair 88 = .ok (.invokevirtual 110, 3) := by decide +kernel
theorem d_Un_readPair_91 : decode b_Un_readPair 91 = .ok (.iload 4, 2) := by decide +kernel
theorem d_Un_readPair_93 : decode b_Un_readPair 93 = .ok (.iadd, 1) := by decide +kernel
theorem d_Un_readPair_94 : decode b_Un_readPair 94 = .ok (.ldc 113, 2) := by decide +kernel
theorem d_Un_readPair_96 : decode b_Un_readPair 96 = .ok (.if_icmp .le 5, 3) := by decide +kernel
theorem d_Un_readPair_99 : decode b_Un_readPair 99 = .ok (.iconst 0, 1) := by decide +kernel
theorem d_Un_readPair_100 : decode b_Un_readPair 100 = .ok (.ireturn, 1) := by decide +kernel
theorem d_Un_readPair_101 : decode b_Un_readPair 101 = .ok (.iconst 0, 1) := by decide +kernel
theorem d_Un_readPair_102 : decode b_Un_readPair 102 = .ok (.istore 7, 2) := by decide +kernel
theorem d_Un_readPair_104 : decode b_Un_readPair 104 = .ok (.iload 7, 2) := by decide +kernel
theorem d_Un_readPair_106 : decode b_Un_readPair 106 = .ok (.iload 4, 2) := by decide +kernel
theorem d_Un_readPair_108 : decode b_Un_readPair 108 = .ok (.if_icmp .ge 24, 3) := by decide +kernel
theorem d_Un_readPair_111 : decode b_Un_readPair 111 = .ok (.aload_n 3, 1) := by decide +kernel
theorem d_Un_readPair_112 : decode b_Un_readPair 112 = .ok (.aload_n 3, 1) := by decide +kernel
theorem d_Un_readPair_113 : decode b_Un_readPair 113 = .ok (.aload_n 3, 1) := by decide +kernel
theorem d_Un_readPair_114 : decode b_Un_readPair 114 = .ok (.invokevirtual 110, 3) := by decide +kernel
theorem d_Un_readPair_117 : decode b_Un_readPair 117 = .ok (.iload 6, 2) := by decide +kernel
theorem d_Un_readPair_119 : decode b_Un_readPair 119 = .ok (.isub, 1) := by decide +kernel
theorem d_Un_readPair_120 : decode b_Un_readPair 120 = .ok (.invokevirtual 137, 3) := by decide +kernel
theorem d_Un_readPair_123 : decode b_Un_readPair 123 = .ok (.invokevirtual 114, 3) := by decide +kernel
theorem d_Un_readPair_126 : decode b_Un_readPair 126 = .ok (.iinc 7 1, 3) := by decide +kernel
theorem d_Un_readPair_129 : decode b_Un_readPair 129 = .ok (.goto (-25), 3) := by decide +kernel
theorem d_Un_readPair_132 : decode b_Un_readPair 132 = .ok (.iconst 1, 1) := by decide +kernel
theorem d_Un_readPair_133 : decode b_Un_readPair 133 = .ok (.ireturn, 1) := by decide +kernel
theorem d_Un_readCodes_0 : decode b_Un_readCodes 0 = .ok (.aload_n 0, 1) := by decide +kernel
theorem d_Un_readCodes_1 : decode b_Un_readCodes 1 = .ok (.getfield 12, 3) := by decide +kernel
theorem d_Un_readCodes_4 : decode b_Un_readCodes 4 = .ok (.iconst 5, 1) := by decide +kernel
theorem d_Un_readCodes_5 : decode b_Un_readCodes 5 = .ok (.invokevirtual 74, 3) := by decide +kernel
theorem d_Un_readCodes_8 : decode b_Un_readCodes 8 = .ok (.sipush 257, 3) := by decide +kernel
theorem d_Un_readCodes_11 : decode b_Un_readCodes 11 = .ok (.iadd, 1) := by decide +kernel
theorem d_Un_readCodes_12 : decode b_Un_readCodes 12 = .ok (.istore_n 1, 1) := by decide +kernel
theorem d_Un_readCodes_13 : decode b_Un_readCodes 13 = .ok (.aload_n 0, 1) := by decide +kernel
theorem d_Un_readCodes_14 : decode b_Un_readCodes 14 = .ok (.getfield 12, 3) := by decide +kernel
theorem d_Un_readCodes_17 : decode b_Un_readCodes 17 = .ok (.iconst 5, 1) := by decide +kernel
theorem d_Un_readCodes_18 : decode b_Un_readCodes 18 = .ok (.invokevirtual 74, 3) := by decide +kernel
theorem d_Un_readCodes_21 : decode b_Un_readCodes 21 = .ok (.iconst 1, 1) := by decide +kernel
theorem d_Un_readCodes_22 : decode b_Un_readCodes 22 = .ok (.iadd, 1) := by decide +kernel
theorem d_Un_readCodes_23 : decode b_Un_readCodes 23 = .ok (.istore_n 2, 1) := by decide +kernel
theorem d_Un_readCodes_24 : decode b_Un_readCodes 24 = .ok (.aload_n 0, 1) := by decide +kernel
theorem d_Un_readCodes_25 : decode b_Un_readCodes 25 = .ok (.getfield 12, 3) := by decide +kernel
theorem d_Un_readCodes_28 : decode b_Un_readCodes 28 = .ok (.iconst 4, 1) := by decide +kernel
theorem d_Un_readCodes_29 : decode b_Un_readCodes 29 = .ok (.invokevirtual 74, 3) := by decide +kernel
theorem d_Un_readCodes_32 : decode b_Un_readCodes 32 = .ok (.iconst 4, 1) := by decide +kernel
theorem d_Un_readCodes_33 : decode b_Un_readCodes 33 = .ok (.iadd, 1) := by decide +kernel
theorem d_Un_readCodes_34 : decode b_Un_readCodes 34 = .ok (.istore_n 3, 1) := by decide +kernel
theorem d_Un_readCodes_35 : decode b_Un_readCodes 35 = .ok (.iload_n 1, 1) := by decide +kernel
theorem d_Un_readCodes_36 : decode b_Un_readCodes 36 = .ok (.sipush 286, 3) := by decide +kernel
theorem d_Un_readCodes_39 : decode b_Un_readCodes 39 = .ok (.if_icmp .gt 9, 3) := by decide +kernel
theorem d_Un_readCodes_42 : decode b_Un_readCodes 42 = .ok (.iload_n 2, 1) := by decide +kernel
theorem d_Un_readCodes_43 : decode b_Un_readCodes 43 = .ok (.bipush 30, 2) := by decide +kernel
theorem d_Un_readCodes_45 : decode b_Un_readCodes 45 = .ok (.if_icmp .le 5, 3) := by decide +kernel
theorem d_Un_readCodes_48 : decode b_Un_readCodes 48 = .ok (.iconst 0, 1) := by decide +kernel
theorem d_Un_readCodes_49 : decode b_Un_readCodes 49 = .ok (.ireturn, 1) := by decide +kernel
theorem d_Un_readCodes_50 : decode b_Un_readCodes 50 = .ok (.aload_n 0, 1) := by decide +kernel
theorem d_Un_readCodes_51 : decode b_Un_readCodes 51 = .ok (.getfield 18, 3) := by decide +kernel
theorem d_Un_readCodes_54 : decode b_Un_readCodes 54 = .ok (.iconst 0, 1) := by decide +kernel
theorem d_Un_readCodes_55 : decode b_Un_readCodes 55 = .ok (.invokestatic 38, 3) := by decide +kernel
theorem d_Un_readCodes_58 : decode b_Un_readCodes 58 = .ok (.iconst 0, 1) := by decide +kernel
theorem d_Un_readCodes_59 : decode b_Un_readCodes 59 = .ok (.istore 4, 2) := by decide +kernel
theorem d_Un_readCodes_61 : decode b_Un_readCodes 61 = .ok (.iload 4, 2) := by decide +kernel
theorem d_Un_readCodes_63 : decode b_Un_readCodes 63 = .ok (.iload_n 3, 1) := by decide +kernel
theorem d_Un_readCodes_64 : decode b_Un_readCodes 64 = .ok (.if_icmp .ge 28, 3) := by decide +kernel
theorem d_Un_readCodes_67 : decode b_Un_readCodes 67 = .ok (.aload_n 0, 1) := by decide +kernel
theorem d_Un_readCodes_68 : decode b_Un_readCodes 68 = .ok (.getfield 18, 3) := by decide +kernel
theorem d_Un_readCodes_71 : decode b_Un_readCodes 71 = .ok (.getstatic 140, 3) := by decide +kernel
theorem d_Un_readCodes_74 : decode b_Un_readCodes 74 = .ok (.iload 4, 2) := by decide +kernel
theorem d_Un_readCodes_76 : decode b_Un_readCodes 76 = .ok (.iaload, 1) := by decide +kernel
theorem d_Un_readCodes_77 : decode b_Un_readCodes 77 = .ok (.aload_n 0, 1) := by decide +kernel
theorem d_Un_readCodes_78 : decode b_Un_readCodes 78 = .ok (.getfield 12, 3) := by decide +kernel
theorem d_Un_readCodes_81 : decode b_Un_readCodes 81 = .ok (.iconst 3, 1) := by decide +kernel
theorem d_Un_readCodes_82 : decode b_Un_readCodes 82 = .ok (.invokevirtual 74, 3) := by decide +kernel
theorem d_Un_readCodes_85 : decode b_Un_readCodes 85 = .ok (.iastore, 1) := by decide +kernel
theorem d_Un_readCodes_86 : decode b_Un_readCodes 86 = .ok (.iinc 4 1, 3) := by decide +kernel
theorem d_Un_readCodes_89 : decode b_Un_readCodes 89 = .ok (.goto (-28), 3) := by decide +kernel
theorem d_Un_readCodes_92 : decode b_Un_readCodes 92 = .ok (.aload_n 0, 1) := by decide +kernel
theorem d_Un_readCodes_93 : decode b_Un_readCodes 93 = .ok (.getfield 44, 3) := by decide +kernel
theorem d_Un_readCodes_96 : decode b_Un_readCodes 96 = .ok (.aload_n 0, 1) := by decide +kernel
theorem d_Un_readCodes_97 : decode b_Un_readCodes 97 = .ok (.getfield 18, 3) := by decide +kernel
theorem d_Un_readCodes_100 : decode b_Un_readCodes 100 = .ok (.iconst 0, 1) := by decide +kernel
theorem d_Un_readCodes_101 : decode b_Un_readCodes 101 = .ok (.bipush 19, 2) := by decide +kernel
theorem d_Un_readCodes_103 : decode b_Un_readCodes 103 = .ok (.invokevirtual 31, 3) := by decide +kernel
theorem d_Un_readCodes_106 : decode b_Un_readCodes 106 = .ok (.aload_n 0, 1) := by decide +kernel
theorem d_Un_readCodes_107 : decode b_Un_readCodes 107 = .ok (.getfield 44, 3) := by decide +kernel
theorem d_Un_readCodes_110 : decode b_Un_readCodes 110 = .ok (.invokevirtual 143, 3) := by decide +kernel
theorem d_Un_readCodes_113 : decode b_Un_readCodes 113 = .ok (.ifCond .eq 13, 3) := by decide +kernel
theorem d_Un_readCodes_116 : decode b_Un_readCodes 116 = .ok (.aload_n 0, 1) := by decide +kernel
theorem d_Un_readCodes_117 : decode b_Un_readCodes 117 = .ok (.iload_n 1, 1) := by decide +kernel
theorem d_Un_readCodes_118 : decode b_Un_readCodes 118 = .ok (.iload_n 2, 1) := by decide +kernel
theorem d_Un_readCodes_119 : decode b_Un_readCodes 119 = .ok (.iadd, 1) := by decide +kernel
theorem d_Un_readCodes_120 : decode b_Un_readCodes 120 = .ok (.invokevirtual 146, 3) := by decide +kernel
theorem d_Un_readCodes_123 : decode b_Un_readCodes 123 = .ok (.ifCond .ne 5, 3) := by decide +kernel
theorem d_Un_readCodes_126 : decode b_Un_readCodes 126 = .ok (.iconst 0, 1) := by decide +kernel
theorem d_Un_readCodes_127 : decode b_Un_readCodes 127 = .ok (.ireturn, 1) := by decide +kernel
theorem d_Un_readCodes_128 : decode b_Un_readCodes 128 = .ok (.aload_n 0, 1) := by decide +kernel
theorem d_Un_readCodes_129 : decode b_Un_readCodes 129 = .ok (.getfield 47, 3) := by decide +kernel
theorem d_Un_readCodes_132 : decode b_Un_readCodes 132 = .ok (.aload_n 0, 1) := by decide +kernel
theorem d_Un_readCodes_133 : decode b_Un_readCodes 133 = .ok (.getfield 18, 3) := by decide +kernel
theorem d_Un_readCodes_136 : decode b_Un_readCodes 136 = .ok (.iconst 0, 1) := by decide +kernel
theorem d_Un_readCodes_137 : decode b_Un_readCodes 137 = .ok (.iload_n 1, 1) := by decide +kernel
theorem d_Un_readCodes_138 : decode b_Un_readCodes 138 = .ok (.invokevirtual 31, 3) := by decide +kernel
theorem d_Un_readCodes_141 : decode b_Un_readCodes 141 = .ok (.aload_n 0, 1) := by decide +kernel
theorem d_Un_readCodes_142 : decode b_Un_readCodes 142 = .ok (.getfield 50, 3) := by decide +kernel
theorem d_Un_readCodes_145 : decode b_Un_readCodes 145 = .ok (.aload_n 0, 1) := by decide +kernel
theorem d_Un_readCodes_146 : decode b_Un_readCodes 146 = .ok (.getfield 18, 3) := by decide +kernel
theorem d_Un_readCodes_149 : decode b_Un_readCodes 149 = .ok (.iload_n 1, 1) := by decide +kernel
theorem d_Un_readCodes_150 : decode b_Un_readCodes 150 = .ok (.iload_n 2, 1) := by decide +kernel
theorem d_Un_readCodes_151 : decode b_Un_readCodes 151 = .ok (.invokevirtual 31, 3) := by decide +kernel
theorem d_Un_readCodes_154 : decode b_Un_readCodes 154 = .ok (.aload_n 0, 1) := by decide +kernel
theorem d_Un_readCodes_155 : decode b_Un_readCodes 155 = .ok (.getfield 18, 3) := by decide +kernel
theorem d_Un_readCodes_158 : decode b_Un_readCodes 158 = .ok (.sipush 256, 3) := by decide +kernel
theorem d_Un_readCodes_161 : decode b_Un_readCodes 161 = .ok (.iaload, 1) := by decide +kernel
theorem d_Un_readCodes_162 : decode b_Un_readCodes 162 = .ok (.ifCond .eq 7, 3) := by decide +kernel
theorem d_Un_readCodes_165 : decode b_Un_readCodes 165 = .ok (.iconst 1, 1) := by decide +kernel
theorem d_Un_readCodes_166 : decode b_Un_readCodes 166 = .ok (.goto 4, 3) := by decide +kernel
theorem d_Un_readCodes_169 : decode b_Un_readCodes 169 = .ok (.iconst 0, 1) := by decide +kernel
theorem d_Un_readCodes_170 : decode b_Un_readCodes 170 = .ok (.istore 4, 2) := by decide +kernel
theorem d_Un_readCodes_172 : decode b_Un_readCodes 172 = .ok (.iload 4, 2) := by decide +kernel
theorem d_Un_readCodes_174 : decode b_Un_readCodes 174 = .ok (.ifCond .eq 37, 3) := by decide +kernel
theorem d_Un_readCodes_177 : decode b_Un_readCodes 177 = .ok (.aload_n 0, 1) := by decide +kernel
theorem d_Un_readCodes_178 : decode b_Un_readCodes 178 = .ok (.getfield 47, 3) := by decide +kernel
theorem d_Un_readCodes_181 : decode b_Un_readCodes 181 = .ok (.invokevirtual 143, 3) := by decide +kernel
theorem d_Un_readCodes_184 : decode b_Un_readCodes 184 = .ok (.ifCond .eq 27, 3) := by decide +kernel
theorem d_Un_readCodes_187 : decode b_Un_readCodes 187 = .ok (.aload_n 0, 1) := by decide +kernel
theorem d_Un_readCodes_188 : decode b_Un_readCodes 188 = .ok (.getfield 50, 3) := by decide +kernel
theorem d_Un_readCodes_191 : decode b_Un_readCodes 191 = .ok (.invokevirtual 143, 3) := by decide +kernel
theorem d_Un_readCodes_194 : decode b_Un_readCodes 194 = .ok (.ifCond .ne 13, 3) := by decide +kernel
theorem d_Un_readCodes_197 : decode b_Un_readCodes 197 = .ok (.aload_n 0, 1) := by decide +kernel
theorem d_Un_readCodes_198 : decode b_Un_readCodes 198 = .ok (.getfield 50, 3) := by decide +kernel
theorem d_Un_readCodes_201 : decode b_Un_readCodes 201 = .ok (.invokevirtual 150, 3) := by decide +kernel
theorem d_Un_readCodes_204 : decode b_Un_readCodes 204 = .ok (.ifCond .eq 7, 3) := by decide +kernel
theorem d_Un_readCodes_207 : decode b_Un_readCodes 207 = .ok (.iconst 1, 1) := by decide +kernel
theorem d_Un_readCodes_208 : decode b_Un_readCodes 208 = .ok (.goto 4, 3) := by decide +kernel
theorem d_Un_readCodes_211 : decode b_Un_readCodes 211 = .ok (.iconst 0, 1) := by decide +kernel
theorem d_Un_readCodes_212 : decode b_Un_readCodes 212 = .ok (.ireturn, 1) := by decide +kernel
theorem d_Un_readLengths_0 : decode b_Un_readLengths 0 = .ok (.iconst 0, 1) := by decide +kernel
theorem d_Un_readLengths_1 : decode b_Un_readLengths 1 = .ok (.istore_n 2, 1) := by decide +kernel
theorem d_Un_readLengths_2 : decode b_Un_readLengths 2 = .ok (.iconst 0, 1) := by decide +kernel
theorem d_Un_readLengths_3 : decode b_Un_readLengths 3 = .ok (.istore_n 3, 1) := by decide +kernel
theorem d_Un_readLengths_4 : decode b_Un_readLengths 4 = .ok (.iload_n 3, 1) := by decide +kernel
theorem d_Un_readLengths_5 : decode b_Un_readLengths 5 = .ok (.iload_n 1, 1) := by decide +kernel
theorem d_Un_readLengths_6 : decode b_Un_readLengths 6 = .ok (.if_icmp .ge 116, 3) := by decide +kernel
theorem d_Un_readLengths_9 : decode b_Un_readLengths 9 = .ok (.iload_n 2, 1) := by decide +kernel
theorem d_Un_readLengths_10 : decode b_Un_readLengths 10 = .ok (.iload_n 1, 1) := by decide +kernel
theorem d_Un_readLengths_11 : decode b_Un_readLengths 11 = .ok (.if_icmp .ge 111, 3) := by decide +kernel
theorem d_Un_readLengths_14 : decode b_Un_readLengths 14 = .ok (.aload_n 0, 1) := by decide +kernel
theorem d_Un_readLengths_15 : decode b_Un_readLengths 15 = .ok (.getfield 44, 3) := by decide +kernel
theorem d_Un_readLengths_18 : decode b_Un_readLengths 18 = .ok (.aload_n 0, 1) := by decide +kernel
theorem d_Un_readLengths_19 : decode b_Un_readLengths 19 = .ok (.getfield 12, 3) := by decide +kernel
theorem d_Un_readLengths_22 : decode b_Un_readLengths 22 = .ok (.invokevirtual 117, 3) := by decide +kernel
theorem d_Un_readLengths_25 : decode b_Un_readLengths 25 = .ok (.istore 4, 2) := by decide +kernel
theorem d_Un_readLengths_27 : decode b_Un_readLengths 27 = .ok (.iload 4, 2) := by decide +kernel
theorem d_Un_readLengths_29 : decode b_Un_readLengths 29 = .ok (.ifCond .lt 14, 3) := by decide +kernel
theorem d_Un_readLengths_32 : decode b_Un_readLengths 32 = .ok (.iload 4, 2) := by decide +kernel
theorem d_Un_readLengths_34 : decode b_Un_readLengths 34 = .ok (.bipush 16, 2) := by decide +kernel
theorem d_Un_readLengths_36 : decode b_Un_readLengths 36 = .ok (.if_icmp .ne 9, 3) := by decide +kernel
theorem d_Un_readLengths_39 : decode b_Un_readLengths 39 = .ok (.iload_n 2, 1) := by decide +kernel
theorem d_Un_readLengths_40 : decode b_Un_readLengths 40 = .ok (.ifCond .ne 5, 3) := by decide +kernel
theorem d_Un_readLengths_43 : decode b_Un_readLengths 43 = .ok (.iconst 0, 1) := by decide +kernel
theorem d_Un_readLengths_44 : decode b_Un_readLengths 44 = .ok (.ireturn, 1) := by decide +kernel
theorem d_Un_readLengths_45 : decode b_Un_readLengths 45 = .ok (.iload 4, 2) := by decide +kernel
theorem d_Un_readLengths_47 : decode b_Un_readLengths 47 = .ok (.bipush 16, 2) := by decide +kernel
theorem d_Un_readLengths_49 : decode b_Un_readLengths 49 = .ok (.if_icmp .ge 8, 3) := by decide +kernel
theorem d_Un_readLengths_52 : decode b_Un_readLengths 52 = .ok (.iload 4, 2) := by decide +kernel
theorem d_Un_readLengths_54 : decode b_Un_readLengths 54 = .ok (.goto 22, 3) := by decide +kernel
theorem d_Un_readLengths_57 : decode b_Un_readLengths 57 = .ok (.iload 4, 2) := by decide +kernel
theorem d_Un_readLengths_59 : decode b_Un_readLengths 59 = .ok (.bipush 16, 2) := by decide +kernel
theorem d_Un_readLengths_61 : decode b_Un_readLengths 61 = .ok (.if_icmp .ne 14, 3) := by decide +kernel
theorem d_Un_readLengths_64 : decode b_Un_readLengths 64 = .ok (.aload_n 0, 1) := by decide +kernel
theorem d_Un_readLengths_65 : decode b_Un_readLengths 65 = .ok (.getfield 18, 3) := by decide +kernel
theorem d_Un_readLengths_68 : decode b_Un_readLengths 68 = .ok (.iload_n 2, 1) := by decide +kernel
theorem d_Un_readLengths_69 : decode b_Un_readLengths 69 = .ok (.iconst 1, 1) := by decide +kernel
theorem d_Un_readLengths_70 : decode b_Un_readLengths 70 = .ok (.isub, 1) := by decide +kernel
theorem d_Un_readLengths_71 : decode b_Un_readLengths 71 = .ok (.iaload, 1) := by decide +kernel
theorem d_Un_readLengths_72 : decode b_Un_readLengths 72 = .ok (.goto 4, 3) := by decide +kernel
theorem d_Un_readLengths_75 : decode b_Un_readLengths 75 = .ok (.iconst 0, 1) := by decide +kernel
theorem d_Un_readLengths_76 : decode b_Un_readLengths 76 = .ok (.istore 5, 2) := by decide +kernel
theorem d_Un_readLengths_78 : decode b_Un_readLengths 78 = .ok (.iload_n 2, 1) := by decide +kernel
theorem d_Un_readLengths_79 : decode b_Un_readLengths 79 = .ok (.aload_n 0, 1) := by decide +kernel
theorem d_Un_readLengths_80 : decode b_Un_readLengths 80 = .ok (.iload 4, 2) := by decide +kernel
theorem d_Un_readLengths_82 : decode b_Un_readLengths 82 = .ok (.invokevirtual 153, 3) := by decide +kernel
theorem d_Un_readLengths_85 : decode b_Un_readLengths 85 = .ok (.iadd, 1) := by decide +kernel
theorem d_Un_readLengths_86 : decode b_Un_readLengths 86 = .ok (.istore 6, 2) := by decide +kernel
theorem d_Un_readLengths_88 : decode b_Un_readLengths 88 = .ok (.iload 6, 2) := by decide +kernel
theorem d_Un_readLengths_90 : decode b_Un_readLengths 90 = .ok (.iload_n 1, 1) := by decide +kernel
theorem d_Un_readLengths_91 : decode b_Un_readLengths 91 = .ok (.if_icmp .le 5, 3) := by decide +kernel
theorem d_Un_readLengths_94 : decode b_Un_readLengths 94 = .ok (.iconst 0, 1) := by decide +kernel
theorem d_Un_readLengths_95 : decode b_Un_readLengths 95 = .ok (.ireturn, 1) := by decide +kernel
theorem d_Un_readLengths_96 : decode b_Un_readLengths 96 = .ok (.iload_n 2, 1) := by decide +kernel
theorem d_Un_readLengths_97 : decode b_Un_readLengths 97 = .ok (.iload 6, 2) := by decide +kernel
theorem d_Un_readLengths_99 : decode b_Un_readLengths 99 = .ok (.if_icmp .ge 17, 3) := by decide +kernel
theorem d_Un_readLengths_102 : decode b_Un_readLengths 102 = .ok (.aload_n 0, 1) := by decide +kernel
theorem d_Un_readLengths_103 : decode b_Un_readLengths 103 = .ok (.getfield 18, 3) := by decide +kernel
theorem d_Un_readLengths_106 : decode b_Un_readLengths 106 = .ok (.iload_n 2, 1) := by decide +kernel
theorem d_Un_readLengths_107 : decode b_Un_readLengths 107 = .ok (.iload 5, 2) := by decide +kernel
theorem d_Un_readLengths_109 : decode b_Un_readLengths 109 = .ok (.iastore, 1) := by decide +kernel
theorem d_Un_readLengths_110 : decode b_Un_readLengths 110 = .ok (.iinc 2 1, 3) := by decide +kernel
theorem d_Un_readLengths_113 : decode b_Un_readLengths 113 = .ok (.goto (-17), 3) := by decide +kernel
theorem d_Un_readLengths_116 : decode b_Un_readLengths 116 = .ok (.iinc 3 1, 3) := by decide +kernel
theorem d_Un_readLengths_119 : decode b_Un_readLengths 119 = .ok (.goto (-115), 3) := by decide +kernel
theorem d_Un_readLengths_122 : decode b_Un_readLengths 122 = .ok (.iload_n 2, 1) := by decide +kernel
theorem d_Un_readLengths_123 : decode b_Un_readLengths 123 = .ok (.iload_n 1, 1) := by decide +kernel
theorem d_Un_readLengths_124 : decode b_Un_readLengths 124 = .ok (.if_icmp .ne 7, 3) := by decide +kernel
theorem d_Un_readLengths_127 : decode b_Un_readLengths 127 = .ok (.iconst 1, 1) := by decide +kernel
theorem d_Un_readLengths_128 : decode b_Un_readLengths 128 = .ok (.goto 4, 3) := by decide +kernel
theorem d_Un_readLengths_131 : decode b_Un_readLengths 131 = .ok (.iconst 0, 1) := by decide +kernel
theorem d_Un_readLengths_132 : decode b_Un_readLengths 132 = .ok (.ireturn, 1) := by decide +kernel
theorem d_Un_readTimes_0 : decode b_Un_readTimes 0 = .ok (.iload_n 1, 1) := by decide +kernel
theorem d_Un_readTimes_1 : decode b_Un_readTimes 1 = .ok (.tableswitch 62 16 18 #[27, 38, 49], 27) := by decide +kernel
theorem d_Un_readTimes_28 : decode b_Un_readTimes 28 = .ok (.iconst 3, 1) := by decide +kernel
theorem d_Un_readTimes_29 : decode b_Un_readTimes 29 = .ok (.aload_n 0, 1) := by decide +kernel
theorem d_Un_readTimes_30 : decode b_Un_readTimes 30 = .ok (.getfield 12, 3) := by decide +kernel
theorem d_Un_readTimes_33 : decode b_Un_readTimes 33 = .ok (.iconst 2, 1) := by decide +kernel
theorem d_Un_readTimes_34 : decode b_Un_readTimes 34 = .ok (.invokevirtual 74, 3) := by decide +kernel
theorem d_Un_readTimes_37 : decode b_Un_readTimes 37 = .ok (.iadd, 1) := by decide +kernel
theorem d_Un_readTimes_38 : decode b_Un_readTimes 38 = .ok (.ireturn, 1) := by decide +kernel
theorem d_Un_readTimes_39 : decode b_Un_readTimes 39 = .ok (.iconst 3, 1) := by decide +kernel
theorem d_Un_readTimes_40 : decode b_Un_readTimes 40 = .ok (.aload_n 0, 1) := by decide +kernel
theorem d_Un_readTimes_41 : decode b_Un_readTimes 41 = .ok (.getfield 12, 3) := by decide +kernel
theorem d_Un_readTimes_44 : decode b_Un_readTimes 44 = .ok (.iconst 3, 1) := by decide +kernel
theorem d_Un_readTimes_45 : decode b_Un_readTimes 45 = .ok (.invokevirtual 74, 3) := by decide +kernel
theorem d_Un_readTimes_48 : decode b_Un_readTimes 48 = .ok (.iadd, 1) := by decide +kernel
theorem d_Un_readTimes_49 : decode b_Un_readTimes 49 = .ok (.ireturn, 1) := by decide +kernel
theorem d_Un_readTimes_50 : decode b_Un_readTimes 50 = .ok (.bipush 11, 2) := by decide +kernel
theorem d_Un_readTimes_52 : decode b_Un_readTimes 52 = .ok (.aload_n 0, 1) := by decide +kernel
theorem d_Un_readTimes_53 : decode b_Un_readTimes 53 = .ok (.getfield 12, 3) := by decide +kernel
theorem d_Un_readTimes_56 : decode b_Un_readTimes 56 = .ok (.bipush 7, 2) := by decide +kernel
theorem d_Un_readTimes_58 : decode b_Un_readTimes 58 = .ok (.invokevirtual 74, 3) := by decide +kernel
theorem d_Un_readTimes_61 : decode b_Un_readTimes 61 = .ok (.iadd, 1) := by decide +kernel
theorem d_Un_readTimes_62 : decode b_Un_readTimes 62 = .ok (.ireturn, 1) := by decide +kernel
theorem d_Un_readTimes_63 : decode b_Un_readTimes 63 = .ok (.iconst 1, 1) := by decide +kernel
theorem d_Un_readTimes_64 : decode b_Un_readTimes 64 = .ok (.ireturn, 1) := by decide +kernel
theorem d_Mo_init_0 : decode b_Mo_init 0 = .ok (.aload_n 0, 1) := by decide +kernel
theorem d_Mo_init_1 : decode b_Mo_init 1 = .ok (.invokespecial 1, 3) := by decide +kernel
theorem d_Mo_init_4 : decode b_Mo_init 4 = .ok (.aload_n 0, 1) := by decide +kernel
theorem d_Mo_init_5 : decode b_Mo_init 5 = .ok (.ldc 7, 2) := by decide +kernel
theorem d_Mo_init_7 : decode b_Mo_init 7 = .ok (.newarray .byte, 2) := by decide +kernel
theorem d_Mo_init_9 : decode b_Mo_init 9 = .ok (.putfield 8, 3) := by decide +kernel
theorem d_Mo_init_12 : decode b_Mo_init 12 = .ok (.aload_n 0, 1) := by decide +kernel
theorem d_Mo_init_13 : decode b_Mo_init 13 = .ok (.ldc 14, 2) := by decide +kernel
theorem d_Mo_init_15 : decode b_Mo_init 15 = .ok (.newarray .byte, 2) := by decide +kernel
theorem d_Mo_init_17 : decode b_Mo_init 17 = .ok (.putfield 15, 3) := by decide +kernel
theorem d_Mo_init_20 : decode b_Mo_init 20 = .ok (.aload_n 0, 1) := by decide +kernel
theorem d_Mo_init_21 : decode b_Mo_init 21 = .ok (.ldc 7, 2) := by decide +kernel
theorem d_Mo_init_23 : decode b_Mo_init 23 = .ok (.newarray .byte, 2) := by decide +kernel
theorem d_Mo_init_25 : decode b_Mo_init 25 = .ok (.putfield 18, 3) := by decide +kernel
theorem d_Mo_init_28 : decode b_Mo_init 28 = .ok (.aload_n 0, 1) := by decide +kernel
theorem d_Mo_init_29 : decode b_Mo_init 29 = .ok (.sipush 340, 3) := by decide +kernel
theorem d_Mo_init_32 : decode b_Mo_init 32 = .ok (.newarray .int, 2) := by decide +kernel
theorem d_Mo_init_34 : decode b_Mo_init 34 = .ok (.putfield 21, 3) := by decide +kernel
theorem d_Mo_init_37 : decode b_Mo_init 37 = .ok (.aload_n 0, 1) := by decide +kernel
theorem d_Mo_init_38 : decode b_Mo_init 38 = .ok (.sipush 340, 3) := by decide +kernel
theorem d_Mo_init_41 : decode b_Mo_init 41 = .ok (.newarray .int, 2) := by decide +kernel
theorem d_Mo_init_43 : decode b_Mo_init 43 = .ok (.putfield 25, 3) := by decide +kernel
theorem d_Mo_init_46 : decode b_Mo_init 46 = .ok (.aload_n 0, 1) := by decide +kernel
theorem d_Mo_init_47 : decode b_Mo_init 47 = .ok (.sipush 320, 3) := by decide +kernel
theorem d_Mo_init_50 : decode b_Mo_init 50 = .ok (.newarray .int, 2) := by decide +kernel
theorem d_Mo_init_52 : decode b_Mo_init 52 = .ok (.putfield 28, 3) := by decide +kernel
theorem d_Mo_init_55 : decode b_Mo_init 55 = .ok (.aload_n 0, 1) := by decide +kernel
theorem d_Mo_init_56 : decode b_Mo_init 56 = .ok (.bipush 17, 2) := by decide +kernel
theorem d_Mo_init_58 : decode b_Mo_init 58 = .ok (.newarray .int, 2) := by decide +kernel
theorem d_Mo_init_60 : decode b_Mo_init 60 = .ok (.putfield 31, 3) := by decide +kernel
theorem d_Mo_init_63 : decode b_Mo_init 63 = .ok (.aload_n 0, 1) := by decide +kernel
theorem d_Mo_init_64 : decode b_Mo_init 64 = .ok (.bipush 17, 2) := by decide +kernel
theorem d_Mo_init_66 : decode b_Mo_init 66 = .ok (.newarray .int, 2) := by decide +kernel
theorem d_Mo_init_68 : decode b_Mo_init 68 = .ok (.putfield 34, 3) := by decide +kernel
theorem d_Mo_init_71 : decode b_Mo_init 71 = .ok (.aload_n 0, 1) := by decide +kernel
theorem d_Mo_init_72 : decode b_Mo_init 72 = .ok (.bipush 80, 2) := by decide +kernel
theorem d_Mo_init_74 : decode b_Mo_init 74 = .ok (.newarray .int, 2) := by decide +kernel
theorem d_Mo_init_76 : decode b_Mo_init 76 = .ok (.putfield 37, 3) := by decide +kernel
theorem d_Mo_init_79 : decode b_Mo_init 79 = .ok (.aload_n 0, 1) := by decide +kernel
theorem d_Mo_init_80 : decode b_Mo_init 80 = .ok (.iconst 5, 1) := by decide +kernel
theorem d_Mo_init_81 : decode b_Mo_init 81 = .ok (.newarray .int, 2) := by decide +kernel
