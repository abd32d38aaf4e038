theorem dX11_init_0 : decode cX11_init 0 = .ok (.aload_n 0, 1) := by decide +kernel
theorem dX11_init_1 : decode cX11_init 1 = .ok (.invokespecial 1, 3) := by decide +kernel
theorem dX11_init_4 : decode cX11_init 4 = .ok (.aload_n 0, 1) := by decide +kernel
theorem dX11_init_5 : decode cX11_init 5 = .ok (.bipush 60, 2) := by decide +kernel
theorem dX11_init_7 : decode cX11_init 7 = .ok (.newarray .int, 2) := by decide +kernel
theorem dX11_init_9 : decode cX11_init 9 = .ok (.putfield 7, 3) := by decide +kernel
theorem dX11_init_12 : decode cX11_init 12 = .ok (.aload_n 0, 1) := by decide +kernel
theorem dX11_init_13 : decode cX11_init 13 = .ok (.bipush 20, 2) := by decide +kernel
theorem dX11_init_15 : decode cX11_init 15 = .ok (.newarray .int, 2) := by decide +kernel
theorem dX11_init_17 : decode cX11_init 17 = .ok (.putfield 13, 3) := by decide +kernel
theorem dX11_init_20 : decode cX11_init 20 = .ok (.aload_n 0, 1) := by decide +kernel
theorem dX11_init_21 : decode cX11_init 21 = .ok (.sipush 360, 3) := by decide +kernel
theorem dX11_init_24 : decode cX11_init 24 = .ok (.newarray .int, 2) := by decide +kernel
theorem dX11_init_26 : decode cX11_init 26 = .ok (.putfield 16, 3) := by decide +kernel
theorem dX11_init_29 : decode cX11_init 29 = .ok (.aload_n 0, 1) := by decide +kernel
theorem dX11_init_30 : decode cX11_init 30 = .ok (.bipush 6, 2) := by decide +kernel
theorem dX11_init_32 : decode cX11_init 32 = .ok (.newarray .int, 2) := by decide +kernel
theorem dX11_init_34 : decode cX11_init 34 = .ok (.putfield 19, 3) := by decide +kernel
theorem dX11_init_37 : decode cX11_init 37 = .ok (.aload_n 0, 1) := by decide +kernel
theorem dX11_init_38 : decode cX11_init 38 = .ok (.sipush 360, 3) := by decide +kernel
theorem dX11_init_41 : decode cX11_init 41 = .ok (.newarray .int, 2) := by decide +kernel
theorem dX11_init_43 : decode cX11_init 43 = .ok (.putfield 22, 3) := by decide +kernel
theorem dX11_init_46 : decode cX11_init 46 = .ok (.aload_n 0, 1) := by decide +kernel
theorem dX11_init_47 : decode cX11_init 47 = .ok (.bipush 6, 2) := by decide +kernel
theorem dX11_init_49 : decode cX11_init 49 = .ok (.newarray .int, 2) := by decide +kernel
theorem dX11_init_51 : decode cX11_init 51 = .ok (.putfield 25, 3) := by decide +kernel
theorem dX11_init_54 : decode cX11_init 54 = .ok (.aload_n 0, 1) := by decide +kernel
theorem dX11_init_55 : decode cX11_init 55 = .ok (.bipush 60, 2) := by decide +kernel
theorem dX11_init_57 : decode cX11_init 57 = .ok (.newarray .int, 2) := by decide +kernel
theorem dX11_init_59 : decode cX11_init 59 = .ok (.putfield 28, 3) := by decide +kernel
theorem dX11_init_62 : decode cX11_init 62 = .ok (.aload_n 0, 1) := by decide +kernel
theorem dX11_init_63 : decode cX11_init 63 = .ok (.bipush 6, 2) := by decide +kernel
theorem dX11_init_65 : decode cX11_init 65 = .ok (.newarray .int, 2) := by decide +kernel
theorem dX11_init_67 : decode cX11_init 67 = .ok (.putfield 31, 3) := by decide +kernel
theorem dX11_init_70 : decode cX11_init 70 = .ok (.aload_n 0, 1) := by decide +kernel
theorem dX11_init_71 : decode cX11_init 71 = .ok (.bipush 6, 2) := by decide +kernel
theorem dX11_init_73 : decode cX11_init 73 = .ok (.newarray .int, 2) := by decide +kernel
theorem dX11_init_75 : decode cX11_init 75 = .ok (.putfield 34, 3) := by decide +kernel
theorem dX11_init_78 : decode cX11_init 78 = .ok (.aload_n 0, 1) := by decide +kernel
theorem dX11_init_79 : decode cX11_init 79 = .ok (.bipush 6, 2) := by decide +kernel
theorem dX11_init_81 : decode cX11_init 81 = .ok (.newarray .int, 2) := by decide +kernel
theorem dX11_init_83 : decode cX11_init 83 = .ok (.putfield 37, 3) := by decide +kernel
theorem dX11_init_86 : decode cX11_init 86 = .ok (.aload_n 0, 1) := by decide +kernel
theorem dX11_init_87 : decode cX11_init 87 = .ok (.bipush 10, 2) := by decide +kernel
theorem dX11_init_89 : decode cX11_init 89 = .ok (.newarray .boolean, 2) := by decide +kernel
theorem dX11_init_91 : decode cX11_init 91 = .ok (.putfield 40, 3) := by decide +kernel
theorem dX11_init_94 : decode cX11_init 94 = .ok (.aload_n 0, 1) := by decide +kernel
theorem dX11_init_95 : decode cX11_init 95 = .ok (.bipush 10, 2) := by decide +kernel
theorem dX11_init_97 : decode cX11_init 97 = .ok (.newarray .boolean, 2) := by decide +kernel
theorem dX11_init_99 : decode cX11_init 99 = .ok (.putfield 44, 3) := by decide +kernel
theorem dX11_init_102 : decode cX11_init 102 = .ok (.aload_n 0, 1) := by decide +kernel
theorem dX11_init_103 : decode cX11_init 103 = .ok (.bipush 10, 2) := by decide +kernel
theorem dX11_init_105 : decode cX11_init 105 = .ok (.newarray .boolean, 2) := by decide +kernel
theorem dX11_init_107 : decode cX11_init 107 = .ok (.putfield 47, 3) := by decide +kernel
theorem dX11_init_110 : decode cX11_init 110 = .ok (.aload_n 0, 1) := by decide +kernel
theorem dX11_init_111 : decode cX11_init 111 = .ok (.bipush 8, 2) := by decide +kernel
theorem dX11_init_113 : decode cX11_init 113 = .ok (.newarray .int, 2) := by decide +kernel
theorem dX11_init_115 : decode cX11_init 115 = .ok (.putfield 50, 3) := by decide +kernel
theorem dX11_init_118 : decode cX11_init 118 = .ok (.aload_n 0, 1) := by decide +kernel
theorem dX11_init_119 : decode cX11_init 119 = .ok (.bipush 40, 2) := by decide +kernel
theorem dX11_init_121 : decode cX11_init 121 = .ok (.newarray .int, 2) := by decide +kernel
theorem dX11_init_123 : decode cX11_init 123 = .ok (.putfield 53, 3) := by decide +kernel
theorem dX11_init_126 : decode cX11_init 126 = .ok (.aload_n 0, 1) := by decide +kernel
theorem dX11_init_127 : decode cX11_init 127 = .ok (.bipush 40, 2) := by decide +kernel
theorem dX11_init_129 : decode cX11_init 129 = .ok (.newarray .int, 2) := by decide +kernel
theorem dX11_init_131 : decode cX11_init 131 = .ok (.putfield 56, 3) := by decide +kernel
theorem dX11_init_134 : decode cX11_init 134 = .ok (.aload_n 0, 1) := by decide +kernel
theorem dX11_init_135 : decode cX11_init 135 = .ok (.bipush 8, 2) := by decide +kernel
theorem dX11_init_137 : decode cX11_init 137 = .ok (.newarray .int, 2) := by decide +kernel
theorem dX11_init_139 : decode cX11_init 139 = .ok (.putfield 59, 3) := by decide +kernel
theorem dX11_init_142 : decode cX11_init 142 = .ok (.aload_n 0, 1) := by decide +kernel
theorem dX11_init_143 : decode cX11_init 143 = .ok (.sipush 160, 3) := by decide +kernel
theorem dX11_init_146 : decode cX11_init 146 = .ok (.newarray .int, 2) := by decide +kernel
theorem dX11_init_148 : decode cX11_init 148 = .ok (.putfield 62, 3) := by decide +kernel
theorem dX11_init_151 : decode cX11_init 151 = .ok (.aload_n 0, 1) := by decide +kernel
theorem dX11_init_152 : decode cX11_init 152 = .ok (.sipush 160, 3) := by decide +kernel
theorem dX11_init_155 : decode cX11_init 155 = .ok (.newarray .int, 2) := by decide +kernel
theorem dX11_init_157 : decode cX11_init 157 = .ok (.putfield 65, 3) := by decide +kernel
theorem dX11_init_160 : decode cX11_init 160 = .ok (.aload_n 0, 1) := by decide +kernel
theorem dX11_init_161 : decode cX11_init 161 = .ok (.bipush 24, 2) := by decide +kernel
theorem dX11_init_163 : decode cX11_init 163 = .ok (.newarray .int, 2) := by decide +kernel
theorem dX11_init_165 : decode cX11_init 165 = .ok (.putfield 68, 3) := by decide +kernel
theorem dX11_init_168 : decode cX11_init 168 = .ok (.aload_n 0, 1) := by decide +kernel
theorem dX11_init_169 : decode cX11_init 169 = .ok (.bipush 6, 2) := by decide +kernel
theorem dX11_init_171 : decode cX11_init 171 = .ok (.newarray .int, 2) := by decide +kernel
theorem dX11_init_173 : decode cX11_init 173 = .ok (.putfield 71, 3) := by decide +kernel
theorem dX11_init_176 : decode cX11_init 176 = .ok (.aload_n 0, 1) := by decide +kernel
theorem dX11_init_177 : decode cX11_init 177 = .ok (.bipush 6, 2) := by decide +kernel
theorem dX11_init_179 : decode cX11_init 179 = .ok (.newarray .int, 2) := by decide +kernel
theorem dX11_init_181 : decode cX11_init 181 = .ok (.putfield 74, 3) := by decide +kernel
theorem dX11_init_184 : decode cX11_init 184 = .ok (.aload_n 0, 1) := by decide +kernel
theorem dX11_init_185 : decode cX11_init 185 = .ok (.bipush 120, 2) := by decide +kernel
theorem dX11_init_187 : decode cX11_init 187 = .ok (.newarray .int, 2) := by decide +kernel
theorem dX11_init_189 : decode cX11_init 189 = .ok (.putfield 77, 3) := by decide +kernel
theorem dX11_init_192 : decode cX11_init 192 = .ok (.aload_n 0, 1) := by decide +kernel
theorem dX11_init_193 : decode cX11_init 193 = .ok (.sipush 960, 3) := by decide +kernel
theorem dX11_init_196 : decode cX11_init 196 = .ok (.newarray .int, 2) := by decide +kernel
theorem dX11_init_198 : decode cX11_init 198 = .ok (.putfield 80, 3) := by decide +kernel
theorem dX11_init_201 : decode cX11_init 201 = .ok (.aload_n 0, 1) := by decide +kernel
theorem dX11_init_202 : decode cX11_init 202 = .ok (.bipush 6, 2) := by decide +kernel
theorem dX11_init_204 : decode cX11_init 204 = .ok (.newarray .boolean, 2) := by decide +kernel
theorem dX11_init_206 : decode cX11_init 206 = .ok (.putfield 83, 3) := by decide +kernel
theorem dX11_init_209 : decode cX11_init 209 = .ok (.aload_n 0, 1) := by decide +kernel
theorem dX11_init_210 : decode cX11_init 210 = .ok (.sipush 160, 3) := by decide +kernel
theorem dX11_init_213 : decode cX11_init 213 = .ok (.newarray .int, 2) := by decide +kernel
theorem dX11_init_215 : decode cX11_init 215 = .ok (.putfield 86, 3) := by decide +kernel
theorem dX11_init_218 : decode cX11_init 218 = .ok (.aload_n 0, 1) := by decide +kernel
theorem dX11_init_219 : decode cX11_init 219 = .ok (.sipush 160, 3) := by decide +kernel
theorem dX11_init_222 : decode cX11_init 222 = .ok (.newarray .int, 2) := by decide +kernel
theorem dX11_init_224 : decode cX11_init 224 = .ok (.putfield 89, 3) := by decide +kernel
theorem dX11_init_227 : decode cX11_init 227 = .ok (.aload_n 0, 1) := by decide +kernel
theorem dX11_init_228 : decode cX11_init 228 = .ok (.sipush 160, 3) := by decide +kernel
theorem dX11_init_231 : decode cX11_init 231 = .ok (.newarray .int, 2) := by decide +kernel
theorem dX11_init_233 : decode cX11_init 233 = .ok (.putfield 92, 3) := by decide +kernel
theorem dX11_init_236 : decode cX11_init 236 = .ok (.return_, 1) := by decide +kernel
theorem dX11_thrown_0 : decode cX11_thrown 0 = .ok (.aload_n 0, 1) := by decide +kernel
theorem dX11_thrown_1 : decode cX11_thrown 1 = .ok (.getfield 95, 3) := by decide +kernel
theorem dX11_thrown_4 : decode cX11_thrown 4 = .ok (.ireturn, 1) := by decide +kernel
theorem dX11_goesWell_0 : decode cX11_goesWell 0 = .ok (.aload_n 0, 1) := by decide +kernel
theorem dX11_goesWell_1 : decode cX11_goesWell 1 = .ok (.iload_n 1, 1) := by decide +kernel
theorem dX11_goesWell_2 : decode cX11_goesWell 2 = .ok (.putfield 95, 3) := by decide +kernel
theorem dX11_goesWell_5 : decode cX11_goesWell 5 = .ok (.iload_n 1, 1) := by decide +kernel
theorem dX11_goesWell_6 : decode cX11_goesWell 6 = .ok (.ifCond .ne 7, 3) := by decide +kernel
theorem dX11_goesWell_9 : decode cX11_goesWell 9 = .ok (.iconst 1, 1) := by decide +kernel
theorem dX11_goesWell_10 : decode cX11_goesWell 10 = .ok (.goto 4, 3) := by decide +kernel
theorem dX11_goesWell_13 : decode cX11_goesWell 13 = .ok (.iconst 0, 1) := by decide +kernel
theorem dX11_goesWell_14 : decode cX11_goesWell 14 = .ok (.ireturn, 1) := by decide +kernel
theorem dX11_in_0 : decode cX11_in 0 = .ok (.iload_n 0, 1) := by decide +kernel
theorem dX11_in_1 : decode cX11_in 1 = .ok (.iload_n 1, 1) := by decide +kernel
theorem dX11_in_2 : decode cX11_in 2 = .ok (.if_icmp .lt 12, 3) := by decide +kernel
theorem dX11_in_5 : decode cX11_in 5 = .ok (.iload_n 0, 1) := by decide +kernel
theorem dX11_in_6 : decode cX11_in 6 = .ok (.iload_n 2, 1) := by decide +kernel
theorem dX11_in_7 : decode cX11_in 7 = .ok (.if_icmp .gt 7, 3) := by decide +kernel
theorem dX11_in_10 : decode cX11_in 10 = .ok (.iconst 1, 1) := by decide +kernel
theorem dX11_in_11 : decode cX11_in 11 = .ok (.goto 4, 3) := by decide +kernel
theorem dX11_in_14 : decode cX11_in 14 = .ok (.iconst 0, 1) := by decide +kernel
theorem dX11_in_15 : decode cX11_in 15 = .ok (.ireturn, 1) := by decide +kernel
theorem dX11_isPerson_0 : decode cX11_isPerson 0 = .ok (.iload_n 0, 1) := by decide +kernel
theorem dX11_isPerson_1 : decode cX11_isPerson 1 = .ok (.iconst 0, 1) := by decide +kernel
theorem dX11_isPerson_2 : decode cX11_isPerson 2 = .ok (.bipush 19, 2) := by decide +kernel
theorem dX11_isPerson_4 : decode cX11_isPerson 4 = .ok (.invokestatic 99, 3) := by decide +kernel
theorem dX11_isPerson_7 : decode cX11_isPerson 7 = .ok (.ireturn, 1) := by decide +kernel
theorem dX11_isAudience_0 : decode cX11_isAudience 0 = .ok (.iload_n 0, 1) := by decide +kernel
theorem dX11_isAudience_1 : decode cX11_isAudience 1 = .ok (.iconst 0, 1) := by decide +kernel
theorem dX11_isAudience_2 : decode cX11_isAudience 2 = .ok (.iconst 5, 1) := by decide +kernel
theorem dX11_isAudience_3 : decode cX11_isAudience 3 = .ok (.invokestatic 99, 3) := by decide +kernel
theorem dX11_isAudience_6 : decode cX11_isAudience 6 = .ok (.ireturn, 1) := by decide +kernel
theorem dX11_isFlag_0 : decode cX11_isFlag 0 = .ok (.iload_n 0, 1) := by decide +kernel
theorem dX11_isFlag_1 : decode cX11_isFlag 1 = .ok (.iconst 0, 1) := by decide +kernel
theorem dX11_isFlag_2 : decode cX11_isFlag 2 = .ok (.bipush 7, 2) := by decide +kernel
theorem dX11_isFlag_4 : decode cX11_isFlag 4 = .ok (.invokestatic 99, 3) := by decide +kernel
theorem dX11_isFlag_7 : decode cX11_isFlag 7 = .ok (.ireturn, 1) := by decide +kernel
theorem dX11_isTrial_0 : decode cX11_isTrial 0 = .ok (.iload_n 0, 1) := by decide +kernel
theorem dX11_isTrial_1 : decode cX11_isTrial 1 = .ok (.iconst 0, 1) := by decide +kernel
theorem dX11_isTrial_2 : decode cX11_isTrial 2 = .ok (.iconst 5, 1) := by decide +kernel
theorem dX11_isTrial_3 : decode cX11_isTrial 3 = .ok (.invokestatic 99, 3) := by decide +kernel
theorem dX11_isTrial_6 : decode cX11_isTrial 6 = .ok (.ireturn, 1) := by decide +kernel
theorem dX11_isVariant_0 : decode cX11_isVariant 0 = .ok (.iload_n 0, 1) := by decide +kernel
theorem dX11_isVariant_1 : decode cX11_isVariant 1 = .ok (.iconst 0, 1) := by decide +kernel
theorem dX11_isVariant_2 : decode cX11_isVariant 2 = .ok (.iconst 3, 1) := by decide +kernel
theorem dX11_isVariant_3 : decode cX11_isVariant 3 = .ok (.invokestatic 99, 3) := by decide +kernel
theorem dX11_isVariant_6 : decode cX11_isVariant 6 = .ok (.ireturn, 1) := by decide +kernel
theorem dX11_setAttribute_0 : decode cX11_setAttribute 0 = .ok (.iload_n 2, 1) := by decide +kernel
theorem dX11_setAttribute_1 : decode cX11_setAttribute 1 = .ok (.ifCond .ne 8, 3) := by decide +kernel
theorem dX11_setAttribute_4 : decode cX11_setAttribute 4 = .ok (.bipush 9, 2) := by decide +kernel
theorem dX11_setAttribute_6 : decode cX11_setAttribute 6 = .ok (.goto 14, 3) := by decide +kernel
theorem dX11_setAttribute_9 : decode cX11_setAttribute 9 = .ok (.iload_n 2, 1) := by decide +kernel
theorem dX11_setAttribute_10 : decode cX11_setAttribute 10 = .ok (.iconst 1, 1) := by decide +kernel
theorem dX11_setAttribute_11 : decode cX11_setAttribute 11 = .ok (.if_icmp .ne 8, 3) := by decide +kernel
theorem dX11_setAttribute_14 : decode cX11_setAttribute 14 = .ok (.bipush 99, 2) := by decide +kernel
theorem dX11_setAttribute_16 : decode cX11_setAttribute 16 = .ok (.goto 4, 3) := by decide +kernel
theorem dX11_setAttribute_19 : decode cX11_setAttribute 19 = .ok (.iconst 3, 1) := by decide +kernel
theorem dX11_setAttribute_20 : decode cX11_setAttribute 20 = .ok (.istore 4, 2) := by decide +kernel
theorem dX11_setAttribute_22 : decode cX11_setAttribute 22 = .ok (.aload_n 0, 1) := by decide +kernel
theorem dX11_setAttribute_23 : decode cX11_setAttribute 23 = .ok (.iload_n 1, 1) := by decide +kernel
theorem dX11_setAttribute_24 : decode cX11_setAttribute 24 = .ok (.invokestatic 103, 3) := by decide +kernel
theorem dX11_setAttribute_27 : decode cX11_setAttribute 27 = .ok (.ifCond .eq 26, 3) := by decide +kernel
theorem dX11_setAttribute_30 : decode cX11_setAttribute 30 = .ok (.iload_n 2, 1) := by decide +kernel
theorem dX11_setAttribute_31 : decode cX11_setAttribute 31 = .ok (.iconst 0, 1) := by decide +kernel
theorem dX11_setAttribute_32 : decode cX11_setAttribute 32 = .ok (.iconst 2, 1) := by decide +kernel
theorem dX11_setAttribute_33 : decode cX11_setAttribute 33 = .ok (.invokestatic 99, 3) := by decide +kernel
theorem dX11_setAttribute_36 : decode cX11_setAttribute 36 = .ok (.ifCond .eq 17, 3) := by decide +kernel
theorem dX11_setAttribute_39 : decode cX11_setAttribute 39 = .ok (.iload_n 3, 1) := by decide +kernel
theorem dX11_setAttribute_40 : decode cX11_setAttribute 40 = .ok (.iconst 0, 1) := by decide +kernel
theorem dX11_setAttribute_41 : decode cX11_setAttribute 41 = .ok (.iload 4, 2) := by decide +kernel
theorem dX11_setAttribute_43 : decode cX11_setAttribute 43 = .ok (.invokestatic 99, 3) := by decide +kernel
theorem dX11_setAttribute_46 : decode cX11_setAttribute 46 = .ok (.ifCond .eq 7, 3) := by decide +kernel
theorem dX11_setAttribute_49 : decode cX11_setAttribute 49 = .ok (.iconst 0, 1) := by decide +kernel
theorem dX11_setAttribute_50 : decode cX11_setAttribute 50 = .ok (.goto 4, 3) := by decide +kernel
theorem dX11_setAttribute_53 : decode cX11_setAttribute 53 = .ok (.iconst 1, 1) := by decide +kernel
theorem dX11_setAttribute_54 : decode cX11_setAttribute 54 = .ok (.invokevirtual 107, 3) := by decide +kernel
theorem dX11_setAttribute_57 : decode cX11_setAttribute 57 = .ok (.ifCond .ne 5, 3) := by decide +kernel
theorem dX11_setAttribute_60 : decode cX11_setAttribute 60 = .ok (.iconst 0, 1) := by decide +kernel
theorem dX11_setAttribute_61 : decode cX11_setAttribute 61 = .ok (.ireturn, 1) := by decide +kernel
theorem dX11_setAttribute_62 : decode cX11_setAttribute 62 = .ok (.aload_n 0, 1) := by decide +kernel
theorem dX11_setAttribute_63 : decode cX11_setAttribute 63 = .ok (.getfield 7, 3) := by decide +kernel
theorem dX11_setAttribute_66 : decode cX11_setAttribute 66 = .ok (.iconst 3, 1) := by decide +kernel
theorem dX11_setAttribute_67 : decode cX11_setAttribute 67 = .ok (.iload_n 1, 1) := by decide +kernel
theorem dX11_setAttribute_68 : decode cX11_setAttribute 68 = .ok (.imul, 1) := by decide +kernel
theorem dX11_setAttribute_69 : decode cX11_setAttribute 69 = .ok (.iload_n 2, 1) := by decide +kernel
theorem dX11_setAttribute_70 : decode cX11_setAttribute 70 = .ok (.iadd, 1) := by decide +kernel
theorem dX11_setAttribute_71 : decode cX11_setAttribute 71 = .ok (.iaload, 1) := by decide +kernel
theorem dX11_setAttribute_72 : decode cX11_setAttribute 72 = .ok (.istore 5, 2) := by decide +kernel
theorem dX11_setAttribute_74 : decode cX11_setAttribute 74 = .ok (.aload_n 0, 1) := by decide +kernel
theorem dX11_setAttribute_75 : decode cX11_setAttribute 75 = .ok (.getfield 7, 3) := by decide +kernel
theorem dX11_setAttribute_78 : decode cX11_setAttribute 78 = .ok (.iconst 3, 1) := by decide +kernel
theorem dX11_setAttribute_79 : decode cX11_setAttribute 79 = .ok (.iload_n 1, 1) := by decide +kernel
theorem dX11_setAttribute_80 : decode cX11_setAttribute 80 = .ok (.imul, 1) := by decide +kernel
theorem dX11_setAttribute_81 : decode cX11_setAttribute 81 = .ok (.iload_n 2, 1) := by decide +kernel
theorem dX11_setAttribute_82 : decode cX11_setAttribute 82 = .ok (.iadd, 1) := by decide +kernel
theorem dX11_setAttribute_83 : decode cX11_setAttribute 83 = .ok (.iload_n 3, 1) := by decide +kernel
theorem dX11_setAttribute_84 : decode cX11_setAttribute 84 = .ok (.iastore, 1) := by decide +kernel
theorem dX11_setAttribute_85 : decode cX11_setAttribute 85 = .ok (.iload 5, 2) := by decide +kernel
theorem dX11_setAttribute_87 : decode cX11_setAttribute 87 = .ok (.ireturn, 1) := by decide +kernel
theorem dX11_setTag_0 : decode cX11_setTag 0 = .ok (.aload_n 0, 1) := by decide +kernel
theorem dX11_setTag_1 : decode cX11_setTag 1 = .ok (.iload_n 1, 1) := by decide +kernel
theorem dX11_setTag_2 : decode cX11_setTag 2 = .ok (.invokestatic 103, 3) := by decide +kernel
theorem dX11_setTag_5 : decode cX11_setTag 5 = .ok (.ifCond .eq 17, 3) := by decide +kernel
theorem dX11_setTag_8 : decode cX11_setTag 8 = .ok (.iload_n 2, 1) := by decide +kernel
theorem dX11_setTag_9 : decode cX11_setTag 9 = .ok (.iconst 0, 1) := by decide +kernel
theorem dX11_setTag_10 : decode cX11_setTag 10 = .ok (.bipush 7, 2) := by decide +kernel
theorem dX11_setTag_12 : decode cX11_setTag 12 = .ok (.invokestatic 99, 3) := by decide +kernel
theorem dX11_setTag_15 : decode cX11_setTag 15 = .ok (.ifCond .eq 7, 3) := by decide +kernel
theorem dX11_setTag_18 : decode cX11_setTag 18 = .ok (.iconst 0, 1) := by decide +kernel
theorem dX11_setTag_19 : decode cX11_setTag 19 = .ok (.goto 4, 3) := by decide +kernel
theorem dX11_setTag_22 : decode cX11_setTag 22 = .ok (.iconst 1, 1) := by decide +kernel
theorem dX11_setTag_23 : decode cX11_setTag 23 = .ok (.invokevirtual 107, 3) := by decide +kernel
theorem dX11_setTag_26 : decode cX11_setTag 26 = .ok (.ifCond .ne 5, 3) := by decide +kernel
theorem dX11_setTag_29 : decode cX11_setTag 29 = .ok (.iconst 0, 1) := by decide +kernel
theorem dX11_setTag_30 : decode cX11_setTag 30 = .ok (.ireturn, 1) := by decide +kernel
theorem dX11_setTag_31 : decode cX11_setTag 31 = .ok (.aload_n 0, 1) := by decide +kernel
theorem dX11_setTag_32 : decode cX11_setTag 32 = .ok (.getfield 13, 3) := by decide +kernel
theorem dX11_setTag_35 : decode cX11_setTag 35 = .ok (.iload_n 1, 1) := by decide +kernel
theorem dX11_setTag_36 : decode cX11_setTag 36 = .ok (.iaload, 1) := by decide +kernel
theorem dX11_setTag_37 : decode cX11_setTag 37 = .ok (.iload_n 2, 1) := by decide +kernel
theorem dX11_setTag_38 : decode cX11_setTag 38 = .ok (.ishr, 1) := by decide +kernel
theorem dX11_setTag_39 : decode cX11_setTag 39 = .ok (.iconst 1, 1) := by decide +kernel
theorem dX11_setTag_40 : decode cX11_setTag 40 = .ok (.iand, 1) := by decide +kernel
theorem dX11_setTag_41 : decode cX11_setTag 41 = .ok (.iconst 1, 1) := by decide +kernel
theorem dX11_setTag_42 : decode cX11_setTag 42 = .ok (.if_icmp .ne 7, 3) := by decide +kernel
theorem dX11_setTag_45 : decode cX11_setTag 45 = .ok (.iconst 1, 1) := by decide +kernel
theorem dX11_setTag_46 : decode cX11_setTag 46 = .ok (.goto 4, 3) := by decide +kernel
theorem dX11_setTag_49 : decode cX11_setTag 49 = .ok (.iconst 0, 1) := by decide +kernel
theorem dX11_setTag_50 : decode cX11_setTag 50 = .ok (.istore 4, 2) := by decide +kernel
theorem dX11_setTag_52 : decode cX11_setTag 52 = .ok (.aload_n 0, 1) := by decide +kernel
theorem dX11_setTag_53 : decode cX11_setTag 53 = .ok (.getfield 13, 3) := by decide +kernel
theorem dX11_setTag_56 : decode cX11_setTag 56 = .ok (.iload_n 1, 1) := by decide +kernel
theorem dX11_setTag_57 : decode cX11_setTag 57 = .ok (.iload_n 3, 1) := by decide +kernel
theorem dX11_setTag_58 : decode cX11_setTag 58 = .ok (.ifCond .eq 16, 3) := by decide +kernel
theorem dX11_setTag_61 : decode cX11_setTag 61 = .ok (.aload_n 0, 1) := by decide +kernel
theorem dX11_setTag_62 : decode cX11_setTag 62 = .ok (.getfield 13, 3) := by decide +kernel
theorem dX11_setTag_65 : decode cX11_setTag 65 = .ok (.iload_n 1, 1) := by decide +kernel
theorem dX11_setTag_66 : decode cX11_setTag 66 = .ok (.iaload, 1) := by decide +kernel
theorem dX11_setTag_67 : decode cX11_setTag 67 = .ok (.iconst 1, 1) := by decide +kernel
theorem dX11_setTag_68 : decode cX11_setTag 68 = .ok (.iload_n 2, 1) := by decide +kernel
theorem dX11_setTag_69 : decode cX11_setTag 69 = .ok (.ishl, 1) := by decide +kernel
theorem dX11_setTag_70 : decode cX11_setTag 70 = .ok (.ior, 1) := by decide +kernel
theorem dX11_setTag_71 : decode cX11_setTag 71 = .ok (.goto 15, 3) := by decide +kernel
theorem dX11_setTag_74 : decode cX11_setTag 74 = .ok (.aload_n 0, 1) := by decide +kernel
theorem dX11_setTag_75 : decode cX11_setTag 75 = .ok (.getfield 13, 3) := by decide +kernel
theorem dX11_setTag_78 : decode cX11_setTag 78 = .ok (.iload_n 1, 1) := by decide +kernel
theorem dX11_setTag_79 : decode cX11_setTag 79 = .ok (.iaload, 1) := by decide +kernel
theorem dX11_setTag_80 : decode cX11_setTag 80 = .ok (.iconst 1, 1) := by decide +kernel
theorem dX11_setTag_81 : decode cX11_setTag 81 = .ok (.iload_n 2, 1) := by decide +kernel
theorem dX11_setTag_82 : decode cX11_setTag 82 = .ok (.ishl, 1) := by decide +kernel
theorem dX11_setTag_83 : decode cX11_setTag 83 = .ok (.iconst (-1), 1) := by decide +kernel
theorem dX11_setTag_84 : decode cX11_setTag 84 = .ok (.ixor, 1) := by decide +kernel
theorem dX11_setTag_85 : decode cX11_setTag 85 = .ok (.iand, 1) := by decide +kernel
theorem dX11_setTag_86 : decode cX11_setTag 86 = .ok (.iastore, 1) := by decide +kernel
theorem dX11_setTag_87 : decode cX11_setTag 87 = .ok (.iload 4, 2) := by decide +kernel
theorem dX11_setTag_89 : decode cX11_setTag 89 = .ok (.ireturn, 1) := by decide +kernel
theorem dX11_type_0 : decode cX11_type 0 = .ok (.iload_n 1, 1) := by decide +kernel
theorem dX11_type_1 : decode cX11_type 1 = .ok (.invokestatic 110, 3) := by decide +kernel
theorem dX11_type_4 : decode cX11_type 4 = .ok (.ifCond .eq 18, 3) := by decide +kernel
theorem dX11_type_7 : decode cX11_type 7 = .ok (.iload_n 2, 1) := by decide +kernel
theorem dX11_type_8 : decode cX11_type 8 = .ok (.bipush 33, 2) := by decide +kernel
theorem dX11_type_10 : decode cX11_type 10 = .ok (.bipush 126, 2) := by decide +kernel
theorem dX11_type_12 : decode cX11_type 12 = .ok (.invokestatic 99, 3) := by decide +kernel
theorem dX11_type_15 : decode cX11_type 15 = .ok (.ifCond .eq 7, 3) := by decide +kernel
theorem dX11_type_18 : decode cX11_type 18 = .ok (.iconst 1, 1) := by decide +kernel
theorem dX11_type_19 : decode cX11_type 19 = .ok (.goto 4, 3) := by decide +kernel
theorem dX11_type_22 : decode cX11_type 22 = .ok (.iconst 0, 1) := by decide +kernel
theorem dX11_type_23 : decode cX11_type 23 = .ok (.istore_n 3, 1) := by decide +kernel
theorem dX11_type_24 : decode cX11_type 24 = .ok (.aload_n 0, 1) := by decide +kernel
theorem dX11_type_25 : decode cX11_type 25 = .ok (.iload_n 3, 1) := by decide +kernel
theorem dX11_type_26 : decode cX11_type 26 = .ok (.ifCond .ne 7, 3) := by decide +kernel
theorem dX11_type_29 : decode cX11_type 29 = .ok (.iconst 1, 1) := by decide +kernel
theorem dX11_type_30 : decode cX11_type 30 = .ok (.goto 19, 3) := by decide +kernel
theorem dX11_type_33 : decode cX11_type 33 = .ok (.aload_n 0, 1) := by decide +kernel
theorem dX11_type_34 : decode cX11_type 34 = .ok (.getfield 19, 3) := by decide +kernel
theorem dX11_type_37 : decode cX11_type 37 = .ok (.iload_n 1, 1) := by decide +kernel
theorem dX11_type_38 : decode cX11_type 38 = .ok (.iaload, 1) := by decide +kernel
theorem dX11_type_39 : decode cX11_type 39 = .ok (.bipush 60, 2) := by decide +kernel
theorem dX11_type_41 : decode cX11_type 41 = .ok (.if_icmp .ne 7, 3) := by decide +kernel
theorem dX11_type_44 : decode cX11_type 44 = .ok (.iconst 2, 1) := by decide +kernel
theorem dX11_type_45 : decode cX11_type 45 = .ok (.goto 4, 3) := by decide +kernel
theorem dX11_type_48 : decode cX11_type 48 = .ok (.iconst 0, 1) := by decide +kernel
theorem dX11_type_49 : decode cX11_type 49 = .ok (.invokevirtual 107, 3) := by decide +kernel
theorem dX11_type_52 : decode cX11_type 52 = .ok (.ifCond .ne 5, 3) := by decide +kernel
theorem dX11_type_55 : decode cX11_type 55 = .ok (.iconst 0, 1) := by decide +kernel
theorem dX11_type_56 : decode cX11_type 56 = .ok (.ireturn, 1) := by decide +kernel
theorem dX11_type_57 : decode cX11_type 57 = .ok (.aload_n 0, 1) := by decide +kernel
theorem dX11_type_58 : decode cX11_type 58 = .ok (.getfield 16, 3) := by decide +kernel
theorem dX11_type_61 : decode cX11_type 61 = .ok (.bipush 60, 2) := by decide +kernel
theorem dX11_type_63 : decode cX11_type 63 = .ok (.iload_n 1, 1) := by decide +kernel
theorem dX11_type_64 : decode cX11_type 64 = .ok (.imul, 1) := by decide +kernel
theorem dX11_type_65 : decode cX11_type 65 = .ok (.aload_n 0, 1) := by decide +kernel
theorem dX11_type_66 : decode cX11_type 66 = .ok (.getfield 19, 3) := by decide +kernel
theorem dX11_type_69 : decode cX11_type 69 = .ok (.iload_n 1, 1) := by decide +kernel
theorem dX11_type_70 : decode cX11_type 70 = .ok (.iaload, 1) := by decide +kernel
theorem dX11_type_71 : decode cX11_type 71 = .ok (.iadd, 1) := by decide +kernel
theorem dX11_type_72 : decode cX11_type 72 = .ok (.iload_n 2, 1) := by decide +kernel
theorem dX11_type_73 : decode cX11_type 73 = .ok (.iastore, 1) := by decide +kernel
theorem dX11_type_74 : decode cX11_type 74 = .ok (.aload_n 0, 1) := by decide +kernel
theorem dX11_type_75 : decode cX11_type 75 = .ok (.getfield 19, 3) := by decide +kernel
theorem dX11_type_78 : decode cX11_type 78 = .ok (.iload_n 1, 1) := by decide +kernel
theorem dX11_type_79 : decode cX11_type 79 = .ok (.dup2, 1) := by decide +kernel
theorem dX11_type_80 : decode cX11_type 80 = .ok (.iaload, 1) := by decide +kernel
theorem dX11_type_81 : decode cX11_type 81 = .ok (.iconst 1, 1) := by decide +kernel
theorem dX11_type_82 : decode cX11_type 82 = .ok (.iadd, 1) := by decide +kernel
theorem dX11_type_83 : decode cX11_type 83 = .ok (.iastore, 1) := by decide +kernel
theorem dX11_type_84 : decode cX11_type 84 = .ok (.aload_n 0, 1) := by decide +kernel
theorem dX11_type_85 : decode cX11_type 85 = .ok (.getfield 19, 3) := by decide +kernel
theorem dX11_type_88 : decode cX11_type 88 = .ok (.iload_n 1, 1) := by decide +kernel
theorem dX11_type_89 : decode cX11_type 89 = .ok (.iaload, 1) := by decide +kernel
theorem dX11_type_90 : decode cX11_type 90 = .ok (.ireturn, 1) := by decide +kernel
theorem dX11_erase_0 : decode cX11_erase 0 = .ok (.aload_n 0, 1) := by decide +kernel
theorem dX11_erase_1 : decode cX11_erase 1 = .ok (.iload_n 1, 1) := by decide +kernel
theorem dX11_erase_2 : decode cX11_erase 2 = .ok (.invokestatic 110, 3) := by decide +kernel
theorem dX11_erase_5 : decode cX11_erase 5 = .ok (.ifCond .eq 12, 3) := by decide +kernel
theorem dX11_erase_8 : decode cX11_erase 8 = .ok (.iload_n 2, 1) := by decide +kernel
theorem dX11_erase_9 : decode cX11_erase 9 = .ok (.iconst 1, 1) := by decide +kernel
theorem dX11_erase_10 : decode cX11_erase 10 = .ok (.if_icmp .lt 7, 3) := by decide +kernel
theorem dX11_erase_13 : decode cX11_erase 13 = .ok (.iconst 0, 1) := by decide +kernel
theorem dX11_erase_14 : decode cX11_erase 14 = .ok (.goto 4, 3) := by decide +kernel
theorem dX11_erase_17 : decode cX11_erase 17 = .ok (.iconst 1, 1) := by decide +kernel
theorem dX11_erase_18 : decode cX11_erase 18 = .ok (.invokevirtual 107, 3) := by decide +kernel
theorem dX11_erase_21 : decode cX11_erase 21 = .ok (.ifCond .ne 5, 3) := by decide +kernel
theorem dX11_erase_24 : decode cX11_erase 24 = .ok (.iconst 0, 1) := by decide +kernel
theorem dX11_erase_25 : decode cX11_erase 25 = .ok (.ireturn, 1) := by decide +kernel
theorem dX11_erase_26 : decode cX11_erase 26 = .ok (.aload_n 0, 1) := by decide +kernel
theorem dX11_erase_27 : decode cX11_erase 27 = .ok (.getfield 19, 3) := by decide +kernel
theorem dX11_erase_30 : decode cX11_erase 30 = .ok (.iload_n 1, 1) := by decide +kernel
theorem dX11_erase_31 : decode cX11_erase 31 = .ok (.iload_n 2, 1) := by decide +kernel
theorem dX11_erase_32 : decode cX11_erase 32 = .ok (.aload_n 0, 1) := by decide +kernel
theorem dX11_erase_33 : decode cX11_erase 33 = .ok (.getfield 19, 3) := by decide +kernel
theorem dX11_erase_36 : decode cX11_erase 36 = .ok (.iload_n 1, 1) := by decide +kernel
theorem dX11_erase_37 : decode cX11_erase 37 = .ok (.iaload, 1) := by decide +kernel
theorem dX11_erase_38 : decode cX11_erase 38 = .ok (.if_icmp .ge 14, 3) := by decide +kernel
theorem dX11_erase_41 : decode cX11_erase 41 = .ok (.aload_n 0, 1) := by decide +kernel
theorem dX11_erase_42 : decode cX11_erase 42 = .ok (.getfield 19, 3) := by decide +kernel
theorem dX11_erase_45 : decode cX11_erase 45 = .ok (.iload_n 1, 1) := by decide +kernel
theorem dX11_erase_46 : decode cX11_erase 46 = .ok (.iaload, 1) := by decide +kernel
theorem dX11_erase_47 : decode cX11_erase 47 = .ok (.iload_n 2, 1) := by decide +kernel
theorem dX11_erase_48 : decode cX11_erase 48 = .ok (.isub, 1) := by decide +kernel
theorem dX11_erase_49 : decode cX11_erase 49 = .ok (.goto 4, 3) := by decide +kernel
theorem dX11_erase_52 : decode cX11_erase 52 = .ok (.iconst 0, 1) := by decide +kernel
theorem dX11_erase_53 : decode cX11_erase 53 = .ok (.iastore, 1) := by decide +kernel
theorem dX11_erase_54 : decode cX11_erase 54 = .ok (.aload_n 0, 1) := by decide +kernel
theorem dX11_erase_55 : decode cX11_erase 55 = .ok (.getfield 19, 3) := by decide +kernel
theorem dX11_erase_58 : decode cX11_erase 58 = .ok (.iload_n 1, 1) := by decide +kernel
theorem dX11_erase_59 : decode cX11_erase 59 = .ok (.iaload, 1) := by decide +kernel
theorem dX11_erase_60 : decode cX11_erase 60 = .ok (.ireturn, 1) := by decide +kernel
theorem dX11_sign_0 : decode cX11_sign 0 = .ok (.iload_n 1, 1) := by decide +kernel
theorem dX11_sign_1 : decode cX11_sign 1 = .ok (.invokestatic 110, 3) := by decide +kernel
theorem dX11_sign_4 : decode cX11_sign 4 = .ok (.istore_n 3, 1) := by decide +kernel
theorem dX11_sign_5 : decode cX11_sign 5 = .ok (.aload_n 0, 1) := by decide +kernel
theorem dX11_sign_6 : decode cX11_sign 6 = .ok (.iload_n 3, 1) := by decide +kernel
theorem dX11_sign_7 : decode cX11_sign 7 = .ok (.ifCond .ne 7, 3) := by decide +kernel
theorem dX11_sign_10 : decode cX11_sign 10 = .ok (.iconst 1, 1) := by decide +kernel
theorem dX11_sign_11 : decode cX11_sign 11 = .ok (.goto 24, 3) := by decide +kernel
theorem dX11_sign_14 : decode cX11_sign 14 = .ok (.iload_n 2, 1) := by decide +kernel
theorem dX11_sign_15 : decode cX11_sign 15 = .ok (.iconst 0, 1) := by decide +kernel
theorem dX11_sign_16 : decode cX11_sign 16 = .ok (.aload_n 0, 1) := by decide +kernel
theorem dX11_sign_17 : decode cX11_sign 17 = .ok (.getfield 19, 3) := by decide +kernel
theorem dX11_sign_20 : decode cX11_sign 20 = .ok (.iload_n 1, 1) := by decide +kernel
theorem dX11_sign_21 : decode cX11_sign 21 = .ok (.iaload, 1) := by decide +kernel
theorem dX11_sign_22 : decode cX11_sign 22 = .ok (.iconst 1, 1) := by decide +kernel
theorem dX11_sign_23 : decode cX11_sign 23 = .ok (.isub, 1) := by decide +kernel
theorem dX11_sign_24 : decode cX11_sign 24 = .ok (.invokestatic 99, 3) := by decide +kernel
theorem dX11_sign_27 : decode cX11_sign 27 = .ok (.ifCond .eq 7, 3) := by decide +kernel
theorem dX11_sign_30 : decode cX11_sign 30 = .ok (.iconst 0, 1) := by decide +kernel
theorem dX11_sign_31 : decode cX11_sign 31 = .ok (.goto 4, 3) := by decide +kernel
theorem dX11_sign_34 : decode cX11_sign 34 = .ok (.iconst 2, 1) := by decide +kernel
theorem dX11_sign_35 : decode cX11_sign 35 = .ok (.invokevirtual 107, 3) := by decide +kernel
theorem dX11_sign_38 : decode cX11_sign 38 = .ok (.ifCond .ne 5, 3) := by decide +kernel
theorem dX11_sign_41 : decode cX11_sign 41 = .ok (.iconst 0, 1) := by decide +kernel
theorem dX11_sign_42 : decode cX11_sign 42 = .ok (.ireturn, 1) := by decide +kernel
theorem dX11_sign_43 : decode cX11_sign 43 = .ok (.aload_n 0, 1) := by decide +kernel
theorem dX11_sign_44 : decode cX11_sign 44 = .ok (.getfield 16, 3) := by decide +kernel
theorem dX11_sign_47 : decode cX11_sign 47 = .ok (.bipush 60, 2) := by decide +kernel
theorem dX11_sign_49 : decode cX11_sign 49 = .ok (.iload_n 1, 1) := by decide +kernel
theorem dX11_sign_50 : decode cX11_sign 50 = .ok (.imul, 1) := by decide +kernel
theorem dX11_sign_51 : decode cX11_sign 51 = .ok (.iload_n 2, 1) := by decide +kernel
theorem dX11_sign_52 : decode cX11_sign 52 = .ok (.iadd, 1) := by decide +kernel
theorem dX11_sign_53 : decode cX11_sign 53 = .ok (.iaload, 1) := by decide +kernel
theorem dX11_sign_54 : decode cX11_sign 54 = .ok (.ireturn, 1) := by decide +kernel
theorem dX11_isDigit_0 : decode cX11_isDigit 0 = .ok (.iload_n 0, 1) := by decide +kernel
theorem dX11_isDigit_1 : decode cX11_isDigit 1 = .ok (.bipush 48, 2) := by decide +kernel
theorem dX11_isDigit_3 : decode cX11_isDigit 3 = .ok (.bipush 57, 2) := by decide +kernel
theorem dX11_isDigit_5 : decode cX11_isDigit 5 = .ok (.invokestatic 99, 3) := by decide +kernel
theorem dX11_isDigit_8 : decode cX11_isDigit 8 = .ok (.ireturn, 1) := by decide +kernel
theorem dX11_behind_0 : decode cX11_behind 0 = .ok (.iload_n 1, 1) := by decide +kernel
theorem dX11_behind_1 : decode cX11_behind 1 = .ok (.ifCond .ne 102, 3) := by decide +kernel
theorem dX11_behind_4 : decode cX11_behind 4 = .ok (.iload_n 0, 1) := by decide +kernel
theorem dX11_behind_5 : decode cX11_behind 5 = .ok (.bipush 33, 2) := by decide +kernel
theorem dX11_behind_7 : decode cX11_behind 7 = .ok (.if_icmp .eq 15, 3) := by decide +kernel
theorem dX11_behind_10 : decode cX11_behind 10 = .ok (.iload_n 0, 1) := by decide +kernel
theorem dX11_behind_11 : decode cX11_behind 11 = .ok (.bipush 40, 2) := by decide +kernel
theorem dX11_behind_13 : decode cX11_behind 13 = .ok (.if_icmp .ne 13, 3) := by decide +kernel
theorem dX11_behind_16 : decode cX11_behind 16 = .ok (.iload_n 2, 1) := by decide +kernel
theorem dX11_behind_17 : decode cX11_behind 17 = .ok (.bipush 8, 2) := by decide +kernel
theorem dX11_behind_19 : decode cX11_behind 19 = .ok (.if_icmp .ge 7, 3) := by decide +kernel
theorem dX11_behind_22 : decode cX11_behind 22 = .ok (.iconst 1, 1) := by decide +kernel
theorem dX11_behind_23 : decode cX11_behind 23 = .ok (.goto 4, 3) := by decide +kernel
theorem dX11_behind_26 : decode cX11_behind 26 = .ok (.iconst 0, 1) := by decide +kernel
theorem dX11_behind_27 : decode cX11_behind 27 = .ok (.istore_n 3, 1) := by decide +kernel
theorem dX11_behind_28 : decode cX11_behind 28 = .ok (.iload_n 0, 1) := by decide +kernel
theorem dX11_behind_29 : decode cX11_behind 29 = .ok (.bipush 108, 2) := by decide +kernel
theorem dX11_behind_31 : decode cX11_behind 31 = .ok (.if_icmp .eq 15, 3) := by decide +kernel
theorem dX11_behind_34 : decode cX11_behind 34 = .ok (.iload_n 0, 1) := by decide +kernel
theorem dX11_behind_35 : decode cX11_behind 35 = .ok (.bipush 97, 2) := by decide +kernel
theorem dX11_behind_37 : decode cX11_behind 37 = .ok (.if_icmp .eq 9, 3) := by decide +kernel
theorem dX11_behind_40 : decode cX11_behind 40 = .ok (.iload_n 0, 1) := by decide +kernel
theorem dX11_behind_41 : decode cX11_behind 41 = .ok (.bipush 112, 2) := by decide +kernel
theorem dX11_behind_43 : decode cX11_behind 43 = .ok (.if_icmp .ne 7, 3) := by decide +kernel
theorem dX11_behind_46 : decode cX11_behind 46 = .ok (.iconst 1, 1) := by decide +kernel
theorem dX11_behind_47 : decode cX11_behind 47 = .ok (.goto 4, 3) := by decide +kernel
theorem dX11_behind_50 : decode cX11_behind 50 = .ok (.iconst 0, 1) := by decide +kernel
theorem dX11_behind_51 : decode cX11_behind 51 = .ok (.istore 4, 2) := by decide +kernel
theorem dX11_behind_53 : decode cX11_behind 53 = .ok (.iload_n 3, 1) := by decide +kernel
theorem dX11_behind_54 : decode cX11_behind 54 = .ok (.ifCond .eq 7, 3) := by decide +kernel
theorem dX11_behind_57 : decode cX11_behind 57 = .ok (.iconst 0, 1) := by decide +kernel
theorem dX11_behind_58 : decode cX11_behind 58 = .ok (.goto 44, 3) := by decide +kernel
theorem dX11_behind_61 : decode cX11_behind 61 = .ok (.iload_n 0, 1) := by decide +kernel
theorem dX11_behind_62 : decode cX11_behind 62 = .ok (.bipush 42, 2) := by decide +kernel
theorem dX11_behind_64 : decode cX11_behind 64 = .ok (.if_icmp .ne 8, 3) := by decide +kernel
theorem dX11_behind_67 : decode cX11_behind 67 = .ok (.bipush 6, 2) := by decide +kernel
theorem dX11_behind_69 : decode cX11_behind 69 = .ok (.goto 33, 3) := by decide +kernel
theorem dX11_behind_72 : decode cX11_behind 72 = .ok (.iload 4, 2) := by decide +kernel
theorem dX11_behind_74 : decode cX11_behind 74 = .ok (.ifCond .eq 7, 3) := by decide +kernel
theorem dX11_behind_77 : decode cX11_behind 77 = .ok (.iconst 1, 1) := by decide +kernel
theorem dX11_behind_78 : decode cX11_behind 78 = .ok (.goto 24, 3) := by decide +kernel
theorem dX11_behind_81 : decode cX11_behind 81 = .ok (.iload_n 0, 1) := by decide +kernel
theorem dX11_behind_82 : decode cX11_behind 82 = .ok (.bipush 116, 2) := by decide +kernel
theorem dX11_behind_84 : decode cX11_behind 84 = .ok (.if_icmp .ne 7, 3) := by decide +kernel
theorem dX11_behind_87 : decode cX11_behind 87 = .ok (.iconst 4, 1) := by decide +kernel
theorem dX11_behind_88 : decode cX11_behind 88 = .ok (.goto 14, 3) := by decide +kernel
theorem dX11_behind_91 : decode cX11_behind 91 = .ok (.iload_n 0, 1) := by decide +kernel
theorem dX11_behind_92 : decode cX11_behind 92 = .ok (.bipush 64, 2) := by decide +kernel
theorem dX11_behind_94 : decode cX11_behind 94 = .ok (.if_icmp .ne 7, 3) := by decide +kernel
theorem dX11_behind_97 : decode cX11_behind 97 = .ok (.iconst 5, 1) := by decide +kernel
theorem dX11_behind_98 : decode cX11_behind 98 = .ok (.goto 4, 3) := by decide +kernel
theorem dX11_behind_101 : decode cX11_behind 101 = .ok (.iconst (-1), 1) := by decide +kernel
theorem dX11_behind_102 : decode cX11_behind 102 = .ok (.ireturn, 1) := by decide +kernel
theorem dX11_behind_103 : decode cX11_behind 103 = .ok (.iload_n 1, 1) := by decide +kernel
theorem dX11_behind_104 : decode cX11_behind 104 = .ok (.iconst 1, 1) := by decide +kernel
theorem dX11_behind_105 : decode cX11_behind 105 = .ok (.if_icmp .ne 27, 3) := by decide +kernel
theorem dX11_behind_108 : decode cX11_behind 108 = .ok (.iload_n 0, 1) := by decide +kernel
theorem dX11_behind_109 : decode cX11_behind 109 = .ok (.bipush 61, 2) := by decide +kernel
theorem dX11_behind_111 : decode cX11_behind 111 = .ok (.if_icmp .eq 15, 3) := by decide +kernel
theorem dX11_behind_114 : decode cX11_behind 114 = .ok (.iload_n 0, 1) := by decide +kernel
theorem dX11_behind_115 : decode cX11_behind 115 = .ok (.bipush 60, 2) := by decide +kernel
theorem dX11_behind_117 : decode cX11_behind 117 = .ok (.if_icmp .eq 9, 3) := by decide +kernel
theorem dX11_behind_120 : decode cX11_behind 120 = .ok (.iload_n 0, 1) := by decide +kernel
theorem dX11_behind_121 : decode cX11_behind 121 = .ok (.bipush 62, 2) := by decide +kernel
theorem dX11_behind_123 : decode cX11_behind 123 = .ok (.if_icmp .ne 7, 3) := by decide +kernel
theorem dX11_behind_126 : decode cX11_behind 126 = .ok (.iconst 2, 1) := by decide +kernel
theorem dX11_behind_127 : decode cX11_behind 127 = .ok (.goto 4, 3) := by decide +kernel
theorem dX11_behind_130 : decode cX11_behind 130 = .ok (.iconst (-1), 1) := by decide +kernel
theorem dX11_behind_131 : decode cX11_behind 131 = .ok (.ireturn, 1) := by decide +kernel
theorem dX11_behind_132 : decode cX11_behind 132 = .ok (.iload_n 1, 1) := by decide +kernel
theorem dX11_behind_133 : decode cX11_behind 133 = .ok (.iconst 2, 1) := by decide +kernel
theorem dX11_behind_134 : decode cX11_behind 134 = .ok (.if_icmp .ne 16, 3) := by decide +kernel
theorem dX11_behind_137 : decode cX11_behind 137 = .ok (.iload_n 0, 1) := by decide +kernel
theorem dX11_behind_138 : decode cX11_behind 138 = .ok (.invokestatic 113, 3) := by decide +kernel
theorem dX11_behind_141 : decode cX11_behind 141 = .ok (.ifCond .eq 7, 3) := by decide +kernel
theorem dX11_behind_144 : decode cX11_behind 144 = .ok (.iconst 3, 1) := by decide +kernel
theorem dX11_behind_145 : decode cX11_behind 145 = .ok (.goto 4, 3) := by decide +kernel
theorem dX11_behind_148 : decode cX11_behind 148 = .ok (.iconst (-1), 1) := by decide +kernel
theorem dX11_behind_149 : decode cX11_behind 149 = .ok (.ireturn, 1) := by decide +kernel
theorem dX11_behind_150 : decode cX11_behind 150 = .ok (.iload_n 1, 1) := by decide +kernel
theorem dX11_behind_151 : decode cX11_behind 151 = .ok (.iconst 4, 1) := by decide +kernel
theorem dX11_behind_152 : decode cX11_behind 152 = .ok (.if_icmp .eq 8, 3) := by decide +kernel
theorem dX11_behind_155 : decode cX11_behind 155 = .ok (.iload_n 1, 1) := by decide +kernel
theorem dX11_behind_156 : decode cX11_behind 156 = .ok (.iconst 5, 1) := by decide +kernel
theorem dX11_behind_157 : decode cX11_behind 157 = .ok (.if_icmp .ne 31, 3) := by decide +kernel
theorem dX11_behind_160 : decode cX11_behind 160 = .ok (.iload_n 0, 1) := by decide +kernel
theorem dX11_behind_161 : decode cX11_behind 161 = .ok (.bipush 48, 2) := by decide +kernel
theorem dX11_behind_163 : decode cX11_behind 163 = .ok (.iload_n 1, 1) := by decide +kernel
theorem dX11_behind_164 : decode cX11_behind 164 = .ok (.iconst 4, 1) := by decide +kernel
theorem dX11_behind_165 : decode cX11_behind 165 = .ok (.if_icmp .ne 8, 3) := by decide +kernel
theorem dX11_behind_168 : decode cX11_behind 168 = .ok (.bipush 55, 2) := by decide +kernel
theorem dX11_behind_170 : decode cX11_behind 170 = .ok (.goto 5, 3) := by decide +kernel
theorem dX11_behind_173 : decode cX11_behind 173 = .ok (.bipush 53, 2) := by decide +kernel
theorem dX11_behind_175 : decode cX11_behind 175 = .ok (.invokestatic 99, 3) := by decide +kernel
theorem dX11_behind_178 : decode cX11_behind 178 = .ok (.ifCond .eq 8, 3) := by decide +kernel
theorem dX11_behind_181 : decode cX11_behind 181 = .ok (.bipush 6, 2) := by decide +kernel
theorem dX11_behind_183 : decode cX11_behind 183 = .ok (.goto 4, 3) := by decide +kernel
theorem dX11_behind_186 : decode cX11_behind 186 = .ok (.iconst (-1), 1) := by decide +kernel
theorem dX11_behind_187 : decode cX11_behind 187 = .ok (.ireturn, 1) := by decide +kernel
theorem dX11_behind_188 : decode cX11_behind 188 = .ok (.iload_n 1, 1) := by decide +kernel
theorem dX11_behind_189 : decode cX11_behind 189 = .ok (.iconst 3, 1) := by decide +kernel
theorem dX11_behind_190 : decode cX11_behind 190 = .ok (.if_icmp .ne 13, 3) := by decide +kernel
theorem dX11_behind_193 : decode cX11_behind 193 = .ok (.iload_n 0, 1) := by decide +kernel
theorem dX11_behind_194 : decode cX11_behind 194 = .ok (.invokestatic 113, 3) := by decide +kernel
theorem dX11_behind_197 : decode cX11_behind 197 = .ok (.ifCond .eq 6, 3) := by decide +kernel
theorem dX11_behind_200 : decode cX11_behind 200 = .ok (.bipush 6, 2) := by decide +kernel
theorem dX11_behind_202 : decode cX11_behind 202 = .ok (.ireturn, 1) := by decide +kernel
theorem dX11_behind_203 : decode cX11_behind 203 = .ok (.iload_n 0, 1) := by decide +kernel
theorem dX11_behind_204 : decode cX11_behind 204 = .ok (.bipush 124, 2) := by decide +kernel
theorem dX11_behind_206 : decode cX11_behind 206 = .ok (.if_icmp .eq 9, 3) := by decide +kernel
theorem dX11_behind_209 : decode cX11_behind 209 = .ok (.iload_n 0, 1) := by decide +kernel
theorem dX11_behind_210 : decode cX11_behind 210 = .ok (.bipush 38, 2) := by decide +kernel
theorem dX11_behind_212 : decode cX11_behind 212 = .ok (.if_icmp .ne 7, 3) := by decide +kernel
theorem dX11_behind_215 : decode cX11_behind 215 = .ok (.iconst 0, 1) := by decide +kernel
theorem dX11_behind_216 : decode cX11_behind 216 = .ok (.goto 19, 3) := by decide +kernel
theorem dX11_behind_219 : decode cX11_behind 219 = .ok (.iload_n 0, 1) := by decide +kernel
theorem dX11_behind_220 : decode cX11_behind 220 = .ok (.bipush 41, 2) := by decide +kernel
theorem dX11_behind_222 : decode cX11_behind 222 = .ok (.if_icmp .ne 12, 3) := by decide +kernel
theorem dX11_behind_225 : decode cX11_behind 225 = .ok (.iload_n 2, 1) := by decide +kernel
theorem dX11_behind_226 : decode cX11_behind 226 = .ok (.ifCond .le 8, 3) := by decide +kernel
theorem dX11_behind_229 : decode cX11_behind 229 = .ok (.bipush 6, 2) := by decide +kernel
theorem dX11_behind_231 : decode cX11_behind 231 = .ok (.goto 4, 3) := by decide +kernel
theorem dX11_behind_234 : decode cX11_behind 234 = .ok (.iconst (-1), 1) := by decide +kernel
theorem dX11_behind_235 : decode cX11_behind 235 = .ok (.ireturn, 1) := by decide +kernel
theorem dX11_faultOf_0 : decode cX11_faultOf 0 = .ok (.iconst 0, 1) := by decide +kernel
theorem dX11_faultOf_1 : decode cX11_faultOf 1 = .ok (.istore_n 2, 1) := by decide +kernel
theorem dX11_faultOf_2 : decode cX11_faultOf 2 = .ok (.iconst 0, 1) := by decide +kernel
theorem dX11_faultOf_3 : decode cX11_faultOf 3 = .ok (.istore_n 3, 1) := by decide +kernel
theorem dX11_faultOf_4 : decode cX11_faultOf 4 = .ok (.iconst 0, 1) := by decide +kernel
theorem dX11_faultOf_5 : decode cX11_faultOf 5 = .ok (.istore 4, 2) := by decide +kernel
theorem dX11_faultOf_7 : decode cX11_faultOf 7 = .ok (.iload 4, 2) := by decide +kernel
theorem dX11_faultOf_9 : decode cX11_faultOf 9 = .ok (.aload_n 0, 1) := by decide +kernel
theorem dX11_faultOf_10 : decode cX11_faultOf 10 = .ok (.getfield 19, 3) := by decide +kernel
theorem dX11_faultOf_13 : decode cX11_faultOf 13 = .ok (.iload_n 1, 1) := by decide +kernel
theorem dX11_faultOf_14 : decode cX11_faultOf 14 = .ok (.iaload, 1) := by decide +kernel
theorem dX11_faultOf_15 : decode cX11_faultOf 15 = .ok (.if_icmp .ge 70, 3) := by decide +kernel
theorem dX11_faultOf_18 : decode cX11_faultOf 18 = .ok (.aload_n 0, 1) := by decide +kernel
theorem dX11_faultOf_19 : decode cX11_faultOf 19 = .ok (.getfield 16, 3) := by decide +kernel
theorem dX11_faultOf_22 : decode cX11_faultOf 22 = .ok (.bipush 60, 2) := by decide +kernel
theorem dX11_faultOf_24 : decode cX11_faultOf 24 = .ok (.iload_n 1, 1) := by decide +kernel
theorem dX11_faultOf_25 : decode cX11_faultOf 25 = .ok (.imul, 1) := by decide +kernel
theorem dX11_faultOf_26 : decode cX11_faultOf 26 = .ok (.iload 4, 2) := by decide +kernel
theorem dX11_faultOf_28 : decode cX11_faultOf 28 = .ok (.iadd, 1) := by decide +kernel
theorem dX11_faultOf_29 : decode cX11_faultOf 29 = .ok (.iaload, 1) := by decide +kernel
theorem dX11_faultOf_30 : decode cX11_faultOf 30 = .ok (.istore 5, 2) := by decide +kernel
theorem dX11_faultOf_32 : decode cX11_faultOf 32 = .ok (.iload 5, 2) := by decide +kernel
theorem dX11_faultOf_34 : decode cX11_faultOf 34 = .ok (.iload_n 2, 1) := by decide +kernel
theorem dX11_faultOf_35 : decode cX11_faultOf 35 = .ok (.iload_n 3, 1) := by decide +kernel
theorem dX11_faultOf_36 : decode cX11_faultOf 36 = .ok (.invokestatic 116, 3) := by decide +kernel
theorem dX11_faultOf_39 : decode cX11_faultOf 39 = .ok (.istore 6, 2) := by decide +kernel
theorem dX11_faultOf_41 : decode cX11_faultOf 41 = .ok (.iload 6, 2) := by decide +kernel
theorem dX11_faultOf_43 : decode cX11_faultOf 43 = .ok (.iconst (-1), 1) := by decide +kernel
theorem dX11_faultOf_44 : decode cX11_faultOf 44 = .ok (.if_icmp .ne 6, 3) := by decide +kernel
theorem dX11_faultOf_47 : decode cX11_faultOf 47 = .ok (.iload 4, 2) := by decide +kernel
theorem dX11_faultOf_49 : decode cX11_faultOf 49 = .ok (.ireturn, 1) := by decide +kernel
theorem dX11_faultOf_50 : decode cX11_faultOf 50 = .ok (.iload_n 3, 1) := by decide +kernel
theorem dX11_faultOf_51 : decode cX11_faultOf 51 = .ok (.iload 5, 2) := by decide +kernel
theorem dX11_faultOf_53 : decode cX11_faultOf 53 = .ok (.bipush 40, 2) := by decide +kernel
theorem dX11_faultOf_55 : decode cX11_faultOf 55 = .ok (.if_icmp .ne 7, 3) := by decide +kernel
theorem dX11_faultOf_58 : decode cX11_faultOf 58 = .ok (.iconst 1, 1) := by decide +kernel
theorem dX11_faultOf_59 : decode cX11_faultOf 59 = .ok (.goto 15, 3) := by decide +kernel
theorem dX11_faultOf_62 : decode cX11_faultOf 62 = .ok (.iload 5, 2) := by decide +kernel
theorem dX11_faultOf_64 : decode cX11_faultOf 64 = .ok (.bipush 41, 2) := by decide +kernel
theorem dX11_faultOf_66 : decode cX11_faultOf 66 = .ok (.if_icmp .ne 7, 3) := by decide +kernel
theorem dX11_faultOf_69 : decode cX11_faultOf 69 = .ok (.iconst (-1), 1) := by decide +kernel
theorem dX11_faultOf_70 : decode cX11_faultOf 70 = .ok (.goto 4, 3) := by decide +kernel
theorem dX11_faultOf_73 : decode cX11_faultOf 73 = .ok (.iconst 0, 1) := by decide +kernel
theorem dX11_faultOf_74 : decode cX11_faultOf 74 = .ok (.iadd, 1) := by decide +kernel
theorem dX11_faultOf_75 : decode cX11_faultOf 75 = .ok (.istore_n 3, 1) := by decide +kernel
theorem dX11_faultOf_76 : decode cX11_faultOf 76 = .ok (.iload 6, 2) := by decide +kernel
theorem dX11_faultOf_78 : decode cX11_faultOf 78 = .ok (.istore_n 2, 1) := by decide +kernel
theorem dX11_faultOf_79 : decode cX11_faultOf 79 = .ok (.iinc 4 1, 3) := by decide +kernel
theorem dX11_faultOf_82 : decode cX11_faultOf 82 = .ok (.goto (-75), 3) := by decide +kernel
theorem dX11_faultOf_85 : decode cX11_faultOf 85 = .ok (.iload_n 3, 1) := by decide +kernel
theorem dX11_faultOf_86 : decode cX11_faultOf 86 = .ok (.ifCond .ne 18, 3) := by decide +kernel
theorem dX11_faultOf_89 : decode cX11_faultOf 89 = .ok (.iload_n 2, 1) := by decide +kernel
theorem dX11_faultOf_90 : decode cX11_faultOf 90 = .ok (.iconst 3, 1) := by decide +kernel
theorem dX11_faultOf_91 : decode cX11_faultOf 91 = .ok (.if_icmp .eq 9, 3) := by decide +kernel
theorem dX11_faultOf_94 : decode cX11_faultOf 94 = .ok (.iload_n 2, 1) := by decide +kernel
theorem dX11_faultOf_95 : decode cX11_faultOf 95 = .ok (.bipush 6, 2) := by decide +kernel
theorem dX11_faultOf_97 : decode cX11_faultOf 97 = .ok (.if_icmp .ne 7, 3) := by decide +kernel
theorem dX11_faultOf_100 : decode cX11_faultOf 100 = .ok (.iconst (-1), 1) := by decide +kernel
theorem dX11_faultOf_101 : decode cX11_faultOf 101 = .ok (.goto 9, 3) := by decide +kernel
theorem dX11_faultOf_104 : decode cX11_faultOf 104 = .ok (.aload_n 0, 1) := by decide +kernel
theorem dX11_faultOf_105 : decode cX11_faultOf 105 = .ok (.getfield 19, 3) := by decide +kernel
theorem dX11_faultOf_108 : decode cX11_faultOf 108 = .ok (.iload_n 1, 1) := by decide +kernel
theorem dX11_faultOf_109 : decode cX11_faultOf 109 = .ok (.iaload, 1) := by decide +kernel
theorem dX11_faultOf_110 : decode cX11_faultOf 110 = .ok (.ireturn, 1) := by decide +kernel
theorem dX11_fault_0 : decode cX11_fault 0 = .ok (.aload_n 0, 1) := by decide +kernel
theorem dX11_fault_1 : decode cX11_fault 1 = .ok (.iload_n 1, 1) := by decide +kernel
theorem dX11_fault_2 : decode cX11_fault 2 = .ok (.invokestatic 110, 3) := by decide +kernel
theorem dX11_fault_5 : decode cX11_fault 5 = .ok (.ifCond .eq 7, 3) := by decide +kernel
theorem dX11_fault_8 : decode cX11_fault 8 = .ok (.iconst 0, 1) := by decide +kernel
theorem dX11_fault_9 : decode cX11_fault 9 = .ok (.goto 4, 3) := by decide +kernel
theorem dX11_fault_12 : decode cX11_fault 12 = .ok (.iconst 1, 1) := by decide +kernel
theorem dX11_fault_13 : decode cX11_fault 13 = .ok (.invokevirtual 107, 3) := by decide +kernel
theorem dX11_fault_16 : decode cX11_fault 16 = .ok (.ifCond .eq 11, 3) := by decide +kernel
theorem dX11_fault_19 : decode cX11_fault 19 = .ok (.aload_n 0, 1) := by decide +kernel
theorem dX11_fault_20 : decode cX11_fault 20 = .ok (.iload_n 1, 1) := by decide +kernel
theorem dX11_fault_21 : decode cX11_fault 21 = .ok (.invokevirtual 120, 3) := by decide +kernel
theorem dX11_fault_24 : decode cX11_fault 24 = .ok (.goto 4, 3) := by decide +kernel
theorem dX11_fault_27 : decode cX11_fault 27 = .ok (.iconst 0, 1) := by decide +kernel
theorem dX11_fault_28 : decode cX11_fault 28 = .ok (.ireturn, 1) := by decide +kernel
theorem dX11_signOf_0 : decode cX11_signOf 0 = .ok (.iload_n 2, 1) := by decide +kernel
theorem dX11_signOf_1 : decode cX11_signOf 1 = .ok (.aload_n 0, 1) := by decide +kernel
theorem dX11_signOf_2 : decode cX11_signOf 2 = .ok (.getfield 25, 3) := by decide +kernel
theorem dX11_signOf_5 : decode cX11_signOf 5 = .ok (.iload_n 1, 1) := by decide +kernel
theorem dX11_signOf_6 : decode cX11_signOf 6 = .ok (.iaload, 1) := by decide +kernel
theorem dX11_signOf_7 : decode cX11_signOf 7 = .ok (.if_icmp .ge 17, 3) := by decide +kernel
theorem dX11_signOf_10 : decode cX11_signOf 10 = .ok (.aload_n 0, 1) := by decide +kernel
theorem dX11_signOf_11 : decode cX11_signOf 11 = .ok (.getfield 22, 3) := by decide +kernel
theorem dX11_signOf_14 : decode cX11_signOf 14 = .ok (.bipush 60, 2) := by decide +kernel
theorem dX11_signOf_16 : decode cX11_signOf 16 = .ok (.iload_n 1, 1) := by decide +kernel
theorem dX11_signOf_17 : decode cX11_signOf 17 = .ok (.imul, 1) := by decide +kernel
theorem dX11_signOf_18 : decode cX11_signOf 18 = .ok (.iload_n 2, 1) := by decide +kernel
theorem dX11_signOf_19 : decode cX11_signOf 19 = .ok (.iadd, 1) := by decide +kernel
theorem dX11_signOf_20 : decode cX11_signOf 20 = .ok (.iaload, 1) := by decide +kernel
theorem dX11_signOf_21 : decode cX11_signOf 21 = .ok (.goto 4, 3) := by decide +kernel
theorem dX11_signOf_24 : decode cX11_signOf 24 = .ok (.iconst 0, 1) := by decide +kernel
theorem dX11_signOf_25 : decode cX11_signOf 25 = .ok (.ireturn, 1) := by decide +kernel
theorem dX11_numberAt_0 : decode cX11_numberAt 0 = .ok (.aload_n 0, 1) := by decide +kernel
theorem dX11_numberAt_1 : decode cX11_numberAt 1 = .ok (.iload_n 1, 1) := by decide +kernel
theorem dX11_numberAt_2 : decode cX11_numberAt 2 = .ok (.iload_n 2, 1) := by decide +kernel
theorem dX11_numberAt_3 : decode cX11_numberAt 3 = .ok (.invokevirtual 124, 3) := by decide +kernel
theorem dX11_numberAt_6 : decode cX11_numberAt 6 = .ok (.bipush 48, 2) := by decide +kernel
theorem dX11_numberAt_8 : decode cX11_numberAt 8 = .ok (.isub, 1) := by decide +kernel
theorem dX11_numberAt_9 : decode cX11_numberAt 9 = .ok (.istore_n 3, 1) := by decide +kernel
theorem dX11_numberAt_10 : decode cX11_numberAt 10 = .ok (.aload_n 0, 1) := by decide +kernel
theorem dX11_numberAt_11 : decode cX11_numberAt 11 = .ok (.iload_n 1, 1) := by decide +kernel
theorem dX11_numberAt_12 : decode cX11_numberAt 12 = .ok (.iload_n 2, 1) := by decide +kernel
theorem dX11_numberAt_13 : decode cX11_numberAt 13 = .ok (.iconst 1, 1) := by decide +kernel
theorem dX11_numberAt_14 : decode cX11_numberAt 14 = .ok (.iadd, 1) := by decide +kernel
theorem dX11_numberAt_15 : decode cX11_numberAt 15 = .ok (.invokevirtual 124, 3) := by decide +kernel
theorem dX11_numberAt_18 : decode cX11_numberAt 18 = .ok (.istore 4, 2) := by decide +kernel
theorem dX11_numberAt_20 : decode cX11_numberAt 20 = .ok (.iload 4, 2) := by decide +kernel
theorem dX11_numberAt_22 : decode cX11_numberAt 22 = .ok (.invokestatic 113, 3) := by decide +kernel
theorem dX11_numberAt_25 : decode cX11_numberAt 25 = .ok (.ifCond .eq 16, 3) := by decide +kernel
theorem dX11_numberAt_28 : decode cX11_numberAt 28 = .ok (.bipush 10, 2) := by decide +kernel
theorem dX11_numberAt_30 : decode cX11_numberAt 30 = .ok (.iload_n 3, 1) := by decide +kernel
theorem dX11_numberAt_31 : decode cX11_numberAt 31 = .ok (.imul, 1) := by decide +kernel
theorem dX11_numberAt_32 : decode cX11_numberAt 32 = .ok (.iload 4, 2) := by decide +kernel
theorem dX11_numberAt_34 : decode cX11_numberAt 34 = .ok (.iadd, 1) := by decide +kernel
theorem dX11_numberAt_35 : decode cX11_numberAt 35 = .ok (.bipush 48, 2) := by decide +kernel
theorem dX11_numberAt_37 : decode cX11_numberAt 37 = .ok (.isub, 1) := by decide +kernel
theorem dX11_numberAt_38 : decode cX11_numberAt 38 = .ok (.goto 4, 3) := by decide +kernel
theorem dX11_numberAt_41 : decode cX11_numberAt 41 = .ok (.iload_n 3, 1) := by decide +kernel
theorem dX11_numberAt_42 : decode cX11_numberAt 42 = .ok (.ireturn, 1) := by decide +kernel
theorem dX11_meetsTest_0 : decode cX11_meetsTest 0 = .ok (.aload_n 0, 1) := by decide +kernel
theorem dX11_meetsTest_1 : decode cX11_meetsTest 1 = .ok (.iload_n 1, 1) := by decide +kernel
theorem dX11_meetsTest_2 : decode cX11_meetsTest 2 = .ok (.iload_n 2, 1) := by decide +kernel
theorem dX11_meetsTest_3 : decode cX11_meetsTest 3 = .ok (.invokevirtual 124, 3) := by decide +kernel
theorem dX11_meetsTest_6 : decode cX11_meetsTest 6 = .ok (.istore 4, 2) := by decide +kernel
theorem dX11_meetsTest_8 : decode cX11_meetsTest 8 = .ok (.aload_n 0, 1) := by decide +kernel
theorem dX11_meetsTest_9 : decode cX11_meetsTest 9 = .ok (.iload_n 1, 1) := by decide +kernel
theorem dX11_meetsTest_10 : decode cX11_meetsTest 10 = .ok (.iload_n 2, 1) := by decide +kernel
theorem dX11_meetsTest_11 : decode cX11_meetsTest 11 = .ok (.iconst 1, 1) := by decide +kernel
theorem dX11_meetsTest_12 : decode cX11_meetsTest 12 = .ok (.iadd, 1) := by decide +kernel
theorem dX11_meetsTest_13 : decode cX11_meetsTest 13 = .ok (.invokevirtual 124, 3) := by decide +kernel
theorem dX11_meetsTest_16 : decode cX11_meetsTest 16 = .ok (.istore 5, 2) := by decide +kernel
theorem dX11_meetsTest_18 : decode cX11_meetsTest 18 = .ok (.iload 4, 2) := by decide +kernel
theorem dX11_meetsTest_20 : decode cX11_meetsTest 20 = .ok (.bipush 42, 2) := by decide +kernel
theorem dX11_meetsTest_22 : decode cX11_meetsTest 22 = .ok (.if_icmp .ne 5, 3) := by decide +kernel
theorem dX11_meetsTest_25 : decode cX11_meetsTest 25 = .ok (.iconst 1, 1) := by decide +kernel
theorem dX11_meetsTest_26 : decode cX11_meetsTest 26 = .ok (.ireturn, 1) := by decide +kernel
theorem dX11_meetsTest_27 : decode cX11_meetsTest 27 = .ok (.iload 4, 2) := by decide +kernel
theorem dX11_meetsTest_29 : decode cX11_meetsTest 29 = .ok (.bipush 116, 2) := by decide +kernel
theorem dX11_meetsTest_31 : decode cX11_meetsTest 31 = .ok (.if_icmp .ne 27, 3) := by decide +kernel
theorem dX11_meetsTest_34 : decode cX11_meetsTest 34 = .ok (.aload_n 0, 1) := by decide +kernel
theorem dX11_meetsTest_35 : decode cX11_meetsTest 35 = .ok (.getfield 13, 3) := by decide +kernel
theorem dX11_meetsTest_38 : decode cX11_meetsTest 38 = .ok (.iload_n 3, 1) := by decide +kernel
theorem dX11_meetsTest_39 : decode cX11_meetsTest 39 = .ok (.iaload, 1) := by decide +kernel
theorem dX11_meetsTest_40 : decode cX11_meetsTest 40 = .ok (.iload 5, 2) := by decide +kernel
theorem dX11_meetsTest_42 : decode cX11_meetsTest 42 = .ok (.bipush 48, 2) := by decide +kernel
theorem dX11_meetsTest_44 : decode cX11_meetsTest 44 = .ok (.isub, 1) := by decide +kernel
theorem dX11_meetsTest_45 : decode cX11_meetsTest 45 = .ok (.ishr, 1) := by decide +kernel
theorem dX11_meetsTest_46 : decode cX11_meetsTest 46 = .ok (.iconst 1, 1) := by decide +kernel
theorem dX11_meetsTest_47 : decode cX11_meetsTest 47 = .ok (.iand, 1) := by decide +kernel
theorem dX11_meetsTest_48 : decode cX11_meetsTest 48 = .ok (.iconst 1, 1) := by decide +kernel
theorem dX11_meetsTest_49 : decode cX11_meetsTest 49 = .ok (.if_icmp .ne 7, 3) := by decide +kernel
theorem dX11_meetsTest_52 : decode cX11_meetsTest 52 = .ok (.iconst 1, 1) := by decide +kernel
theorem dX11_meetsTest_53 : decode cX11_meetsTest 53 = .ok (.goto 4, 3) := by decide +kernel
theorem dX11_meetsTest_56 : decode cX11_meetsTest 56 = .ok (.iconst 0, 1) := by decide +kernel
theorem dX11_meetsTest_57 : decode cX11_meetsTest 57 = .ok (.ireturn, 1) := by decide +kernel
theorem dX11_meetsTest_58 : decode cX11_meetsTest 58 = .ok (.iload 4, 2) := by decide +kernel
theorem dX11_meetsTest_60 : decode cX11_meetsTest 60 = .ok (.bipush 64, 2) := by decide +kernel
theorem dX11_meetsTest_62 : decode cX11_meetsTest 62 = .ok (.if_icmp .ne 27, 3) := by decide +kernel
theorem dX11_meetsTest_65 : decode cX11_meetsTest 65 = .ok (.aload_n 0, 1) := by decide +kernel
theorem dX11_meetsTest_66 : decode cX11_meetsTest 66 = .ok (.getfield 34, 3) := by decide +kernel
theorem dX11_meetsTest_69 : decode cX11_meetsTest 69 = .ok (.iload 5, 2) := by decide +kernel
theorem dX11_meetsTest_71 : decode cX11_meetsTest 71 = .ok (.bipush 48, 2) := by decide +kernel
theorem dX11_meetsTest_73 : decode cX11_meetsTest 73 = .ok (.isub, 1) := by decide +kernel
theorem dX11_meetsTest_74 : decode cX11_meetsTest 74 = .ok (.iaload, 1) := by decide +kernel
theorem dX11_meetsTest_75 : decode cX11_meetsTest 75 = .ok (.iload_n 3, 1) := by decide +kernel
theorem dX11_meetsTest_76 : decode cX11_meetsTest 76 = .ok (.ishr, 1) := by decide +kernel
theorem dX11_meetsTest_77 : decode cX11_meetsTest 77 = .ok (.iconst 1, 1) := by decide +kernel
theorem dX11_meetsTest_78 : decode cX11_meetsTest 78 = .ok (.iand, 1) := by decide +kernel
theorem dX11_meetsTest_79 : decode cX11_meetsTest 79 = .ok (.iconst 1, 1) := by decide +kernel
theorem dX11_meetsTest_80 : decode cX11_meetsTest 80 = .ok (.if_icmp .ne 7, 3) := by decide +kernel
theorem dX11_meetsTest_83 : decode cX11_meetsTest 83 = .ok (.iconst 1, 1) := by decide +kernel
theorem dX11_meetsTest_84 : decode cX11_meetsTest 84 = .ok (.goto 4, 3) := by decide +kernel
theorem dX11_meetsTest_87 : decode cX11_meetsTest 87 = .ok (.iconst 0, 1) := by decide +kernel
theorem dX11_meetsTest_88 : decode cX11_meetsTest 88 = .ok (.ireturn, 1) := by decide +kernel
theorem dX11_meetsTest_89 : decode cX11_meetsTest 89 = .ok (.aload_n 0, 1) := by decide +kernel
theorem dX11_meetsTest_90 : decode cX11_meetsTest 90 = .ok (.getfield 7, 3) := by decide +kernel
theorem dX11_meetsTest_93 : decode cX11_meetsTest 93 = .ok (.iconst 3, 1) := by decide +kernel
theorem dX11_meetsTest_94 : decode cX11_meetsTest 94 = .ok (.iload_n 3, 1) := by decide +kernel
theorem dX11_meetsTest_95 : decode cX11_meetsTest 95 = .ok (.imul, 1) := by decide +kernel
theorem dX11_meetsTest_96 : decode cX11_meetsTest 96 = .ok (.iload 4, 2) := by decide +kernel
theorem dX11_meetsTest_98 : decode cX11_meetsTest 98 = .ok (.bipush 108, 2) := by decide +kernel
theorem dX11_meetsTest_100 : decode cX11_meetsTest 100 = .ok (.if_icmp .ne 7, 3) := by decide +kernel
theorem dX11_meetsTest_103 : decode cX11_meetsTest 103 = .ok (.iconst 0, 1) := by decide +kernel
theorem dX11_meetsTest_104 : decode cX11_meetsTest 104 = .ok (.goto 15, 3) := by decide +kernel
theorem dX11_meetsTest_107 : decode cX11_meetsTest 107 = .ok (.iload 4, 2) := by decide +kernel
theorem dX11_meetsTest_109 : decode cX11_meetsTest 109 = .ok (.bipush 97, 2) := by decide +kernel
theorem dX11_meetsTest_111 : decode cX11_meetsTest 111 = .ok (.if_icmp .ne 7, 3) := by decide +kernel
theorem dX11_meetsTest_114 : decode cX11_meetsTest 114 = .ok (.iconst 1, 1) := by decide +kernel
theorem dX11_meetsTest_115 : decode cX11_meetsTest 115 = .ok (.goto 4, 3) := by decide +kernel
theorem dX11_meetsTest_118 : decode cX11_meetsTest 118 = .ok (.iconst 2, 1) := by decide +kernel
theorem dX11_meetsTest_119 : decode cX11_meetsTest 119 = .ok (.iadd, 1) := by decide +kernel
theorem dX11_meetsTest_120 : decode cX11_meetsTest 120 = .ok (.iaload, 1) := by decide +kernel
theorem dX11_meetsTest_121 : decode cX11_meetsTest 121 = .ok (.istore 6, 2) := by decide +kernel
theorem dX11_meetsTest_123 : decode cX11_meetsTest 123 = .ok (.aload_n 0, 1) := by decide +kernel
theorem dX11_meetsTest_124 : decode cX11_meetsTest 124 = .ok (.iload_n 1, 1) := by decide +kernel
theorem dX11_meetsTest_125 : decode cX11_meetsTest 125 = .ok (.iload_n 2, 1) := by decide +kernel
theorem dX11_meetsTest_126 : decode cX11_meetsTest 126 = .ok (.iconst 2, 1) := by decide +kernel
theorem dX11_meetsTest_127 : decode cX11_meetsTest 127 = .ok (.iadd, 1) := by decide +kernel
theorem dX11_meetsTest_128 : decode cX11_meetsTest 128 = .ok (.invokevirtual 128, 3) := by decide +kernel
theorem dX11_meetsTest_131 : decode cX11_meetsTest 131 = .ok (.istore 7, 2) := by decide +kernel
theorem dX11_meetsTest_133 : decode cX11_meetsTest 133 = .ok (.iload 5, 2) := by decide +kernel
theorem dX11_meetsTest_135 : decode cX11_meetsTest 135 = .ok (.bipush 61, 2) := by decide +kernel
theorem dX11_meetsTest_137 : decode cX11_meetsTest 137 = .ok (.if_icmp .ne 18, 3) := by decide +kernel
theorem dX11_meetsTest_140 : decode cX11_meetsTest 140 = .ok (.iload 6, 2) := by decide +kernel
theorem dX11_meetsTest_142 : decode cX11_meetsTest 142 = .ok (.iload 7, 2) := by decide +kernel
theorem dX11_meetsTest_144 : decode cX11_meetsTest 144 = .ok (.if_icmp .ne 7, 3) := by decide +kernel
theorem dX11_meetsTest_147 : decode cX11_meetsTest 147 = .ok (.iconst 1, 1) := by decide +kernel
theorem dX11_meetsTest_148 : decode cX11_meetsTest 148 = .ok (.goto 41, 3) := by decide +kernel
theorem dX11_meetsTest_151 : decode cX11_meetsTest 151 = .ok (.iconst 0, 1) := by decide +kernel
theorem dX11_meetsTest_152 : decode cX11_meetsTest 152 = .ok (.goto 37, 3) := by decide +kernel
theorem dX11_meetsTest_155 : decode cX11_meetsTest 155 = .ok (.iload 5, 2) := by decide +kernel
theorem dX11_meetsTest_157 : decode cX11_meetsTest 157 = .ok (.bipush 60, 2) := by decide +kernel
theorem dX11_meetsTest_159 : decode cX11_meetsTest 159 = .ok (.if_icmp .ne 18, 3) := by decide +kernel
theorem dX11_meetsTest_162 : decode cX11_meetsTest 162 = .ok (.iload 6, 2) := by decide +kernel
theorem dX11_meetsTest_164 : decode cX11_meetsTest 164 = .ok (.iload 7, 2) := by decide +kernel
theorem dX11_meetsTest_166 : decode cX11_meetsTest 166 = .ok (.if_icmp .ge 7, 3) := by decide +kernel
theorem dX11_meetsTest_169 : decode cX11_meetsTest 169 = .ok (.iconst 1, 1) := by decide +kernel
theorem dX11_meetsTest_170 : decode cX11_meetsTest 170 = .ok (.goto 19, 3) := by decide +kernel
theorem dX11_meetsTest_173 : decode cX11_meetsTest 173 = .ok (.iconst 0, 1) := by decide +kernel
theorem dX11_meetsTest_174 : decode cX11_meetsTest 174 = .ok (.goto 15, 3) := by decide +kernel
theorem dX11_meetsTest_177 : decode cX11_meetsTest 177 = .ok (.iload 6, 2) := by decide +kernel
theorem dX11_meetsTest_179 : decode cX11_meetsTest 179 = .ok (.iload 7, 2) := by decide +kernel
theorem dX11_meetsTest_181 : decode cX11_meetsTest 181 = .ok (.if_icmp .le 7, 3) := by decide +kernel
theorem dX11_meetsTest_184 : decode cX11_meetsTest 184 = .ok (.iconst 1, 1) := by decide +kernel
theorem dX11_meetsTest_185 : decode cX11_meetsTest 185 = .ok (.goto 4, 3) := by decide +kernel
theorem dX11_meetsTest_188 : decode cX11_meetsTest 188 = .ok (.iconst 0, 1) := by decide +kernel
theorem dX11_meetsTest_189 : decode cX11_meetsTest 189 = .ok (.ireturn, 1) := by decide +kernel
theorem dX11_beginsTest_0 : decode cX11_beginsTest 0 = .ok (.iload_n 0, 1) := by decide +kernel
theorem dX11_beginsTest_1 : decode cX11_beginsTest 1 = .ok (.bipush 42, 2) := by decide +kernel
theorem dX11_beginsTest_3 : decode cX11_beginsTest 3 = .ok (.if_icmp .eq 33, 3) := by decide +kernel
theorem dX11_beginsTest_6 : decode cX11_beginsTest 6 = .ok (.iload_n 0, 1) := by decide +kernel
theorem dX11_beginsTest_7 : decode cX11_beginsTest 7 = .ok (.bipush 108, 2) := by decide +kernel
theorem dX11_beginsTest_9 : decode cX11_beginsTest 9 = .ok (.if_icmp .eq 27, 3) := by decide +kernel
theorem dX11_beginsTest_12 : decode cX11_beginsTest 12 = .ok (.iload_n 0, 1) := by decide +kernel
theorem dX11_beginsTest_13 : decode cX11_beginsTest 13 = .ok (.bipush 97, 2) := by decide +kernel
theorem dX11_beginsTest_15 : decode cX11_beginsTest 15 = .ok (.if_icmp .eq 21, 3) := by decide +kernel
theorem dX11_beginsTest_18 : decode cX11_beginsTest 18 = .ok (.iload_n 0, 1) := by decide +kernel
theorem dX11_beginsTest_19 : decode cX11_beginsTest 19 = .ok (.bipush 112, 2) := by decide +kernel
theorem dX11_beginsTest_21 : decode cX11_beginsTest 21 = .ok (.if_icmp .eq 15, 3) := by decide +kernel
theorem dX11_beginsTest_24 : decode cX11_beginsTest 24 = .ok (.iload_n 0, 1) := by decide +kernel
theorem dX11_beginsTest_25 : decode cX11_beginsTest 25 = .ok (.bipush 116, 2) := by decide +kernel
theorem dX11_beginsTest_27 : decode cX11_beginsTest 27 = .ok (.if_icmp .eq 9, 3) := by decide +kernel
theorem dX11_beginsTest_30 : decode cX11_beginsTest 30 = .ok (.iload_n 0, 1) := by decide +kernel
theorem dX11_beginsTest_31 : decode cX11_beginsTest 31 = .ok (.bipush 64, 2) := by decide +kernel
theorem dX11_beginsTest_33 : decode cX11_beginsTest 33 = .ok (.if_icmp .ne 7, 3) := by decide +kernel
theorem dX11_beginsTest_36 : decode cX11_beginsTest 36 = .ok (.iconst 1, 1) := by decide +kernel
theorem dX11_beginsTest_37 : decode cX11_beginsTest 37 = .ok (.goto 4, 3) := by decide +kernel
theorem dX11_beginsTest_40 : decode cX11_beginsTest 40 = .ok (.iconst 0, 1) := by decide +kernel
theorem dX11_beginsTest_41 : decode cX11_beginsTest 41 = .ok (.ireturn, 1) := by decide +kernel
theorem dX11_meets_0 : decode cX11_meets 0 = .ok (.iconst 0, 1) := by decide +kernel
theorem dX11_meets_1 : decode cX11_meets 1 = .ok (.istore_n 3, 1) := by decide +kernel
theorem dX11_meets_2 : decode cX11_meets 2 = .ok (.iconst 0, 1) := by decide +kernel
theorem dX11_meets_3 : decode cX11_meets 3 = .ok (.istore 4, 2) := by decide +kernel
theorem dX11_meets_5 : decode cX11_meets 5 = .ok (.aload_n 0, 1) := by decide +kernel
theorem dX11_meets_6 : decode cX11_meets 6 = .ok (.getfield 40, 3) := by decide +kernel
theorem dX11_meets_9 : decode cX11_meets 9 = .ok (.iconst 0, 1) := by decide +kernel
theorem dX11_meets_10 : decode cX11_meets 10 = .ok (.iconst 0, 1) := by decide +kernel
theorem dX11_meets_11 : decode cX11_meets 11 = .ok (.bastore, 1) := by decide +kernel
theorem dX11_meets_12 : decode cX11_meets 12 = .ok (.aload_n 0, 1) := by decide +kernel
theorem dX11_meets_13 : decode cX11_meets 13 = .ok (.getfield 44, 3) := by decide +kernel
theorem dX11_meets_16 : decode cX11_meets 16 = .ok (.iconst 0, 1) := by decide +kernel
theorem dX11_meets_17 : decode cX11_meets 17 = .ok (.iconst 1, 1) := by decide +kernel
theorem dX11_meets_18 : decode cX11_meets 18 = .ok (.bastore, 1) := by decide +kernel
theorem dX11_meets_19 : decode cX11_meets 19 = .ok (.iconst 0, 1) := by decide +kernel
theorem dX11_meets_20 : decode cX11_meets 20 = .ok (.istore 5, 2) := by decide +kernel
theorem dX11_meets_22 : decode cX11_meets 22 = .ok (.iload 5, 2) := by decide +kernel
theorem dX11_meets_24 : decode cX11_meets 24 = .ok (.aload_n 0, 1) := by decide +kernel
theorem dX11_meets_25 : decode cX11_meets 25 = .ok (.getfield 25, 3) := by decide +kernel
theorem dX11_meets_28 : decode cX11_meets 28 = .ok (.iload_n 1, 1) := by decide +kernel
theorem dX11_meets_29 : decode cX11_meets 29 = .ok (.iaload, 1) := by decide +kernel
theorem dX11_meets_30 : decode cX11_meets 30 = .ok (.if_icmp .ge 237, 3) := by decide +kernel
theorem dX11_meets_33 : decode cX11_meets 33 = .ok (.aload_n 0, 1) := by decide +kernel
theorem dX11_meets_34 : decode cX11_meets 34 = .ok (.iload_n 1, 1) := by decide +kernel
theorem dX11_meets_35 : decode cX11_meets 35 = .ok (.iload 5, 2) := by decide +kernel
theorem dX11_meets_37 : decode cX11_meets 37 = .ok (.invokevirtual 124, 3) := by decide +kernel
theorem dX11_meets_40 : decode cX11_meets 40 = .ok (.istore 6, 2) := by decide +kernel
theorem dX11_meets_42 : decode cX11_meets 42 = .ok (.iload 6, 2) := by decide +kernel
theorem dX11_meets_44 : decode cX11_meets 44 = .ok (.invokestatic 131, 3) := by decide +kernel
theorem dX11_meets_47 : decode cX11_meets 47 = .ok (.ifCond .eq 42, 3) := by decide +kernel
theorem dX11_meets_50 : decode cX11_meets 50 = .ok (.aload_n 0, 1) := by decide +kernel
theorem dX11_meets_51 : decode cX11_meets 51 = .ok (.getfield 44, 3) := by decide +kernel
theorem dX11_meets_54 : decode cX11_meets 54 = .ok (.iload_n 3, 1) := by decide +kernel
theorem dX11_meets_55 : decode cX11_meets 55 = .ok (.aload_n 0, 1) := by decide +kernel
theorem dX11_meets_56 : decode cX11_meets 56 = .ok (.getfield 44, 3) := by decide +kernel
theorem dX11_meets_59 : decode cX11_meets 59 = .ok (.iload_n 3, 1) := by decide +kernel
theorem dX11_meets_60 : decode cX11_meets 60 = .ok (.baload, 1) := by decide +kernel
theorem dX11_meets_61 : decode cX11_meets 61 = .ok (.ifCond .eq 20, 3) := by decide +kernel
theorem dX11_meets_64 : decode cX11_meets 64 = .ok (.aload_n 0, 1) := by decide +kernel
theorem dX11_meets_65 : decode cX11_meets 65 = .ok (.iload_n 1, 1) := by decide +kernel
theorem dX11_meets_66 : decode cX11_meets 66 = .ok (.iload 5, 2) := by decide +kernel
theorem dX11_meets_68 : decode cX11_meets 68 = .ok (.iload_n 2, 1) := by decide +kernel
theorem dX11_meets_69 : decode cX11_meets 69 = .ok (.invokevirtual 134, 3) := by decide +kernel
theorem dX11_meets_72 : decode cX11_meets 72 = .ok (.iload 4, 2) := by decide +kernel
theorem dX11_meets_74 : decode cX11_meets 74 = .ok (.if_icmp .eq 7, 3) := by decide +kernel
theorem dX11_meets_77 : decode cX11_meets 77 = .ok (.iconst 1, 1) := by decide +kernel
theorem dX11_meets_78 : decode cX11_meets 78 = .ok (.goto 4, 3) := by decide +kernel
theorem dX11_meets_81 : decode cX11_meets 81 = .ok (.iconst 0, 1) := by decide +kernel
theorem dX11_meets_82 : decode cX11_meets 82 = .ok (.bastore, 1) := by decide +kernel
theorem dX11_meets_83 : decode cX11_meets 83 = .ok (.iconst 0, 1) := by decide +kernel
theorem dX11_meets_84 : decode cX11_meets 84 = .ok (.istore 4, 2) := by decide +kernel
theorem dX11_meets_86 : decode cX11_meets 86 = .ok (.goto 175, 3) := by decide +kernel
theorem dX11_meets_89 : decode cX11_meets 89 = .ok (.iload 6, 2) := by decide +kernel
theorem dX11_meets_91 : decode cX11_meets 91 = .ok (.bipush 33, 2) := by decide +kernel
theorem dX11_meets_93 : decode cX11_meets 93 = .ok (.if_icmp .ne 18, 3) := by decide +kernel
theorem dX11_meets_96 : decode cX11_meets 96 = .ok (.iload 4, 2) := by decide +kernel
theorem dX11_meets_98 : decode cX11_meets 98 = .ok (.ifCond .ne 7, 3) := by decide +kernel
theorem dX11_meets_101 : decode cX11_meets 101 = .ok (.iconst 1, 1) := by decide +kernel
theorem dX11_meets_102 : decode cX11_meets 102 = .ok (.goto 4, 3) := by decide +kernel
theorem dX11_meets_105 : decode cX11_meets 105 = .ok (.iconst 0, 1) := by decide +kernel
theorem dX11_meets_106 : decode cX11_meets 106 = .ok (.istore 4, 2) := by decide +kernel
theorem dX11_meets_108 : decode cX11_meets 108 = .ok (.goto 153, 3) := by decide +kernel
theorem dX11_meets_111 : decode cX11_meets 111 = .ok (.iload 6, 2) := by decide +kernel
theorem dX11_meets_113 : decode cX11_meets 113 = .ok (.bipush 124, 2) := by decide +kernel
theorem dX11_meets_115 : decode cX11_meets 115 = .ok (.if_icmp .ne 42, 3) := by decide +kernel
theorem dX11_meets_118 : decode cX11_meets 118 = .ok (.aload_n 0, 1) := by decide +kernel
theorem dX11_meets_119 : decode cX11_meets 119 = .ok (.getfield 40, 3) := by decide +kernel
theorem dX11_meets_122 : decode cX11_meets 122 = .ok (.iload_n 3, 1) := by decide +kernel
theorem dX11_meets_123 : decode cX11_meets 123 = .ok (.aload_n 0, 1) := by decide +kernel
theorem dX11_meets_124 : decode cX11_meets 124 = .ok (.getfield 40, 3) := by decide +kernel
theorem dX11_meets_127 : decode cX11_meets 127 = .ok (.iload_n 3, 1) := by decide +kernel
theorem dX11_meets_128 : decode cX11_meets 128 = .ok (.baload, 1) := by decide +kernel
theorem dX11_meets_129 : decode cX11_meets 129 = .ok (.ifCond .ne 12, 3) := by decide +kernel
theorem dX11_meets_132 : decode cX11_meets 132 = .ok (.aload_n 0, 1) := by decide +kernel
theorem dX11_meets_133 : decode cX11_meets 133 = .ok (.getfield 44, 3) := by decide +kernel
theorem dX11_meets_136 : decode cX11_meets 136 = .ok (.iload_n 3, 1) := by decide +kernel
theorem dX11_meets_137 : decode cX11_meets 137 = .ok (.baload, 1) := by decide +kernel
theorem dX11_meets_138 : decode cX11_meets 138 = .ok (.ifCond .eq 7, 3) := by decide +kernel
theorem dX11_meets_141 : decode cX11_meets 141 = .ok (.iconst 1, 1) := by decide +kernel
theorem dX11_meets_142 : decode cX11_meets 142 = .ok (.goto 4, 3) := by decide +kernel
theorem dX11_meets_145 : decode cX11_meets 145 = .ok (.iconst 0, 1) := by decide +kernel
theorem dX11_meets_146 : decode cX11_meets 146 = .ok (.bastore, 1) := by decide +kernel
theorem dX11_meets_147 : decode cX11_meets 147 = .ok (.aload_n 0, 1) := by decide +kernel
theorem dX11_meets_148 : decode cX11_meets 148 = .ok (.getfield 44, 3) := by decide +kernel
theorem dX11_meets_151 : decode cX11_meets 151 = .ok (.iload_n 3, 1) := by decide +kernel
theorem dX11_meets_152 : decode cX11_meets 152 = .ok (.iconst 1, 1) := by decide +kernel
theorem dX11_meets_153 : decode cX11_meets 153 = .ok (.bastore, 1) := by decide +kernel
theorem dX11_meets_154 : decode cX11_meets 154 = .ok (.goto 107, 3) := by decide +kernel
theorem dX11_meets_157 : decode cX11_meets 157 = .ok (.iload 6, 2) := by decide +kernel
theorem dX11_meets_159 : decode cX11_meets 159 = .ok (.bipush 40, 2) := by decide +kernel
theorem dX11_meets_161 : decode cX11_meets 161 = .ok (.if_icmp .ne 34, 3) := by decide +kernel
theorem dX11_meets_164 : decode cX11_meets 164 = .ok (.aload_n 0, 1) := by decide +kernel
theorem dX11_meets_165 : decode cX11_meets 165 = .ok (.getfield 47, 3) := by decide +kernel
theorem dX11_meets_168 : decode cX11_meets 168 = .ok (.iload_n 3, 1) := by decide +kernel
theorem dX11_meets_169 : decode cX11_meets 169 = .ok (.iload 4, 2) := by decide +kernel
theorem dX11_meets_171 : decode cX11_meets 171 = .ok (.bastore, 1) := by decide +kernel
theorem dX11_meets_172 : decode cX11_meets 172 = .ok (.iconst 0, 1) := by decide +kernel
theorem dX11_meets_173 : decode cX11_meets 173 = .ok (.istore 4, 2) := by decide +kernel
theorem dX11_meets_175 : decode cX11_meets 175 = .ok (.iinc 3 1, 3) := by decide +kernel
theorem dX11_meets_178 : decode cX11_meets 178 = .ok (.aload_n 0, 1) := by decide +kernel
theorem dX11_meets_179 : decode cX11_meets 179 = .ok (.getfield 40, 3) := by decide +kernel
theorem dX11_meets_182 : decode cX11_meets 182 = .ok (.iload_n 3, 1) := by decide +kernel
theorem dX11_meets_183 : decode cX11_meets 183 = .ok (.iconst 0, 1) := by decide +kernel
theorem dX11_meets_184 : decode cX11_meets 184 = .ok (.bastore, 1) := by decide +kernel
theorem dX11_meets_185 : decode cX11_meets 185 = .ok (.aload_n 0, 1) := by decide +kernel
theorem dX11_meets_186 : decode cX11_meets 186 = .ok (.getfield 44, 3) := by decide +kernel
theorem dX11_meets_189 : decode cX11_meets 189 = .ok (.iload_n 3, 1) := by decide +kernel
theorem dX11_meets_190 : decode cX11_meets 190 = .ok (.iconst 1, 1) := by decide +kernel
theorem dX11_meets_191 : decode cX11_meets 191 = .ok (.bastore, 1) := by decide +kernel
theorem dX11_meets_192 : decode cX11_meets 192 = .ok (.goto 69, 3) := by decide +kernel
theorem dX11_meets_195 : decode cX11_meets 195 = .ok (.iload 6, 2) := by decide +kernel
theorem dX11_meets_197 : decode cX11_meets 197 = .ok (.bipush 41, 2) := by decide +kernel
theorem dX11_meets_199 : decode cX11_meets 199 = .ok (.if_icmp .ne 62, 3) := by decide +kernel
theorem dX11_meets_202 : decode cX11_meets 202 = .ok (.aload_n 0, 1) := by decide +kernel
theorem dX11_meets_203 : decode cX11_meets 203 = .ok (.getfield 40, 3) := by decide +kernel
theorem dX11_meets_206 : decode cX11_meets 206 = .ok (.iload_n 3, 1) := by decide +kernel
theorem dX11_meets_207 : decode cX11_meets 207 = .ok (.baload, 1) := by decide +kernel
theorem dX11_meets_208 : decode cX11_meets 208 = .ok (.ifCond .ne 12, 3) := by decide +kernel
theorem dX11_meets_211 : decode cX11_meets 211 = .ok (.aload_n 0, 1) := by decide +kernel
theorem dX11_meets_212 : decode cX11_meets 212 = .ok (.getfield 44, 3) := by decide +kernel
theorem dX11_meets_215 : decode cX11_meets 215 = .ok (.iload_n 3, 1) := by decide +kernel
theorem dX11_meets_216 : decode cX11_meets 216 = .ok (.baload, 1) := by decide +kernel
theorem dX11_meets_217 : decode cX11_meets 217 = .ok (.ifCond .eq 7, 3) := by decide +kernel
theorem dX11_meets_220 : decode cX11_meets 220 = .ok (.iconst 1, 1) := by decide +kernel
theorem dX11_meets_221 : decode cX11_meets 221 = .ok (.goto 4, 3) := by decide +kernel
theorem dX11_meets_224 : decode cX11_meets 224 = .ok (.iconst 0, 1) := by decide +kernel
theorem dX11_meets_225 : decode cX11_meets 225 = .ok (.istore 7, 2) := by decide +kernel
theorem dX11_meets_227 : decode cX11_meets 227 = .ok (.iinc 3 (-1), 3) := by decide +kernel
theorem dX11_meets_230 : decode cX11_meets 230 = .ok (.aload_n 0, 1) := by decide +kernel
theorem dX11_meets_231 : decode cX11_meets 231 = .ok (.getfield 44, 3) := by decide +kernel
theorem dX11_meets_234 : decode cX11_meets 234 = .ok (.iload_n 3, 1) := by decide +kernel
theorem dX11_meets_235 : decode cX11_meets 235 = .ok (.aload_n 0, 1) := by decide +kernel
theorem dX11_meets_236 : decode cX11_meets 236 = .ok (.getfield 44, 3) := by decide +kernel
theorem dX11_meets_239 : decode cX11_meets 239 = .ok (.iload_n 3, 1) := by decide +kernel
theorem dX11_meets_240 : decode cX11_meets 240 = .ok (.baload, 1) := by decide +kernel
theorem dX11_meets_241 : decode cX11_meets 241 = .ok (.ifCond .eq 18, 3) := by decide +kernel
theorem dX11_meets_244 : decode cX11_meets 244 = .ok (.iload 7, 2) := by decide +kernel
theorem dX11_meets_246 : decode cX11_meets 246 = .ok (.aload_n 0, 1) := by decide +kernel
theorem dX11_meets_247 : decode cX11_meets 247 = .ok (.getfield 47, 3) := by decide +kernel
theorem dX11_meets_250 : decode cX11_meets 250 = .ok (.iload_n 3, 1) := by decide +kernel
theorem dX11_meets_251 : decode cX11_meets 251 = .ok (.baload, 1) := by decide +kernel
theorem dX11_meets_252 : decode cX11_meets 252 = .ok (.if_icmp .eq 7, 3) := by decide +kernel
theorem dX11_meets_255 : decode cX11_meets 255 = .ok (.iconst 1, 1) := by decide +kernel
theorem dX11_meets_256 : decode cX11_meets 256 = .ok (.goto 4, 3) := by decide +kernel
theorem dX11_meets_259 : decode cX11_meets 259 = .ok (.iconst 0, 1) := by decide +kernel
theorem dX11_meets_260 : decode cX11_meets 260 = .ok (.bastore, 1) := by decide +kernel
theorem dX11_meets_261 : decode cX11_meets 261 = .ok (.iinc 5 1, 3) := by decide +kernel
theorem dX11_meets_264 : decode cX11_meets 264 = .ok (.goto (-242), 3) := by decide +kernel
theorem dX11_meets_267 : decode cX11_meets 267 = .ok (.aload_n 0, 1) := by decide +kernel
theorem dX11_meets_268 : decode cX11_meets 268 = .ok (.getfield 25, 3) := by decide +kernel
theorem dX11_meets_271 : decode cX11_meets 271 = .ok (.iload_n 1, 1) := by decide +kernel
theorem dX11_meets_272 : decode cX11_meets 272 = .ok (.iaload, 1) := by decide +kernel
theorem dX11_meets_273 : decode cX11_meets 273 = .ok (.ifCond .le 25, 3) := by decide +kernel
theorem dX11_meets_276 : decode cX11_meets 276 = .ok (.aload_n 0, 1) := by decide +kernel
theorem dX11_meets_277 : decode cX11_meets 277 = .ok (.getfield 40, 3) := by decide +kernel
theorem dX11_meets_280 : decode cX11_meets 280 = .ok (.iconst 0, 1) := by decide +kernel
theorem dX11_meets_281 : decode cX11_meets 281 = .ok (.baload, 1) := by decide +kernel
theorem dX11_meets_282 : decode cX11_meets 282 = .ok (.ifCond .ne 12, 3) := by decide +kernel
theorem dX11_meets_285 : decode cX11_meets 285 = .ok (.aload_n 0, 1) := by decide +kernel
theorem dX11_meets_286 : decode cX11_meets 286 = .ok (.getfield 44, 3) := by decide +kernel
theorem dX11_meets_289 : decode cX11_meets 289 = .ok (.iconst 0, 1) := by decide +kernel
theorem dX11_meets_290 : decode cX11_meets 290 = .ok (.baload, 1) := by decide +kernel
theorem dX11_meets_291 : decode cX11_meets 291 = .ok (.ifCond .eq 7, 3) := by decide +kernel
theorem dX11_meets_294 : decode cX11_meets 294 = .ok (.iconst 1, 1) := by decide +kernel
theorem dX11_meets_295 : decode cX11_meets 295 = .ok (.goto 4, 3) := by decide +kernel
theorem dX11_meets_298 : decode cX11_meets 298 = .ok (.iconst 0, 1) := by decide +kernel
theorem dX11_meets_299 : decode cX11_meets 299 = .ok (.ireturn, 1) := by decide +kernel
theorem dX11_gather_0 : decode cX11_gather 0 = .ok (.iconst 0, 1) := by decide +kernel
theorem dX11_gather_1 : decode cX11_gather 1 = .ok (.istore_n 1, 1) := by decide +kernel
theorem dX11_gather_2 : decode cX11_gather 2 = .ok (.iload_n 1, 1) := by decide +kernel
theorem dX11_gather_3 : decode cX11_gather 3 = .ok (.bipush 6, 2) := by decide +kernel
theorem dX11_gather_5 : decode cX11_gather 5 = .ok (.if_icmp .ge 69, 3) := by decide +kernel
theorem dX11_gather_8 : decode cX11_gather 8 = .ok (.iconst 0, 1) := by decide +kernel
theorem dX11_gather_9 : decode cX11_gather 9 = .ok (.istore_n 2, 1) := by decide +kernel
theorem dX11_gather_10 : decode cX11_gather 10 = .ok (.iload_n 2, 1) := by decide +kernel
theorem dX11_gather_11 : decode cX11_gather 11 = .ok (.bipush 6, 2) := by decide +kernel
theorem dX11_gather_13 : decode cX11_gather 13 = .ok (.if_icmp .ge 55, 3) := by decide +kernel
theorem dX11_gather_16 : decode cX11_gather 16 = .ok (.iconst 0, 1) := by decide +kernel
theorem dX11_gather_17 : decode cX11_gather 17 = .ok (.istore_n 3, 1) := by decide +kernel
theorem dX11_gather_18 : decode cX11_gather 18 = .ok (.iconst 0, 1) := by decide +kernel
theorem dX11_gather_19 : decode cX11_gather 19 = .ok (.istore 4, 2) := by decide +kernel
theorem dX11_gather_21 : decode cX11_gather 21 = .ok (.iload 4, 2) := by decide +kernel
theorem dX11_gather_23 : decode cX11_gather 23 = .ok (.bipush 20, 2) := by decide +kernel
theorem dX11_gather_25 : decode cX11_gather 25 = .ok (.if_icmp .ge 30, 3) := by decide +kernel
theorem dX11_gather_28 : decode cX11_gather 28 = .ok (.iload_n 3, 1) := by decide +kernel
theorem dX11_gather_29 : decode cX11_gather 29 = .ok (.aload_n 0, 1) := by decide +kernel
theorem dX11_gather_30 : decode cX11_gather 30 = .ok (.iload_n 2, 1) := by decide +kernel
theorem dX11_gather_31 : decode cX11_gather 31 = .ok (.iload 4, 2) := by decide +kernel
theorem dX11_gather_33 : decode cX11_gather 33 = .ok (.invokevirtual 137, 3) := by decide +kernel
theorem dX11_gather_36 : decode cX11_gather 36 = .ok (.ifCond .eq 10, 3) := by decide +kernel
theorem dX11_gather_39 : decode cX11_gather 39 = .ok (.iconst 1, 1) := by decide +kernel
theorem dX11_gather_40 : decode cX11_gather 40 = .ok (.iload 4, 2) := by decide +kernel
theorem dX11_gather_42 : decode cX11_gather 42 = .ok (.ishl, 1) := by decide +kernel
theorem dX11_gather_43 : decode cX11_gather 43 = .ok (.goto 4, 3) := by decide +kernel
theorem dX11_gather_46 : decode cX11_gather 46 = .ok (.iconst 0, 1) := by decide +kernel
theorem dX11_gather_47 : decode cX11_gather 47 = .ok (.ior, 1) := by decide +kernel
theorem dX11_gather_48 : decode cX11_gather 48 = .ok (.istore_n 3, 1) := by decide +kernel
theorem dX11_gather_49 : decode cX11_gather 49 = .ok (.iinc 4 1, 3) := by decide +kernel
theorem dX11_gather_52 : decode cX11_gather 52 = .ok (.goto (-31), 3) := by decide +kernel
theorem dX11_gather_55 : decode cX11_gather 55 = .ok (.aload_n 0, 1) := by decide +kernel
theorem dX11_gather_56 : decode cX11_gather 56 = .ok (.getfield 34, 3) := by decide +kernel
theorem dX11_gather_59 : decode cX11_gather 59 = .ok (.iload_n 2, 1) := by decide +kernel
theorem dX11_gather_60 : decode cX11_gather 60 = .ok (.iload_n 3, 1) := by decide +kernel
theorem dX11_gather_61 : decode cX11_gather 61 = .ok (.iastore, 1) := by decide +kernel
theorem dX11_gather_62 : decode cX11_gather 62 = .ok (.iinc 2 1, 3) := by decide +kernel
theorem dX11_gather_65 : decode cX11_gather 65 = .ok (.goto (-55), 3) := by decide +kernel
theorem dX11_gather_68 : decode cX11_gather 68 = .ok (.iinc 1 1, 3) := by decide +kernel
theorem dX11_gather_71 : decode cX11_gather 71 = .ok (.goto (-69), 3) := by decide +kernel
theorem dX11_gather_74 : decode cX11_gather 74 = .ok (.return_, 1) := by decide +kernel
theorem dX11_countBits_0 : decode cX11_countBits 0 = .ok (.iconst 0, 1) := by decide +kernel
theorem dX11_countBits_1 : decode cX11_countBits 1 = .ok (.istore_n 1, 1) := by decide +kernel
theorem dX11_countBits_2 : decode cX11_countBits 2 = .ok (.iconst 0, 1) := by decide +kernel
theorem dX11_countBits_3 : decode cX11_countBits 3 = .ok (.istore_n 2, 1) := by decide +kernel
theorem dX11_countBits_4 : decode cX11_countBits 4 = .ok (.iload_n 2, 1) := by decide +kernel
theorem dX11_countBits_5 : decode cX11_countBits 5 = .ok (.bipush 20, 2) := by decide +kernel
theorem dX11_countBits_7 : decode cX11_countBits 7 = .ok (.if_icmp .ge 17, 3) := by decide +kernel
theorem dX11_countBits_10 : decode cX11_countBits 10 = .ok (.iload_n 1, 1) := by decide +kernel
theorem dX11_countBits_11 : decode cX11_countBits 11 = .ok (.iload_n 0, 1) := by decide +kernel
theorem dX11_countBits_12 : decode cX11_countBits 12 = .ok (.iload_n 2, 1) := by decide +kernel
theorem dX11_countBits_13 : decode cX11_countBits 13 = .ok (.ishr, 1) := by decide +kernel
theorem dX11_countBits_14 : decode cX11_countBits 14 = .ok (.iconst 1, 1) := by decide +kernel
theorem dX11_countBits_15 : decode cX11_countBits 15 = .ok (.iand, 1) := by decide +kernel
theorem dX11_countBits_16 : decode cX11_countBits 16 = .ok (.iadd, 1) := by decide +kernel
theorem dX11_countBits_17 : decode cX11_countBits 17 = .ok (.istore_n 1, 1) := by decide +kernel
theorem dX11_countBits_18 : decode cX11_countBits 18 = .ok (.iinc 2 1, 3) := by decide +kernel
theorem dX11_countBits_21 : decode cX11_countBits 21 = .ok (.goto (-17), 3) := by decide +kernel
theorem dX11_countBits_24 : decode cX11_countBits 24 = .ok (.iload_n 1, 1) := by decide +kernel
theorem dX11_countBits_25 : decode cX11_countBits 25 = .ok (.ireturn, 1) := by decide +kernel
theorem dX11_layDraft_0 : decode cX11_layDraft 0 = .ok (.aload_n 0, 1) := by decide +kernel
theorem dX11_layDraft_1 : decode cX11_layDraft 1 = .ok (.aload_n 0, 1) := by decide +kernel
theorem dX11_layDraft_2 : decode cX11_layDraft 2 = .ok (.getfield 25, 3) := by decide +kernel
theorem dX11_layDraft_5 : decode cX11_layDraft 5 = .ok (.iload_n 1, 1) := by decide +kernel
theorem dX11_layDraft_6 : decode cX11_layDraft 6 = .ok (.iaload, 1) := by decide +kernel
theorem dX11_layDraft_7 : decode cX11_layDraft 7 = .ok (.putfield 141, 3) := by decide +kernel
theorem dX11_layDraft_10 : decode cX11_layDraft 10 = .ok (.iconst 0, 1) := by decide +kernel
theorem dX11_layDraft_11 : decode cX11_layDraft 11 = .ok (.istore_n 2, 1) := by decide +kernel
theorem dX11_layDraft_12 : decode cX11_layDraft 12 = .ok (.iload_n 2, 1) := by decide +kernel
theorem dX11_layDraft_13 : decode cX11_layDraft 13 = .ok (.bipush 60, 2) := by decide +kernel
theorem dX11_layDraft_15 : decode cX11_layDraft 15 = .ok (.if_icmp .ge 48, 3) := by decide +kernel
theorem dX11_layDraft_18 : decode cX11_layDraft 18 = .ok (.aload_n 0, 1) := by decide +kernel
theorem dX11_layDraft_19 : decode cX11_layDraft 19 = .ok (.getfield 28, 3) := by decide +kernel
theorem dX11_layDraft_22 : decode cX11_layDraft 22 = .ok (.iload_n 2, 1) := by decide +kernel
theorem dX11_layDraft_23 : decode cX11_layDraft 23 = .ok (.aload_n 0, 1) := by decide +kernel
theorem dX11_layDraft_24 : decode cX11_layDraft 24 = .ok (.getfield 22, 3) := by decide +kernel
theorem dX11_layDraft_27 : decode cX11_layDraft 27 = .ok (.bipush 60, 2) := by decide +kernel
theorem dX11_layDraft_29 : decode cX11_layDraft 29 = .ok (.iload_n 1, 1) := by decide +kernel
theorem dX11_layDraft_30 : decode cX11_layDraft 30 = .ok (.imul, 1) := by decide +kernel
theorem dX11_layDraft_31 : decode cX11_layDraft 31 = .ok (.iload_n 2, 1) := by decide +kernel
theorem dX11_layDraft_32 : decode cX11_layDraft 32 = .ok (.iadd, 1) := by decide +kernel
theorem dX11_layDraft_33 : decode cX11_layDraft 33 = .ok (.iaload, 1) := by decide +kernel
theorem dX11_layDraft_34 : decode cX11_layDraft 34 = .ok (.iastore, 1) := by decide +kernel
theorem dX11_layDraft_35 : decode cX11_layDraft 35 = .ok (.aload_n 0, 1) := by decide +kernel
theorem dX11_layDraft_36 : decode cX11_layDraft 36 = .ok (.getfield 22, 3) := by decide +kernel
theorem dX11_layDraft_39 : decode cX11_layDraft 39 = .ok (.bipush 60, 2) := by decide +kernel
theorem dX11_layDraft_41 : decode cX11_layDraft 41 = .ok (.iload_n 1, 1) := by decide +kernel
theorem dX11_layDraft_42 : decode cX11_layDraft 42 = .ok (.imul, 1) := by decide +kernel
theorem dX11_layDraft_43 : decode cX11_layDraft 43 = .ok (.iload_n 2, 1) := by decide +kernel
theorem dX11_layDraft_44 : decode cX11_layDraft 44 = .ok (.iadd, 1) := by decide +kernel
theorem dX11_layDraft_45 : decode cX11_layDraft 45 = .ok (.aload_n 0, 1) := by decide +kernel
theorem dX11_layDraft_46 : decode cX11_layDraft 46 = .ok (.getfield 16, 3) := by decide +kernel
theorem dX11_layDraft_49 : decode cX11_layDraft 49 = .ok (.bipush 60, 2) := by decide +kernel
theorem dX11_layDraft_51 : decode cX11_layDraft 51 = .ok (.iload_n 1, 1) := by decide +kernel
theorem dX11_layDraft_52 : decode cX11_layDraft 52 = .ok (.imul, 1) := by decide +kernel
theorem dX11_layDraft_53 : decode cX11_layDraft 53 = .ok (.iload_n 2, 1) := by decide +kernel
theorem dX11_layDraft_54 : decode cX11_layDraft 54 = .ok (.iadd, 1) := by decide +kernel
theorem dX11_layDraft_55 : decode cX11_layDraft 55 = .ok (.iaload, 1) := by decide +kernel
theorem dX11_layDraft_56 : decode cX11_layDraft 56 = .ok (.iastore, 1) := by decide +kernel
theorem dX11_layDraft_57 : decode cX11_layDraft 57 = .ok (.iinc 2 1, 3) := by decide +kernel
theorem dX11_layDraft_60 : decode cX11_layDraft 60 = .ok (.goto (-48), 3) := by decide +kernel
theorem dX11_layDraft_63 : decode cX11_layDraft 63 = .ok (.aload_n 0, 1) := by decide +kernel
theorem dX11_layDraft_64 : decode cX11_layDraft 64 = .ok (.getfield 25, 3) := by decide +kernel
theorem dX11_layDraft_67 : decode cX11_layDraft 67 = .ok (.iload_n 1, 1) := by decide +kernel
theorem dX11_layDraft_68 : decode cX11_layDraft 68 = .ok (.aload_n 0, 1) := by decide +kernel
theorem dX11_layDraft_69 : decode cX11_layDraft 69 = .ok (.getfield 19, 3) := by decide +kernel
theorem dX11_layDraft_72 : decode cX11_layDraft 72 = .ok (.iload_n 1, 1) := by decide +kernel
theorem dX11_layDraft_73 : decode cX11_layDraft 73 = .ok (.iaload, 1) := by decide +kernel
theorem dX11_layDraft_74 : decode cX11_layDraft 74 = .ok (.iastore, 1) := by decide +kernel
theorem dX11_layDraft_75 : decode cX11_layDraft 75 = .ok (.return_, 1) := by decide +kernel
theorem dX11_layBack_0 : decode cX11_layBack 0 = .ok (.iconst 0, 1) := by decide +kernel
theorem dX11_layBack_1 : decode cX11_layBack 1 = .ok (.istore_n 2, 1) := by decide +kernel
theorem dX11_layBack_2 : decode cX11_layBack 2 = .ok (.iload_n 2, 1) := by decide +kernel
theorem dX11_layBack_3 : decode cX11_layBack 3 = .ok (.bipush 60, 2) := by decide +kernel
theorem dX11_layBack_5 : decode cX11_layBack 5 = .ok (.if_icmp .ge 26, 3) := by decide +kernel
theorem dX11_layBack_8 : decode cX11_layBack 8 = .ok (.aload_n 0, 1) := by decide +kernel
theorem dX11_layBack_9 : decode cX11_layBack 9 = .ok (.getfield 22, 3) := by decide +kernel
theorem dX11_layBack_12 : decode cX11_layBack 12 = .ok (.bipush 60, 2) := by decide +kernel
theorem dX11_layBack_14 : decode cX11_layBack 14 = .ok (.iload_n 1, 1) := by decide +kernel
theorem dX11_layBack_15 : decode cX11_layBack 15 = .ok (.imul, 1) := by decide +kernel
theorem dX11_layBack_16 : decode cX11_layBack 16 = .ok (.iload_n 2, 1) := by decide +kernel
theorem dX11_layBack_17 : decode cX11_layBack 17 = .ok (.iadd, 1) := by decide +kernel
theorem dX11_layBack_18 : decode cX11_layBack 18 = .ok (.aload_n 0, 1) := by decide +kernel
theorem dX11_layBack_19 : decode cX11_layBack 19 = .ok (.getfield 28, 3) := by decide +kernel
theorem dX11_layBack_22 : decode cX11_layBack 22 = .ok (.iload_n 2, 1) := by decide +kernel
theorem dX11_layBack_23 : decode cX11_layBack 23 = .ok (.iaload, 1) := by decide +kernel
theorem dX11_layBack_24 : decode cX11_layBack 24 = .ok (.iastore, 1) := by decide +kernel
theorem dX11_layBack_25 : decode cX11_layBack 25 = .ok (.iinc 2 1, 3) := by decide +kernel
theorem dX11_layBack_28 : decode cX11_layBack 28 = .ok (.goto (-26), 3) := by decide +kernel
theorem dX11_layBack_31 : decode cX11_layBack 31 = .ok (.aload_n 0, 1) := by decide +kernel
theorem dX11_layBack_32 : decode cX11_layBack 32 = .ok (.getfield 25, 3) := by decide +kernel
theorem dX11_layBack_35 : decode cX11_layBack 35 = .ok (.iload_n 1, 1) := by decide +kernel
theorem dX11_layBack_36 : decode cX11_layBack 36 = .ok (.aload_n 0, 1) := by decide +kernel
theorem dX11_layBack_37 : decode cX11_layBack 37 = .ok (.getfield 141, 3) := by decide +kernel
theorem dX11_layBack_40 : decode cX11_layBack 40 = .ok (.iastore, 1) := by decide +kernel
theorem dX11_layBack_41 : decode cX11_layBack 41 = .ok (.return_, 1) := by decide +kernel
theorem dX11_hasCircle_0 : decode cX11_hasCircle 0 = .ok (.iconst 0, 1) := by decide +kernel
theorem dX11_hasCircle_1 : decode cX11_hasCircle 1 = .ok (.istore_n 1, 1) := by decide +kernel
theorem dX11_hasCircle_2 : decode cX11_hasCircle 2 = .ok (.iload_n 1, 1) := by decide +kernel
theorem dX11_hasCircle_3 : decode cX11_hasCircle 3 = .ok (.bipush 6, 2) := by decide +kernel
theorem dX11_hasCircle_5 : decode cX11_hasCircle 5 = .ok (.if_icmp .ge 81, 3) := by decide +kernel
theorem dX11_hasCircle_8 : decode cX11_hasCircle 8 = .ok (.aload_n 0, 1) := by decide +kernel
theorem dX11_hasCircle_9 : decode cX11_hasCircle 9 = .ok (.getfield 31, 3) := by decide +kernel
theorem dX11_hasCircle_12 : decode cX11_hasCircle 12 = .ok (.iload_n 1, 1) := by decide +kernel
theorem dX11_hasCircle_13 : decode cX11_hasCircle 13 = .ok (.iconst 0, 1) := by decide +kernel
theorem dX11_hasCircle_14 : decode cX11_hasCircle 14 = .ok (.iastore, 1) := by decide +kernel
theorem dX11_hasCircle_15 : decode cX11_hasCircle 15 = .ok (.iconst 0, 1) := by decide +kernel
theorem dX11_hasCircle_16 : decode cX11_hasCircle 16 = .ok (.istore_n 2, 1) := by decide +kernel
theorem dX11_hasCircle_17 : decode cX11_hasCircle 17 = .ok (.iload_n 2, 1) := by decide +kernel
theorem dX11_hasCircle_18 : decode cX11_hasCircle 18 = .ok (.aload_n 0, 1) := by decide +kernel
theorem dX11_hasCircle_19 : decode cX11_hasCircle 19 = .ok (.getfield 25, 3) := by decide +kernel
theorem dX11_hasCircle_22 : decode cX11_hasCircle 22 = .ok (.iload_n 1, 1) := by decide +kernel
theorem dX11_hasCircle_23 : decode cX11_hasCircle 23 = .ok (.iaload, 1) := by decide +kernel
theorem dX11_hasCircle_24 : decode cX11_hasCircle 24 = .ok (.if_icmp .ge 56, 3) := by decide +kernel
theorem dX11_hasCircle_27 : decode cX11_hasCircle 27 = .ok (.aload_n 0, 1) := by decide +kernel
theorem dX11_hasCircle_28 : decode cX11_hasCircle 28 = .ok (.iload_n 1, 1) := by decide +kernel
theorem dX11_hasCircle_29 : decode cX11_hasCircle 29 = .ok (.iload_n 2, 1) := by decide +kernel
theorem dX11_hasCircle_30 : decode cX11_hasCircle 30 = .ok (.invokevirtual 124, 3) := by decide +kernel
theorem dX11_hasCircle_33 : decode cX11_hasCircle 33 = .ok (.bipush 64, 2) := by decide +kernel
theorem dX11_hasCircle_35 : decode cX11_hasCircle 35 = .ok (.if_icmp .ne 7, 3) := by decide +kernel
theorem dX11_hasCircle_38 : decode cX11_hasCircle 38 = .ok (.iconst 1, 1) := by decide +kernel
theorem dX11_hasCircle_39 : decode cX11_hasCircle 39 = .ok (.goto 4, 3) := by decide +kernel
theorem dX11_hasCircle_42 : decode cX11_hasCircle 42 = .ok (.iconst 0, 1) := by decide +kernel
theorem dX11_hasCircle_43 : decode cX11_hasCircle 43 = .ok (.istore_n 3, 1) := by decide +kernel
theorem dX11_hasCircle_44 : decode cX11_hasCircle 44 = .ok (.aload_n 0, 1) := by decide +kernel
theorem dX11_hasCircle_45 : decode cX11_hasCircle 45 = .ok (.getfield 31, 3) := by decide +kernel
theorem dX11_hasCircle_48 : decode cX11_hasCircle 48 = .ok (.iload_n 1, 1) := by decide +kernel
theorem dX11_hasCircle_49 : decode cX11_hasCircle 49 = .ok (.dup2, 1) := by decide +kernel
theorem dX11_hasCircle_50 : decode cX11_hasCircle 50 = .ok (.iaload, 1) := by decide +kernel
theorem dX11_hasCircle_51 : decode cX11_hasCircle 51 = .ok (.iload_n 3, 1) := by decide +kernel
theorem dX11_hasCircle_52 : decode cX11_hasCircle 52 = .ok (.ifCond .eq 19, 3) := by decide +kernel
theorem dX11_hasCircle_55 : decode cX11_hasCircle 55 = .ok (.iconst 1, 1) := by decide +kernel
theorem dX11_hasCircle_56 : decode cX11_hasCircle 56 = .ok (.aload_n 0, 1) := by decide +kernel
theorem dX11_hasCircle_57 : decode cX11_hasCircle 57 = .ok (.iload_n 1, 1) := by decide +kernel
theorem dX11_hasCircle_58 : decode cX11_hasCircle 58 = .ok (.iload_n 2, 1) := by decide +kernel
theorem dX11_hasCircle_59 : decode cX11_hasCircle 59 = .ok (.iconst 1, 1) := by decide +kernel
theorem dX11_hasCircle_60 : decode cX11_hasCircle 60 = .ok (.iadd, 1) := by decide +kernel
theorem dX11_hasCircle_61 : decode cX11_hasCircle 61 = .ok (.invokevirtual 124, 3) := by decide +kernel
theorem dX11_hasCircle_64 : decode cX11_hasCircle 64 = .ok (.bipush 48, 2) := by decide +kernel
theorem dX11_hasCircle_66 : decode cX11_hasCircle 66 = .ok (.isub, 1) := by decide +kernel
theorem dX11_hasCircle_67 : decode cX11_hasCircle 67 = .ok (.ishl, 1) := by decide +kernel
theorem dX11_hasCircle_68 : decode cX11_hasCircle 68 = .ok (.goto 4, 3) := by decide +kernel
theorem dX11_hasCircle_71 : decode cX11_hasCircle 71 = .ok (.iconst 0, 1) := by decide +kernel
theorem dX11_hasCircle_72 : decode cX11_hasCircle 72 = .ok (.ior, 1) := by decide +kernel
theorem dX11_hasCircle_73 : decode cX11_hasCircle 73 = .ok (.iastore, 1) := by decide +kernel
theorem dX11_hasCircle_74 : decode cX11_hasCircle 74 = .ok (.iinc 2 1, 3) := by decide +kernel
theorem dX11_hasCircle_77 : decode cX11_hasCircle 77 = .ok (.goto (-60), 3) := by decide +kernel
theorem dX11_hasCircle_80 : decode cX11_hasCircle 80 = .ok (.iinc 1 1, 3) := by decide +kernel
theorem dX11_hasCircle_83 : decode cX11_hasCircle 83 = .ok (.goto (-81), 3) := by decide +kernel
theorem dX11_hasCircle_86 : decode cX11_hasCircle 86 = .ok (.iconst 0, 1) := by decide +kernel
theorem dX11_hasCircle_87 : decode cX11_hasCircle 87 = .ok (.istore_n 1, 1) := by decide +kernel
theorem dX11_hasCircle_88 : decode cX11_hasCircle 88 = .ok (.iconst 0, 1) := by decide +kernel
theorem dX11_hasCircle_89 : decode cX11_hasCircle 89 = .ok (.istore_n 2, 1) := by decide +kernel
theorem dX11_hasCircle_90 : decode cX11_hasCircle 90 = .ok (.iload_n 2, 1) := by decide +kernel
theorem dX11_hasCircle_91 : decode cX11_hasCircle 91 = .ok (.bipush 6, 2) := by decide +kernel
theorem dX11_hasCircle_93 : decode cX11_hasCircle 93 = .ok (.if_icmp .ge 56, 3) := by decide +kernel
theorem dX11_hasCircle_96 : decode cX11_hasCircle 96 = .ok (.iconst 0, 1) := by decide +kernel
theorem dX11_hasCircle_97 : decode cX11_hasCircle 97 = .ok (.istore_n 3, 1) := by decide +kernel
theorem dX11_hasCircle_98 : decode cX11_hasCircle 98 = .ok (.iload_n 3, 1) := by decide +kernel
theorem dX11_hasCircle_99 : decode cX11_hasCircle 99 = .ok (.bipush 6, 2) := by decide +kernel
theorem dX11_hasCircle_101 : decode cX11_hasCircle 101 = .ok (.if_icmp .ge 42, 3) := by decide +kernel
theorem dX11_hasCircle_104 : decode cX11_hasCircle 104 = .ok (.aload_n 0, 1) := by decide +kernel
theorem dX11_hasCircle_105 : decode cX11_hasCircle 105 = .ok (.getfield 31, 3) := by decide +kernel
theorem dX11_hasCircle_108 : decode cX11_hasCircle 108 = .ok (.iload_n 3, 1) := by decide +kernel
theorem dX11_hasCircle_109 : decode cX11_hasCircle 109 = .ok (.dup2, 1) := by decide +kernel
theorem dX11_hasCircle_110 : decode cX11_hasCircle 110 = .ok (.iaload, 1) := by decide +kernel
theorem dX11_hasCircle_111 : decode cX11_hasCircle 111 = .ok (.aload_n 0, 1) := by decide +kernel
theorem dX11_hasCircle_112 : decode cX11_hasCircle 112 = .ok (.getfield 31, 3) := by decide +kernel
theorem dX11_hasCircle_115 : decode cX11_hasCircle 115 = .ok (.iload_n 3, 1) := by decide +kernel
theorem dX11_hasCircle_116 : decode cX11_hasCircle 116 = .ok (.iaload, 1) := by decide +kernel
theorem dX11_hasCircle_117 : decode cX11_hasCircle 117 = .ok (.iload_n 2, 1) := by decide +kernel
theorem dX11_hasCircle_118 : decode cX11_hasCircle 118 = .ok (.ishr, 1) := by decide +kernel
theorem dX11_hasCircle_119 : decode cX11_hasCircle 119 = .ok (.iconst 1, 1) := by decide +kernel
theorem dX11_hasCircle_120 : decode cX11_hasCircle 120 = .ok (.iand, 1) := by decide +kernel
theorem dX11_hasCircle_121 : decode cX11_hasCircle 121 = .ok (.iconst 1, 1) := by decide +kernel
theorem dX11_hasCircle_122 : decode cX11_hasCircle 122 = .ok (.if_icmp .ne 12, 3) := by decide +kernel
theorem dX11_hasCircle_125 : decode cX11_hasCircle 125 = .ok (.aload_n 0, 1) := by decide +kernel
theorem dX11_hasCircle_126 : decode cX11_hasCircle 126 = .ok (.getfield 31, 3) := by decide +kernel
theorem dX11_hasCircle_129 : decode cX11_hasCircle 129 = .ok (.iload_n 2, 1) := by decide +kernel
theorem dX11_hasCircle_130 : decode cX11_hasCircle 130 = .ok (.iaload, 1) := by decide +kernel
theorem dX11_hasCircle_131 : decode cX11_hasCircle 131 = .ok (.goto 4, 3) := by decide +kernel
theorem dX11_hasCircle_134 : decode cX11_hasCircle 134 = .ok (.iconst 0, 1) := by decide +kernel
theorem dX11_hasCircle_135 : decode cX11_hasCircle 135 = .ok (.ior, 1) := by decide +kernel
theorem dX11_hasCircle_136 : decode cX11_hasCircle 136 = .ok (.iastore, 1) := by decide +kernel
theorem dX11_hasCircle_137 : decode cX11_hasCircle 137 = .ok (.iinc 3 1, 3) := by decide +kernel
theorem dX11_hasCircle_140 : decode cX11_hasCircle 140 = .ok (.goto (-42), 3) := by decide +kernel
theorem dX11_hasCircle_143 : decode cX11_hasCircle 143 = .ok (.iinc 2 1, 3) := by decide +kernel
theorem dX11_hasCircle_146 : decode cX11_hasCircle 146 = .ok (.goto (-56), 3) := by decide +kernel
theorem dX11_hasCircle_149 : decode cX11_hasCircle 149 = .ok (.iconst 0, 1) := by decide +kernel
theorem dX11_hasCircle_150 : decode cX11_hasCircle 150 = .ok (.istore_n 2, 1) := by decide +kernel
theorem dX11_hasCircle_151 : decode cX11_hasCircle 151 = .ok (.iload_n 2, 1) := by decide +kernel
theorem dX11_hasCircle_152 : decode cX11_hasCircle 152 = .ok (.bipush 6, 2) := by decide +kernel
theorem dX11_hasCircle_154 : decode cX11_hasCircle 154 = .ok (.if_icmp .ge 33, 3) := by decide +kernel
theorem dX11_hasCircle_157 : decode cX11_hasCircle 157 = .ok (.iload_n 1, 1) := by decide +kernel
theorem dX11_hasCircle_158 : decode cX11_hasCircle 158 = .ok (.ifCond .ne 17, 3) := by decide +kernel
theorem dX11_hasCircle_161 : decode cX11_hasCircle 161 = .ok (.aload_n 0, 1) := by decide +kernel
theorem dX11_hasCircle_162 : decode cX11_hasCircle 162 = .ok (.getfield 31, 3) := by decide +kernel
theorem dX11_hasCircle_165 : decode cX11_hasCircle 165 = .ok (.iload_n 2, 1) := by decide +kernel
theorem dX11_hasCircle_166 : decode cX11_hasCircle 166 = .ok (.iaload, 1) := by decide +kernel
theorem dX11_hasCircle_167 : decode cX11_hasCircle 167 = .ok (.iload_n 2, 1) := by decide +kernel
theorem dX11_hasCircle_168 : decode cX11_hasCircle 168 = .ok (.ishr, 1) := by decide +kernel
theorem dX11_hasCircle_169 : decode cX11_hasCircle 169 = .ok (.iconst 1, 1) := by decide +kernel
theorem dX11_hasCircle_170 : decode cX11_hasCircle 170 = .ok (.iand, 1) := by decide +kernel
theorem dX11_hasCircle_171 : decode cX11_hasCircle 171 = .ok (.iconst 1, 1) := by decide +kernel
theorem dX11_hasCircle_172 : decode cX11_hasCircle 172 = .ok (.if_icmp .ne 7, 3) := by decide +kernel
theorem dX11_hasCircle_175 : decode cX11_hasCircle 175 = .ok (.iconst 1, 1) := by decide +kernel
theorem dX11_hasCircle_176 : decode cX11_hasCircle 176 = .ok (.goto 4, 3) := by decide +kernel
theorem dX11_hasCircle_179 : decode cX11_hasCircle 179 = .ok (.iconst 0, 1) := by decide +kernel
theorem dX11_hasCircle_180 : decode cX11_hasCircle 180 = .ok (.istore_n 1, 1) := by decide +kernel
theorem dX11_hasCircle_181 : decode cX11_hasCircle 181 = .ok (.iinc 2 1, 3) := by decide +kernel
theorem dX11_hasCircle_184 : decode cX11_hasCircle 184 = .ok (.goto (-33), 3) := by decide +kernel
theorem dX11_hasCircle_187 : decode cX11_hasCircle 187 = .ok (.iload_n 1, 1) := by decide +kernel
theorem dX11_hasCircle_188 : decode cX11_hasCircle 188 = .ok (.ireturn, 1) := by decide +kernel
theorem dX11_canLay_0 : decode cX11_canLay 0 = .ok (.iload_n 1, 1) := by decide +kernel
theorem dX11_canLay_1 : decode cX11_canLay 1 = .ok (.invokestatic 110, 3) := by decide +kernel
theorem dX11_canLay_4 : decode cX11_canLay 4 = .ok (.ifCond .eq 12, 3) := by decide +kernel
theorem dX11_canLay_7 : decode cX11_canLay 7 = .ok (.aload_n 0, 1) := by decide +kernel
theorem dX11_canLay_8 : decode cX11_canLay 8 = .ok (.iload_n 1, 1) := by decide +kernel
theorem dX11_canLay_9 : decode cX11_canLay 9 = .ok (.invokevirtual 120, 3) := by decide +kernel
theorem dX11_canLay_12 : decode cX11_canLay 12 = .ok (.iconst (-1), 1) := by decide +kernel
theorem dX11_canLay_13 : decode cX11_canLay 13 = .ok (.if_icmp .eq 5, 3) := by decide +kernel
theorem dX11_canLay_16 : decode cX11_canLay 16 = .ok (.iconst 0, 1) := by decide +kernel
theorem dX11_canLay_17 : decode cX11_canLay 17 = .ok (.ireturn, 1) := by decide +kernel
theorem dX11_canLay_18 : decode cX11_canLay 18 = .ok (.aload_n 0, 1) := by decide +kernel
theorem dX11_canLay_19 : decode cX11_canLay 19 = .ok (.iload_n 1, 1) := by decide +kernel
theorem dX11_canLay_20 : decode cX11_canLay 20 = .ok (.invokevirtual 144, 3) := by decide +kernel
theorem dX11_canLay_23 : decode cX11_canLay 23 = .ok (.aload_n 0, 1) := by decide +kernel
theorem dX11_canLay_24 : decode cX11_canLay 24 = .ok (.invokevirtual 148, 3) := by decide +kernel
theorem dX11_canLay_27 : decode cX11_canLay 27 = .ok (.ifCond .ne 7, 3) := by decide +kernel
theorem dX11_canLay_30 : decode cX11_canLay 30 = .ok (.iconst 1, 1) := by decide +kernel
theorem dX11_canLay_31 : decode cX11_canLay 31 = .ok (.goto 4, 3) := by decide +kernel
theorem dX11_canLay_34 : decode cX11_canLay 34 = .ok (.iconst 0, 1) := by decide +kernel
theorem dX11_canLay_35 : decode cX11_canLay 35 = .ok (.istore_n 2, 1) := by decide +kernel
theorem dX11_canLay_36 : decode cX11_canLay 36 = .ok (.iload_n 2, 1) := by decide +kernel
theorem dX11_canLay_37 : decode cX11_canLay 37 = .ok (.ifCond .ne 8, 3) := by decide +kernel
theorem dX11_canLay_40 : decode cX11_canLay 40 = .ok (.aload_n 0, 1) := by decide +kernel
theorem dX11_canLay_41 : decode cX11_canLay 41 = .ok (.iload_n 1, 1) := by decide +kernel
theorem dX11_canLay_42 : decode cX11_canLay 42 = .ok (.invokevirtual 152, 3) := by decide +kernel
theorem dX11_canLay_45 : decode cX11_canLay 45 = .ok (.iload_n 2, 1) := by decide +kernel
theorem dX11_canLay_46 : decode cX11_canLay 46 = .ok (.ireturn, 1) := by decide +kernel
theorem dX11_set_0 : decode cX11_set 0 = .ok (.aload_n 0, 1) := by decide +kernel
theorem dX11_set_1 : decode cX11_set 1 = .ok (.invokevirtual 155, 3) := by decide +kernel
theorem dX11_set_4 : decode cX11_set 4 = .ok (.iload_n 1, 1) := by decide +kernel
theorem dX11_set_5 : decode cX11_set 5 = .ok (.invokestatic 110, 3) := by decide +kernel
theorem dX11_set_8 : decode cX11_set 8 = .ok (.ifCond .eq 12, 3) := by decide +kernel
theorem dX11_set_11 : decode cX11_set 11 = .ok (.aload_n 0, 1) := by decide +kernel
theorem dX11_set_12 : decode cX11_set 12 = .ok (.getfield 34, 3) := by decide +kernel
theorem dX11_set_15 : decode cX11_set 15 = .ok (.iload_n 1, 1) := by decide +kernel
theorem dX11_set_16 : decode cX11_set 16 = .ok (.iaload, 1) := by decide +kernel
theorem dX11_set_17 : decode cX11_set 17 = .ok (.goto 4, 3) := by decide +kernel
theorem dX11_set_20 : decode cX11_set 20 = .ok (.iconst 0, 1) := by decide +kernel
theorem dX11_set_21 : decode cX11_set 21 = .ok (.istore_n 2, 1) := by decide +kernel
theorem dX11_set_22 : decode cX11_set 22 = .ok (.aload_n 0, 1) := by decide +kernel
theorem dX11_set_23 : decode cX11_set 23 = .ok (.iload_n 1, 1) := by decide +kernel
theorem dX11_set_24 : decode cX11_set 24 = .ok (.invokestatic 110, 3) := by decide +kernel
theorem dX11_set_27 : decode cX11_set 27 = .ok (.ifCond .ne 7, 3) := by decide +kernel
theorem dX11_set_30 : decode cX11_set 30 = .ok (.iconst 1, 1) := by decide +kernel
theorem dX11_set_31 : decode cX11_set 31 = .ok (.goto 16, 3) := by decide +kernel
theorem dX11_set_34 : decode cX11_set 34 = .ok (.aload_n 0, 1) := by decide +kernel
theorem dX11_set_35 : decode cX11_set 35 = .ok (.iload_n 1, 1) := by decide +kernel
theorem dX11_set_36 : decode cX11_set 36 = .ok (.invokevirtual 158, 3) := by decide +kernel
theorem dX11_set_39 : decode cX11_set 39 = .ok (.ifCond .eq 7, 3) := by decide +kernel
theorem dX11_set_42 : decode cX11_set 42 = .ok (.iconst 0, 1) := by decide +kernel
theorem dX11_set_43 : decode cX11_set 43 = .ok (.goto 4, 3) := by decide +kernel
theorem dX11_set_46 : decode cX11_set 46 = .ok (.iconst 2, 1) := by decide +kernel
theorem dX11_set_47 : decode cX11_set 47 = .ok (.invokevirtual 107, 3) := by decide +kernel
theorem dX11_set_50 : decode cX11_set 50 = .ok (.ifCond .ne 5, 3) := by decide +kernel
theorem dX11_set_53 : decode cX11_set 53 = .ok (.iconst 0, 1) := by decide +kernel
theorem dX11_set_54 : decode cX11_set 54 = .ok (.ireturn, 1) := by decide +kernel
theorem dX11_set_55 : decode cX11_set 55 = .ok (.aload_n 0, 1) := by decide +kernel
theorem dX11_set_56 : decode cX11_set 56 = .ok (.invokevirtual 155, 3) := by decide +kernel
theorem dX11_set_59 : decode cX11_set 59 = .ok (.iload_n 2, 1) := by decide +kernel
theorem dX11_set_60 : decode cX11_set 60 = .ok (.aload_n 0, 1) := by decide +kernel
theorem dX11_set_61 : decode cX11_set 61 = .ok (.getfield 34, 3) := by decide +kernel
theorem dX11_set_64 : decode cX11_set 64 = .ok (.iload_n 1, 1) := by decide +kernel
theorem dX11_set_65 : decode cX11_set 65 = .ok (.iaload, 1) := by decide +kernel
theorem dX11_set_66 : decode cX11_set 66 = .ok (.ixor, 1) := by decide +kernel
theorem dX11_set_67 : decode cX11_set 67 = .ok (.invokestatic 161, 3) := by decide +kernel
theorem dX11_set_70 : decode cX11_set 70 = .ok (.ireturn, 1) := by decide +kernel
theorem dX11_wouldMove_0 : decode cX11_wouldMove 0 = .ok (.aload_n 0, 1) := by decide +kernel
theorem dX11_wouldMove_1 : decode cX11_wouldMove 1 = .ok (.invokevirtual 164, 3) := by decide +kernel
theorem dX11_wouldMove_4 : decode cX11_wouldMove 4 = .ok (.iconst 0, 1) := by decide +kernel
theorem dX11_wouldMove_5 : decode cX11_wouldMove 5 = .ok (.istore_n 2, 1) := by decide +kernel
theorem dX11_wouldMove_6 : decode cX11_wouldMove 6 = .ok (.iload_n 2, 1) := by decide +kernel
theorem dX11_wouldMove_7 : decode cX11_wouldMove 7 = .ok (.sipush 160, 3) := by decide +kernel
theorem dX11_wouldMove_10 : decode cX11_wouldMove 10 = .ok (.if_icmp .ge 21, 3) := by decide +kernel
theorem dX11_wouldMove_13 : decode cX11_wouldMove 13 = .ok (.aload_n 0, 1) := by decide +kernel
theorem dX11_wouldMove_14 : decode cX11_wouldMove 14 = .ok (.getfield 65, 3) := by decide +kernel
theorem dX11_wouldMove_17 : decode cX11_wouldMove 17 = .ok (.iload_n 2, 1) := by decide +kernel
theorem dX11_wouldMove_18 : decode cX11_wouldMove 18 = .ok (.aload_n 0, 1) := by decide +kernel
theorem dX11_wouldMove_19 : decode cX11_wouldMove 19 = .ok (.getfield 62, 3) := by decide +kernel
theorem dX11_wouldMove_22 : decode cX11_wouldMove 22 = .ok (.iload_n 2, 1) := by decide +kernel
theorem dX11_wouldMove_23 : decode cX11_wouldMove 23 = .ok (.iaload, 1) := by decide +kernel
theorem dX11_wouldMove_24 : decode cX11_wouldMove 24 = .ok (.iastore, 1) := by decide +kernel
theorem dX11_wouldMove_25 : decode cX11_wouldMove 25 = .ok (.iinc 2 1, 3) := by decide +kernel
theorem dX11_wouldMove_28 : decode cX11_wouldMove 28 = .ok (.goto (-22), 3) := by decide +kernel
theorem dX11_wouldMove_31 : decode cX11_wouldMove 31 = .ok (.aload_n 0, 1) := by decide +kernel
theorem dX11_wouldMove_32 : decode cX11_wouldMove 32 = .ok (.iload_n 1, 1) := by decide +kernel
theorem dX11_wouldMove_33 : decode cX11_wouldMove 33 = .ok (.invokestatic 110, 3) := by decide +kernel
theorem dX11_wouldMove_36 : decode cX11_wouldMove 36 = .ok (.ifCond .ne 7, 3) := by decide +kernel
theorem dX11_wouldMove_39 : decode cX11_wouldMove 39 = .ok (.iconst 1, 1) := by decide +kernel
theorem dX11_wouldMove_40 : decode cX11_wouldMove 40 = .ok (.goto 16, 3) := by decide +kernel
theorem dX11_wouldMove_43 : decode cX11_wouldMove 43 = .ok (.aload_n 0, 1) := by decide +kernel
theorem dX11_wouldMove_44 : decode cX11_wouldMove 44 = .ok (.iload_n 1, 1) := by decide +kernel
theorem dX11_wouldMove_45 : decode cX11_wouldMove 45 = .ok (.invokevirtual 158, 3) := by decide +kernel
theorem dX11_wouldMove_48 : decode cX11_wouldMove 48 = .ok (.ifCond .eq 7, 3) := by decide +kernel
theorem dX11_wouldMove_51 : decode cX11_wouldMove 51 = .ok (.iconst 0, 1) := by decide +kernel
theorem dX11_wouldMove_52 : decode cX11_wouldMove 52 = .ok (.goto 4, 3) := by decide +kernel
theorem dX11_wouldMove_55 : decode cX11_wouldMove 55 = .ok (.iconst 2, 1) := by decide +kernel
theorem dX11_wouldMove_56 : decode cX11_wouldMove 56 = .ok (.invokevirtual 107, 3) := by decide +kernel
theorem dX11_wouldMove_59 : decode cX11_wouldMove 59 = .ok (.ifCond .ne 5, 3) := by decide +kernel
theorem dX11_wouldMove_62 : decode cX11_wouldMove 62 = .ok (.iconst 0, 1) := by decide +kernel
theorem dX11_wouldMove_63 : decode cX11_wouldMove 63 = .ok (.ireturn, 1) := by decide +kernel
theorem dX11_wouldMove_64 : decode cX11_wouldMove 64 = .ok (.aload_n 0, 1) := by decide +kernel
theorem dX11_wouldMove_65 : decode cX11_wouldMove 65 = .ok (.invokevirtual 164, 3) := by decide +kernel
theorem dX11_wouldMove_68 : decode cX11_wouldMove 68 = .ok (.aload_n 0, 1) := by decide +kernel
theorem dX11_wouldMove_69 : decode cX11_wouldMove 69 = .ok (.iload_n 1, 1) := by decide +kernel
theorem dX11_wouldMove_70 : decode cX11_wouldMove 70 = .ok (.invokevirtual 152, 3) := by decide +kernel
theorem dX11_wouldMove_73 : decode cX11_wouldMove 73 = .ok (.iconst 0, 1) := by decide +kernel
theorem dX11_wouldMove_74 : decode cX11_wouldMove 74 = .ok (.istore_n 2, 1) := by decide +kernel
theorem dX11_wouldMove_75 : decode cX11_wouldMove 75 = .ok (.iconst 0, 1) := by decide +kernel
theorem dX11_wouldMove_76 : decode cX11_wouldMove 76 = .ok (.istore_n 3, 1) := by decide +kernel
theorem dX11_wouldMove_77 : decode cX11_wouldMove 77 = .ok (.iload_n 3, 1) := by decide +kernel
theorem dX11_wouldMove_78 : decode cX11_wouldMove 78 = .ok (.bipush 20, 2) := by decide +kernel
theorem dX11_wouldMove_80 : decode cX11_wouldMove 80 = .ok (.if_icmp .ge 80, 3) := by decide +kernel
theorem dX11_wouldMove_83 : decode cX11_wouldMove 83 = .ok (.iconst 0, 1) := by decide +kernel
theorem dX11_wouldMove_84 : decode cX11_wouldMove 84 = .ok (.istore 4, 2) := by decide +kernel
theorem dX11_wouldMove_86 : decode cX11_wouldMove 86 = .ok (.iconst 0, 1) := by decide +kernel
theorem dX11_wouldMove_87 : decode cX11_wouldMove 87 = .ok (.istore 5, 2) := by decide +kernel
theorem dX11_wouldMove_89 : decode cX11_wouldMove 89 = .ok (.iload 5, 2) := by decide +kernel
theorem dX11_wouldMove_91 : decode cX11_wouldMove 91 = .ok (.bipush 8, 2) := by decide +kernel
theorem dX11_wouldMove_93 : decode cX11_wouldMove 93 = .ok (.if_icmp .ge 48, 3) := by decide +kernel
theorem dX11_wouldMove_96 : decode cX11_wouldMove 96 = .ok (.iload 4, 2) := by decide +kernel
theorem dX11_wouldMove_98 : decode cX11_wouldMove 98 = .ok (.ifCond .ne 30, 3) := by decide +kernel
theorem dX11_wouldMove_101 : decode cX11_wouldMove 101 = .ok (.aload_n 0, 1) := by decide +kernel
theorem dX11_wouldMove_102 : decode cX11_wouldMove 102 = .ok (.getfield 62, 3) := by decide +kernel
theorem dX11_wouldMove_105 : decode cX11_wouldMove 105 = .ok (.bipush 8, 2) := by decide +kernel
theorem dX11_wouldMove_107 : decode cX11_wouldMove 107 = .ok (.iload_n 3, 1) := by decide +kernel
theorem dX11_wouldMove_108 : decode cX11_wouldMove 108 = .ok (.imul, 1) := by decide +kernel
theorem dX11_wouldMove_109 : decode cX11_wouldMove 109 = .ok (.iload 5, 2) := by decide +kernel
theorem dX11_wouldMove_111 : decode cX11_wouldMove 111 = .ok (.iadd, 1) := by decide +kernel
theorem dX11_wouldMove_112 : decode cX11_wouldMove 112 = .ok (.iaload, 1) := by decide +kernel
theorem dX11_wouldMove_113 : decode cX11_wouldMove 113 = .ok (.aload_n 0, 1) := by decide +kernel
theorem dX11_wouldMove_114 : decode cX11_wouldMove 114 = .ok (.getfield 65, 3) := by decide +kernel
theorem dX11_wouldMove_117 : decode cX11_wouldMove 117 = .ok (.bipush 8, 2) := by decide +kernel
theorem dX11_wouldMove_119 : decode cX11_wouldMove 119 = .ok (.iload_n 3, 1) := by decide +kernel
theorem dX11_wouldMove_120 : decode cX11_wouldMove 120 = .ok (.imul, 1) := by decide +kernel
theorem dX11_wouldMove_121 : decode cX11_wouldMove 121 = .ok (.iload 5, 2) := by decide +kernel
theorem dX11_wouldMove_123 : decode cX11_wouldMove 123 = .ok (.iadd, 1) := by decide +kernel
theorem dX11_wouldMove_124 : decode cX11_wouldMove 124 = .ok (.iaload, 1) := by decide +kernel
theorem dX11_wouldMove_125 : decode cX11_wouldMove 125 = .ok (.if_icmp .eq 7, 3) := by decide +kernel
theorem dX11_wouldMove_128 : decode cX11_wouldMove 128 = .ok (.iconst 1, 1) := by decide +kernel
theorem dX11_wouldMove_129 : decode cX11_wouldMove 129 = .ok (.goto 4, 3) := by decide +kernel
theorem dX11_wouldMove_132 : decode cX11_wouldMove 132 = .ok (.iconst 0, 1) := by decide +kernel
theorem dX11_wouldMove_133 : decode cX11_wouldMove 133 = .ok (.istore 4, 2) := by decide +kernel
theorem dX11_wouldMove_135 : decode cX11_wouldMove 135 = .ok (.iinc 5 1, 3) := by decide +kernel
theorem dX11_wouldMove_138 : decode cX11_wouldMove 138 = .ok (.goto (-49), 3) := by decide +kernel
theorem dX11_wouldMove_141 : decode cX11_wouldMove 141 = .ok (.iload_n 2, 1) := by decide +kernel
theorem dX11_wouldMove_142 : decode cX11_wouldMove 142 = .ok (.iload 4, 2) := by decide +kernel
theorem dX11_wouldMove_144 : decode cX11_wouldMove 144 = .ok (.ifCond .eq 7, 3) := by decide +kernel
theorem dX11_wouldMove_147 : decode cX11_wouldMove 147 = .ok (.iconst 1, 1) := by decide +kernel
theorem dX11_wouldMove_148 : decode cX11_wouldMove 148 = .ok (.goto 4, 3) := by decide +kernel
theorem dX11_wouldMove_151 : decode cX11_wouldMove 151 = .ok (.iconst 0, 1) := by decide +kernel
theorem dX11_wouldMove_152 : decode cX11_wouldMove 152 = .ok (.iadd, 1) := by decide +kernel
theorem dX11_wouldMove_153 : decode cX11_wouldMove 153 = .ok (.istore_n 2, 1) := by decide +kernel
theorem dX11_wouldMove_154 : decode cX11_wouldMove 154 = .ok (.iinc 3 1, 3) := by decide +kernel
theorem dX11_wouldMove_157 : decode cX11_wouldMove 157 = .ok (.goto (-80), 3) := by decide +kernel
theorem dX11_wouldMove_160 : decode cX11_wouldMove 160 = .ok (.iload_n 2, 1) := by decide +kernel
theorem dX11_wouldMove_161 : decode cX11_wouldMove 161 = .ok (.ireturn, 1) := by decide +kernel
theorem dX11_isIn_0 : decode cX11_isIn 0 = .ok (.aload_n 0, 1) := by decide +kernel
theorem dX11_isIn_1 : decode cX11_isIn 1 = .ok (.iload_n 1, 1) := by decide +kernel
theorem dX11_isIn_2 : decode cX11_isIn 2 = .ok (.invokestatic 110, 3) := by decide +kernel
theorem dX11_isIn_5 : decode cX11_isIn 5 = .ok (.ifCond .eq 14, 3) := by decide +kernel
theorem dX11_isIn_8 : decode cX11_isIn 8 = .ok (.iload_n 2, 1) := by decide +kernel
theorem dX11_isIn_9 : decode cX11_isIn 9 = .ok (.invokestatic 103, 3) := by decide +kernel
theorem dX11_isIn_12 : decode cX11_isIn 12 = .ok (.ifCond .eq 7, 3) := by decide +kernel
theorem dX11_isIn_15 : decode cX11_isIn 15 = .ok (.iconst 0, 1) := by decide +kernel
theorem dX11_isIn_16 : decode cX11_isIn 16 = .ok (.goto 4, 3) := by decide +kernel
theorem dX11_isIn_19 : decode cX11_isIn 19 = .ok (.iconst 1, 1) := by decide +kernel
theorem dX11_isIn_20 : decode cX11_isIn 20 = .ok (.invokevirtual 107, 3) := by decide +kernel
theorem dX11_isIn_23 : decode cX11_isIn 23 = .ok (.ifCond .ne 5, 3) := by decide +kernel
theorem dX11_isIn_26 : decode cX11_isIn 26 = .ok (.iconst 0, 1) := by decide +kernel
theorem dX11_isIn_27 : decode cX11_isIn 27 = .ok (.ireturn, 1) := by decide +kernel
theorem dX11_isIn_28 : decode cX11_isIn 28 = .ok (.aload_n 0, 1) := by decide +kernel
theorem dX11_isIn_29 : decode cX11_isIn 29 = .ok (.invokevirtual 155, 3) := by decide +kernel
theorem dX11_isIn_32 : decode cX11_isIn 32 = .ok (.aload_n 0, 1) := by decide +kernel
theorem dX11_isIn_33 : decode cX11_isIn 33 = .ok (.getfield 34, 3) := by decide +kernel
theorem dX11_isIn_36 : decode cX11_isIn 36 = .ok (.iload_n 1, 1) := by decide +kernel
theorem dX11_isIn_37 : decode cX11_isIn 37 = .ok (.iaload, 1) := by decide +kernel
theorem dX11_isIn_38 : decode cX11_isIn 38 = .ok (.iload_n 2, 1) := by decide +kernel
theorem dX11_isIn_39 : decode cX11_isIn 39 = .ok (.ishr, 1) := by decide +kernel
theorem dX11_isIn_40 : decode cX11_isIn 40 = .ok (.iconst 1, 1) := by decide +kernel
theorem dX11_isIn_41 : decode cX11_isIn 41 = .ok (.iand, 1) := by decide +kernel
theorem dX11_isIn_42 : decode cX11_isIn 42 = .ok (.iconst 1, 1) := by decide +kernel
theorem dX11_isIn_43 : decode cX11_isIn 43 = .ok (.if_icmp .ne 7, 3) := by decide +kernel
theorem dX11_isIn_46 : decode cX11_isIn 46 = .ok (.iconst 1, 1) := by decide +kernel
theorem dX11_isIn_47 : decode cX11_isIn 47 = .ok (.goto 4, 3) := by decide +kernel
theorem dX11_isIn_50 : decode cX11_isIn 50 = .ok (.iconst 0, 1) := by decide +kernel
theorem dX11_isIn_51 : decode cX11_isIn 51 = .ok (.ireturn, 1) := by decide +kernel
theorem dX11_addRule_0 : decode cX11_addRule 0 = .ok (.iload_n 1, 1) := by decide +kernel
theorem dX11_addRule_1 : decode cX11_addRule 1 = .ok (.invokestatic 167, 3) := by decide +kernel
theorem dX11_addRule_4 : decode cX11_addRule 4 = .ok (.ifCond .eq 25, 3) := by decide +kernel
theorem dX11_addRule_7 : decode cX11_addRule 7 = .ok (.iload_n 3, 1) := by decide +kernel
theorem dX11_addRule_8 : decode cX11_addRule 8 = .ok (.invokestatic 110, 3) := by decide +kernel
theorem dX11_addRule_11 : decode cX11_addRule 11 = .ok (.ifCond .eq 18, 3) := by decide +kernel
theorem dX11_addRule_14 : decode cX11_addRule 14 = .ok (.iload 4, 2) := by decide +kernel
theorem dX11_addRule_16 : decode cX11_addRule 16 = .ok (.iconst 0, 1) := by decide +kernel
theorem dX11_addRule_17 : decode cX11_addRule 17 = .ok (.bipush 9, 2) := by decide +kernel
theorem dX11_addRule_19 : decode cX11_addRule 19 = .ok (.invokestatic 99, 3) := by decide +kernel
theorem dX11_addRule_22 : decode cX11_addRule 22 = .ok (.ifCond .eq 7, 3) := by decide +kernel
theorem dX11_addRule_25 : decode cX11_addRule 25 = .ok (.iconst 1, 1) := by decide +kernel
theorem dX11_addRule_26 : decode cX11_addRule 26 = .ok (.goto 4, 3) := by decide +kernel
theorem dX11_addRule_29 : decode cX11_addRule 29 = .ok (.iconst 0, 1) := by decide +kernel
theorem dX11_addRule_30 : decode cX11_addRule 30 = .ok (.istore 5, 2) := by decide +kernel
theorem dX11_addRule_32 : decode cX11_addRule 32 = .ok (.iload 5, 2) := by decide +kernel
theorem dX11_addRule_34 : decode cX11_addRule 34 = .ok (.ifCond .eq 21, 3) := by decide +kernel
theorem dX11_addRule_37 : decode cX11_addRule 37 = .ok (.iload_n 2, 1) := by decide +kernel
theorem dX11_addRule_38 : decode cX11_addRule 38 = .ok (.iconst 0, 1) := by decide +kernel
theorem dX11_addRule_39 : decode cX11_addRule 39 = .ok (.aload_n 0, 1) := by decide +kernel
theorem dX11_addRule_40 : decode cX11_addRule 40 = .ok (.getfield 50, 3) := by decide +kernel
theorem dX11_addRule_43 : decode cX11_addRule 43 = .ok (.iload_n 1, 1) := by decide +kernel
theorem dX11_addRule_44 : decode cX11_addRule 44 = .ok (.iaload, 1) := by decide +kernel
theorem dX11_addRule_45 : decode cX11_addRule 45 = .ok (.invokestatic 99, 3) := by decide +kernel
theorem dX11_addRule_48 : decode cX11_addRule 48 = .ok (.ifCond .eq 7, 3) := by decide +kernel
theorem dX11_addRule_51 : decode cX11_addRule 51 = .ok (.iconst 1, 1) := by decide +kernel
theorem dX11_addRule_52 : decode cX11_addRule 52 = .ok (.goto 4, 3) := by decide +kernel
theorem dX11_addRule_55 : decode cX11_addRule 55 = .ok (.iconst 0, 1) := by decide +kernel
theorem dX11_addRule_56 : decode cX11_addRule 56 = .ok (.istore 6, 2) := by decide +kernel
theorem dX11_addRule_58 : decode cX11_addRule 58 = .ok (.aload_n 0, 1) := by decide +kernel
theorem dX11_addRule_59 : decode cX11_addRule 59 = .ok (.iload 5, 2) := by decide +kernel
theorem dX11_addRule_61 : decode cX11_addRule 61 = .ok (.ifCond .ne 7, 3) := by decide +kernel
theorem dX11_addRule_64 : decode cX11_addRule 64 = .ok (.iconst 1, 1) := by decide +kernel
theorem dX11_addRule_65 : decode cX11_addRule 65 = .ok (.goto 27, 3) := by decide +kernel
theorem dX11_addRule_68 : decode cX11_addRule 68 = .ok (.iload 6, 2) := by decide +kernel
theorem dX11_addRule_70 : decode cX11_addRule 70 = .ok (.ifCond .ne 7, 3) := by decide +kernel
theorem dX11_addRule_73 : decode cX11_addRule 73 = .ok (.iconst 2, 1) := by decide +kernel
theorem dX11_addRule_74 : decode cX11_addRule 74 = .ok (.goto 18, 3) := by decide +kernel
theorem dX11_addRule_77 : decode cX11_addRule 77 = .ok (.aload_n 0, 1) := by decide +kernel
theorem dX11_addRule_78 : decode cX11_addRule 78 = .ok (.getfield 50, 3) := by decide +kernel
theorem dX11_addRule_81 : decode cX11_addRule 81 = .ok (.iload_n 1, 1) := by decide +kernel
theorem dX11_addRule_82 : decode cX11_addRule 82 = .ok (.iaload, 1) := by decide +kernel
theorem dX11_addRule_83 : decode cX11_addRule 83 = .ok (.iconst 5, 1) := by decide +kernel
theorem dX11_addRule_84 : decode cX11_addRule 84 = .ok (.if_icmp .ne 7, 3) := by decide +kernel
theorem dX11_addRule_87 : decode cX11_addRule 87 = .ok (.iconst 3, 1) := by decide +kernel
theorem dX11_addRule_88 : decode cX11_addRule 88 = .ok (.goto 4, 3) := by decide +kernel
theorem dX11_addRule_91 : decode cX11_addRule 91 = .ok (.iconst 0, 1) := by decide +kernel
theorem dX11_addRule_92 : decode cX11_addRule 92 = .ok (.invokevirtual 107, 3) := by decide +kernel
theorem dX11_addRule_95 : decode cX11_addRule 95 = .ok (.ifCond .ne 5, 3) := by decide +kernel
theorem dX11_addRule_98 : decode cX11_addRule 98 = .ok (.iconst 0, 1) := by decide +kernel
theorem dX11_addRule_99 : decode cX11_addRule 99 = .ok (.ireturn, 1) := by decide +kernel
theorem dX11_addRule_100 : decode cX11_addRule 100 = .ok (.aload_n 0, 1) := by decide +kernel
theorem dX11_addRule_101 : decode cX11_addRule 101 = .ok (.getfield 50, 3) := by decide +kernel
theorem dX11_addRule_104 : decode cX11_addRule 104 = .ok (.iload_n 1, 1) := by decide +kernel
theorem dX11_addRule_105 : decode cX11_addRule 105 = .ok (.iaload, 1) := by decide +kernel
theorem dX11_addRule_106 : decode cX11_addRule 106 = .ok (.istore 7, 2) := by decide +kernel
theorem dX11_addRule_108 : decode cX11_addRule 108 = .ok (.iload 7, 2) := by decide +kernel
theorem dX11_addRule_110 : decode cX11_addRule 110 = .ok (.iload_n 2, 1) := by decide +kernel
theorem dX11_addRule_111 : decode cX11_addRule 111 = .ok (.if_icmp .le 57, 3) := by decide +kernel
theorem dX11_addRule_114 : decode cX11_addRule 114 = .ok (.aload_n 0, 1) := by decide +kernel
theorem dX11_addRule_115 : decode cX11_addRule 115 = .ok (.getfield 53, 3) := by decide +kernel
theorem dX11_addRule_118 : decode cX11_addRule 118 = .ok (.iconst 5, 1) := by decide +kernel
theorem dX11_addRule_119 : decode cX11_addRule 119 = .ok (.iload_n 1, 1) := by decide +kernel
theorem dX11_addRule_120 : decode cX11_addRule 120 = .ok (.imul, 1) := by decide +kernel
theorem dX11_addRule_121 : decode cX11_addRule 121 = .ok (.iload 7, 2) := by decide +kernel
theorem dX11_addRule_123 : decode cX11_addRule 123 = .ok (.iadd, 1) := by decide +kernel
theorem dX11_addRule_124 : decode cX11_addRule 124 = .ok (.aload_n 0, 1) := by decide +kernel
theorem dX11_addRule_125 : decode cX11_addRule 125 = .ok (.getfield 53, 3) := by decide +kernel
theorem dX11_addRule_128 : decode cX11_addRule 128 = .ok (.iconst 5, 1) := by decide +kernel
theorem dX11_addRule_129 : decode cX11_addRule 129 = .ok (.iload_n 1, 1) := by decide +kernel
theorem dX11_addRule_130 : decode cX11_addRule 130 = .ok (.imul, 1) := by decide +kernel
theorem dX11_addRule_131 : decode cX11_addRule 131 = .ok (.iload 7, 2) := by decide +kernel
theorem dX11_addRule_133 : decode cX11_addRule 133 = .ok (.iadd, 1) := by decide +kernel
theorem dX11_addRule_134 : decode cX11_addRule 134 = .ok (.iconst 1, 1) := by decide +kernel
theorem dX11_addRule_135 : decode cX11_addRule 135 = .ok (.isub, 1) := by decide +kernel
theorem dX11_addRule_136 : decode cX11_addRule 136 = .ok (.iaload, 1) := by decide +kernel
theorem dX11_addRule_137 : decode cX11_addRule 137 = .ok (.iastore, 1) := by decide +kernel
theorem dX11_addRule_138 : decode cX11_addRule 138 = .ok (.aload_n 0, 1) := by decide +kernel
theorem dX11_addRule_139 : decode cX11_addRule 139 = .ok (.getfield 56, 3) := by decide +kernel
theorem dX11_addRule_142 : decode cX11_addRule 142 = .ok (.iconst 5, 1) := by decide +kernel
theorem dX11_addRule_143 : decode cX11_addRule 143 = .ok (.iload_n 1, 1) := by decide +kernel
theorem dX11_addRule_144 : decode cX11_addRule 144 = .ok (.imul, 1) := by decide +kernel
theorem dX11_addRule_145 : decode cX11_addRule 145 = .ok (.iload 7, 2) := by decide +kernel
theorem dX11_addRule_147 : decode cX11_addRule 147 = .ok (.iadd, 1) := by decide +kernel
theorem dX11_addRule_148 : decode cX11_addRule 148 = .ok (.aload_n 0, 1) := by decide +kernel
theorem dX11_addRule_149 : decode cX11_addRule 149 = .ok (.getfield 56, 3) := by decide +kernel
theorem dX11_addRule_152 : decode cX11_addRule 152 = .ok (.iconst 5, 1) := by decide +kernel
theorem dX11_addRule_153 : decode cX11_addRule 153 = .ok (.iload_n 1, 1) := by decide +kernel
theorem dX11_addRule_154 : decode cX11_addRule 154 = .ok (.imul, 1) := by decide +kernel
theorem dX11_addRule_155 : decode cX11_addRule 155 = .ok (.iload 7, 2) := by decide +kernel
theorem dX11_addRule_157 : decode cX11_addRule 157 = .ok (.iadd, 1) := by decide +kernel
theorem dX11_addRule_158 : decode cX11_addRule 158 = .ok (.iconst 1, 1) := by decide +kernel
theorem dX11_addRule_159 : decode cX11_addRule 159 = .ok (.isub, 1) := by decide +kernel
theorem dX11_addRule_160 : decode cX11_addRule 160 = .ok (.iaload, 1) := by decide +kernel
theorem dX11_addRule_161 : decode cX11_addRule 161 = .ok (.iastore, 1) := by decide +kernel
theorem dX11_addRule_162 : decode cX11_addRule 162 = .ok (.iinc 7 (-1), 3) := by decide +kernel
theorem dX11_addRule_165 : decode cX11_addRule 165 = .ok (.goto (-57), 3) := by decide +kernel
theorem dX11_addRule_168 : decode cX11_addRule 168 = .ok (.aload_n 0, 1) := by decide +kernel
theorem dX11_addRule_169 : decode cX11_addRule 169 = .ok (.getfield 53, 3) := by decide +kernel
theorem dX11_addRule_172 : decode cX11_addRule 172 = .ok (.iconst 5, 1) := by decide +kernel
theorem dX11_addRule_173 : decode cX11_addRule 173 = .ok (.iload_n 1, 1) := by decide +kernel
theorem dX11_addRule_174 : decode cX11_addRule 174 = .ok (.imul, 1) := by decide +kernel
theorem dX11_addRule_175 : decode cX11_addRule 175 = .ok (.iload_n 2, 1) := by decide +kernel
theorem dX11_addRule_176 : decode cX11_addRule 176 = .ok (.iadd, 1) := by decide +kernel
theorem dX11_addRule_177 : decode cX11_addRule 177 = .ok (.iload_n 3, 1) := by decide +kernel
theorem dX11_addRule_178 : decode cX11_addRule 178 = .ok (.iastore, 1) := by decide +kernel
theorem dX11_addRule_179 : decode cX11_addRule 179 = .ok (.aload_n 0, 1) := by decide +kernel
theorem dX11_addRule_180 : decode cX11_addRule 180 = .ok (.getfield 56, 3) := by decide +kernel
theorem dX11_addRule_183 : decode cX11_addRule 183 = .ok (.iconst 5, 1) := by decide +kernel
theorem dX11_addRule_184 : decode cX11_addRule 184 = .ok (.iload_n 1, 1) := by decide +kernel
theorem dX11_addRule_185 : decode cX11_addRule 185 = .ok (.imul, 1) := by decide +kernel
theorem dX11_addRule_186 : decode cX11_addRule 186 = .ok (.iload_n 2, 1) := by decide +kernel
theorem dX11_addRule_187 : decode cX11_addRule 187 = .ok (.iadd, 1) := by decide +kernel
theorem dX11_addRule_188 : decode cX11_addRule 188 = .ok (.iload 4, 2) := by decide +kernel
theorem dX11_addRule_190 : decode cX11_addRule 190 = .ok (.iastore, 1) := by decide +kernel
theorem dX11_addRule_191 : decode cX11_addRule 191 = .ok (.aload_n 0, 1) := by decide +kernel
theorem dX11_addRule_192 : decode cX11_addRule 192 = .ok (.getfield 50, 3) := by decide +kernel
theorem dX11_addRule_195 : decode cX11_addRule 195 = .ok (.iload_n 1, 1) := by decide +kernel
theorem dX11_addRule_196 : decode cX11_addRule 196 = .ok (.dup2, 1) := by decide +kernel
theorem dX11_addRule_197 : decode cX11_addRule 197 = .ok (.iaload, 1) := by decide +kernel
theorem dX11_addRule_198 : decode cX11_addRule 198 = .ok (.iconst 1, 1) := by decide +kernel
theorem dX11_addRule_199 : decode cX11_addRule 199 = .ok (.iadd, 1) := by decide +kernel
theorem dX11_addRule_200 : decode cX11_addRule 200 = .ok (.iastore, 1) := by decide +kernel
theorem dX11_addRule_201 : decode cX11_addRule 201 = .ok (.aload_n 0, 1) := by decide +kernel
theorem dX11_addRule_202 : decode cX11_addRule 202 = .ok (.getfield 50, 3) := by decide +kernel
theorem dX11_addRule_205 : decode cX11_addRule 205 = .ok (.iload_n 1, 1) := by decide +kernel
theorem dX11_addRule_206 : decode cX11_addRule 206 = .ok (.iaload, 1) := by decide +kernel
theorem dX11_addRule_207 : decode cX11_addRule 207 = .ok (.ireturn, 1) := by decide +kernel
theorem dX11_removeRule_0 : decode cX11_removeRule 0 = .ok (.iload_n 1, 1) := by decide +kernel
theorem dX11_removeRule_1 : decode cX11_removeRule 1 = .ok (.invokestatic 167, 3) := by decide +kernel
theorem dX11_removeRule_4 : decode cX11_removeRule 4 = .ok (.istore_n 3, 1) := by decide +kernel
theorem dX11_removeRule_5 : decode cX11_removeRule 5 = .ok (.aload_n 0, 1) := by decide +kernel
theorem dX11_removeRule_6 : decode cX11_removeRule 6 = .ok (.iload_n 3, 1) := by decide +kernel
theorem dX11_removeRule_7 : decode cX11_removeRule 7 = .ok (.ifCond .ne 7, 3) := by decide +kernel
theorem dX11_removeRule_10 : decode cX11_removeRule 10 = .ok (.iconst 1, 1) := by decide +kernel
theorem dX11_removeRule_11 : decode cX11_removeRule 11 = .ok (.goto 24, 3) := by decide +kernel
theorem dX11_removeRule_14 : decode cX11_removeRule 14 = .ok (.iload_n 2, 1) := by decide +kernel
theorem dX11_removeRule_15 : decode cX11_removeRule 15 = .ok (.iconst 0, 1) := by decide +kernel
theorem dX11_removeRule_16 : decode cX11_removeRule 16 = .ok (.aload_n 0, 1) := by decide +kernel
theorem dX11_removeRule_17 : decode cX11_removeRule 17 = .ok (.getfield 50, 3) := by decide +kernel
theorem dX11_removeRule_20 : decode cX11_removeRule 20 = .ok (.iload_n 1, 1) := by decide +kernel
theorem dX11_removeRule_21 : decode cX11_removeRule 21 = .ok (.iaload, 1) := by decide +kernel
theorem dX11_removeRule_22 : decode cX11_removeRule 22 = .ok (.iconst 1, 1) := by decide +kernel
theorem dX11_removeRule_23 : decode cX11_removeRule 23 = .ok (.isub, 1) := by decide +kernel
theorem dX11_removeRule_24 : decode cX11_removeRule 24 = .ok (.invokestatic 99, 3) := by decide +kernel
theorem dX11_removeRule_27 : decode cX11_removeRule 27 = .ok (.ifCond .eq 7, 3) := by decide +kernel
theorem dX11_removeRule_30 : decode cX11_removeRule 30 = .ok (.iconst 0, 1) := by decide +kernel
theorem dX11_removeRule_31 : decode cX11_removeRule 31 = .ok (.goto 4, 3) := by decide +kernel
theorem dX11_removeRule_34 : decode cX11_removeRule 34 = .ok (.iconst 2, 1) := by decide +kernel
theorem dX11_removeRule_35 : decode cX11_removeRule 35 = .ok (.invokevirtual 107, 3) := by decide +kernel
theorem dX11_removeRule_38 : decode cX11_removeRule 38 = .ok (.ifCond .ne 5, 3) := by decide +kernel
theorem dX11_removeRule_41 : decode cX11_removeRule 41 = .ok (.iconst 0, 1) := by decide +kernel
theorem dX11_removeRule_42 : decode cX11_removeRule 42 = .ok (.ireturn, 1) := by decide +kernel
theorem dX11_removeRule_43 : decode cX11_removeRule 43 = .ok (.aload_n 0, 1) := by decide +kernel
theorem dX11_removeRule_44 : decode cX11_removeRule 44 = .ok (.getfield 56, 3) := by decide +kernel
theorem dX11_removeRule_47 : decode cX11_removeRule 47 = .ok (.iconst 5, 1) := by decide +kernel
theorem dX11_removeRule_48 : decode cX11_removeRule 48 = .ok (.iload_n 1, 1) := by decide +kernel
theorem dX11_removeRule_49 : decode cX11_removeRule 49 = .ok (.imul, 1) := by decide +kernel
theorem dX11_removeRule_50 : decode cX11_removeRule 50 = .ok (.iload_n 2, 1) := by decide +kernel
theorem dX11_removeRule_51 : decode cX11_removeRule 51 = .ok (.iadd, 1) := by decide +kernel
theorem dX11_removeRule_52 : decode cX11_removeRule 52 = .ok (.iaload, 1) := by decide +kernel
theorem dX11_removeRule_53 : decode cX11_removeRule 53 = .ok (.istore 4, 2) := by decide +kernel
theorem dX11_removeRule_55 : decode cX11_removeRule 55 = .ok (.aload_n 0, 1) := by decide +kernel
theorem dX11_removeRule_56 : decode cX11_removeRule 56 = .ok (.getfield 50, 3) := by decide +kernel
theorem dX11_removeRule_59 : decode cX11_removeRule 59 = .ok (.iload_n 1, 1) := by decide +kernel
theorem dX11_removeRule_60 : decode cX11_removeRule 60 = .ok (.dup2, 1) := by decide +kernel
theorem dX11_removeRule_61 : decode cX11_removeRule 61 = .ok (.iaload, 1) := by decide +kernel
theorem dX11_removeRule_62 : decode cX11_removeRule 62 = .ok (.iconst 1, 1) := by decide +kernel
theorem dX11_removeRule_63 : decode cX11_removeRule 63 = .ok (.isub, 1) := by decide +kernel
theorem dX11_removeRule_64 : decode cX11_removeRule 64 = .ok (.iastore, 1) := by decide +kernel
theorem dX11_removeRule_65 : decode cX11_removeRule 65 = .ok (.iload_n 2, 1) := by decide +kernel
theorem dX11_removeRule_66 : decode cX11_removeRule 66 = .ok (.istore 5, 2) := by decide +kernel
theorem dX11_removeRule_68 : decode cX11_removeRule 68 = .ok (.iload 5, 2) := by decide +kernel
theorem dX11_removeRule_70 : decode cX11_removeRule 70 = .ok (.aload_n 0, 1) := by decide +kernel
theorem dX11_removeRule_71 : decode cX11_removeRule 71 = .ok (.getfield 50, 3) := by decide +kernel
theorem dX11_removeRule_74 : decode cX11_removeRule 74 = .ok (.iload_n 1, 1) := by decide +kernel
theorem dX11_removeRule_75 : decode cX11_removeRule 75 = .ok (.iaload, 1) := by decide +kernel
theorem dX11_removeRule_76 : decode cX11_removeRule 76 = .ok (.if_icmp .ge 57, 3) := by decide +kernel
theorem dX11_removeRule_79 : decode cX11_removeRule 79 = .ok (.aload_n 0, 1) := by decide +kernel
theorem dX11_removeRule_80 : decode cX11_removeRule 80 = .ok (.getfield 53, 3) := by decide +kernel
theorem dX11_removeRule_83 : decode cX11_removeRule 83 = .ok (.iconst 5, 1) := by decide +kernel
theorem dX11_removeRule_84 : decode cX11_removeRule 84 = .ok (.iload_n 1, 1) := by decide +kernel
theorem dX11_removeRule_85 : decode cX11_removeRule 85 = .ok (.imul, 1) := by decide +kernel
theorem dX11_removeRule_86 : decode cX11_removeRule 86 = .ok (.iload 5, 2) := by decide +kernel
theorem dX11_removeRule_88 : decode cX11_removeRule 88 = .ok (.iadd, 1) := by decide +kernel
theorem dX11_removeRule_89 : decode cX11_removeRule 89 = .ok (.aload_n 0, 1) := by decide +kernel
theorem dX11_removeRule_90 : decode cX11_removeRule 90 = .ok (.getfield 53, 3) := by decide +kernel
theorem dX11_removeRule_93 : decode cX11_removeRule 93 = .ok (.iconst 5, 1) := by decide +kernel
theorem dX11_removeRule_94 : decode cX11_removeRule 94 = .ok (.iload_n 1, 1) := by decide +kernel
theorem dX11_removeRule_95 : decode cX11_removeRule 95 = .ok (.imul, 1) := by decide +kernel
theorem dX11_removeRule_96 : decode cX11_removeRule 96 = .ok (.iload 5, 2) := by decide +kernel
theorem dX11_removeRule_98 : decode cX11_removeRule 98 = .ok (.iadd, 1) := by decide +kernel
theorem dX11_removeRule_99 : decode cX11_removeRule 99 = .ok (.iconst 1, 1) := by decide +kernel
theorem dX11_removeRule_100 : decode cX11_removeRule 100 = .ok (.iadd, 1) := by decide +kernel
theorem dX11_removeRule_101 : decode cX11_removeRule 101 = .ok (.iaload, 1) := by decide +kernel
theorem dX11_removeRule_102 : decode cX11_removeRule 102 = .ok (.iastore, 1) := by decide +kernel
theorem dX11_removeRule_103 : decode cX11_removeRule 103 = .ok (.aload_n 0, 1) := by decide +kernel
theorem dX11_removeRule_104 : decode cX11_removeRule 104 = .ok (.getfield 56, 3) := by decide +kernel
theorem dX11_removeRule_107 : decode cX11_removeRule 107 = .ok (.iconst 5, 1) := by decide +kernel
theorem dX11_removeRule_108 : decode cX11_removeRule 108 = .ok (.iload_n 1, 1) := by decide +kernel
theorem dX11_removeRule_109 : decode cX11_removeRule 109 = .ok (.imul, 1) := by decide +kernel
theorem dX11_removeRule_110 : decode cX11_removeRule 110 = .ok (.iload 5, 2) := by decide +kernel
theorem dX11_removeRule_112 : decode cX11_removeRule 112 = .ok (.iadd, 1) := by decide +kernel
theorem dX11_removeRule_113 : decode cX11_removeRule 113 = .ok (.aload_n 0, 1) := by decide +kernel
theorem dX11_removeRule_114 : decode cX11_removeRule 114 = .ok (.getfield 56, 3) := by decide +kernel
theorem dX11_removeRule_117 : decode cX11_removeRule 117 = .ok (.iconst 5, 1) := by decide +kernel
theorem dX11_removeRule_118 : decode cX11_removeRule 118 = .ok (.iload_n 1, 1) := by decide +kernel
theorem dX11_removeRule_119 : decode cX11_removeRule 119 = .ok (.imul, 1) := by decide +kernel
theorem dX11_removeRule_120 : decode cX11_removeRule 120 = .ok (.iload 5, 2) := by decide +kernel
theorem dX11_removeRule_122 : decode cX11_removeRule 122 = .ok (.iadd, 1) := by decide +kernel
theorem dX11_removeRule_123 : decode cX11_removeRule 123 = .ok (.iconst 1, 1) := by decide +kernel
theorem dX11_removeRule_124 : decode cX11_removeRule 124 = .ok (.iadd, 1) := by decide +kernel
theorem dX11_removeRule_125 : decode cX11_removeRule 125 = .ok (.iaload, 1) := by decide +kernel
theorem dX11_removeRule_126 : decode cX11_removeRule 126 = .ok (.iastore, 1) := by decide +kernel
theorem dX11_removeRule_127 : decode cX11_removeRule 127 = .ok (.iinc 5 1, 3) := by decide +kernel
theorem dX11_removeRule_130 : decode cX11_removeRule 130 = .ok (.goto (-62), 3) := by decide +kernel
theorem dX11_removeRule_133 : decode cX11_removeRule 133 = .ok (.iload 4, 2) := by decide +kernel
theorem dX11_removeRule_135 : decode cX11_removeRule 135 = .ok (.ireturn, 1) := by decide +kernel
theorem dX11_rules_0 : decode cX11_rules 0 = .ok (.aload_n 0, 1) := by decide +kernel
theorem dX11_rules_1 : decode cX11_rules 1 = .ok (.iload_n 1, 1) := by decide +kernel
theorem dX11_rules_2 : decode cX11_rules 2 = .ok (.invokestatic 167, 3) := by decide +kernel
theorem dX11_rules_5 : decode cX11_rules 5 = .ok (.ifCond .eq 7, 3) := by decide +kernel
theorem dX11_rules_8 : decode cX11_rules 8 = .ok (.iconst 0, 1) := by decide +kernel
theorem dX11_rules_9 : decode cX11_rules 9 = .ok (.goto 4, 3) := by decide +kernel
theorem dX11_rules_12 : decode cX11_rules 12 = .ok (.iconst 1, 1) := by decide +kernel
theorem dX11_rules_13 : decode cX11_rules 13 = .ok (.invokevirtual 107, 3) := by decide +kernel
theorem dX11_rules_16 : decode cX11_rules 16 = .ok (.ifCond .eq 12, 3) := by decide +kernel
theorem dX11_rules_19 : decode cX11_rules 19 = .ok (.aload_n 0, 1) := by decide +kernel
theorem dX11_rules_20 : decode cX11_rules 20 = .ok (.getfield 50, 3) := by decide +kernel
theorem dX11_rules_23 : decode cX11_rules 23 = .ok (.iload_n 1, 1) := by decide +kernel
theorem dX11_rules_24 : decode cX11_rules 24 = .ok (.iaload, 1) := by decide +kernel
theorem dX11_rules_25 : decode cX11_rules 25 = .ok (.goto 4, 3) := by decide +kernel
theorem dX11_rules_28 : decode cX11_rules 28 = .ok (.iconst 0, 1) := by decide +kernel
theorem dX11_rules_29 : decode cX11_rules 29 = .ok (.ireturn, 1) := by decide +kernel
theorem dX11_allNeeds_0 : decode cX11_allNeeds 0 = .ok (.aload_n 0, 1) := by decide +kernel
theorem dX11_allNeeds_1 : decode cX11_allNeeds 1 = .ok (.getfield 59, 3) := by decide +kernel
theorem dX11_allNeeds_4 : decode cX11_allNeeds 4 = .ok (.iload_n 1, 1) := by decide +kernel
theorem dX11_allNeeds_5 : decode cX11_allNeeds 5 = .ok (.iaload, 1) := by decide +kernel
theorem dX11_allNeeds_6 : decode cX11_allNeeds 6 = .ok (.istore_n 2, 1) := by decide +kernel
theorem dX11_allNeeds_7 : decode cX11_allNeeds 7 = .ok (.iconst 0, 1) := by decide +kernel
theorem dX11_allNeeds_8 : decode cX11_allNeeds 8 = .ok (.istore_n 3, 1) := by decide +kernel
theorem dX11_allNeeds_9 : decode cX11_allNeeds 9 = .ok (.iload_n 3, 1) := by decide +kernel
theorem dX11_allNeeds_10 : decode cX11_allNeeds 10 = .ok (.bipush 8, 2) := by decide +kernel
theorem dX11_allNeeds_12 : decode cX11_allNeeds 12 = .ok (.if_icmp .ge 49, 3) := by decide +kernel
theorem dX11_allNeeds_15 : decode cX11_allNeeds 15 = .ok (.iconst 0, 1) := by decide +kernel
theorem dX11_allNeeds_16 : decode cX11_allNeeds 16 = .ok (.istore 4, 2) := by decide +kernel
theorem dX11_allNeeds_18 : decode cX11_allNeeds 18 = .ok (.iload 4, 2) := by decide +kernel
theorem dX11_allNeeds_20 : decode cX11_allNeeds 20 = .ok (.bipush 8, 2) := by decide +kernel
theorem dX11_allNeeds_22 : decode cX11_allNeeds 22 = .ok (.if_icmp .ge 33, 3) := by decide +kernel
theorem dX11_allNeeds_25 : decode cX11_allNeeds 25 = .ok (.iload_n 2, 1) := by decide +kernel
theorem dX11_allNeeds_26 : decode cX11_allNeeds 26 = .ok (.iload_n 2, 1) := by decide +kernel
theorem dX11_allNeeds_27 : decode cX11_allNeeds 27 = .ok (.iload 4, 2) := by decide +kernel
theorem dX11_allNeeds_29 : decode cX11_allNeeds 29 = .ok (.ishr, 1) := by decide +kernel
theorem dX11_allNeeds_30 : decode cX11_allNeeds 30 = .ok (.iconst 1, 1) := by decide +kernel
theorem dX11_allNeeds_31 : decode cX11_allNeeds 31 = .ok (.iand, 1) := by decide +kernel
theorem dX11_allNeeds_32 : decode cX11_allNeeds 32 = .ok (.iconst 1, 1) := by decide +kernel
theorem dX11_allNeeds_33 : decode cX11_allNeeds 33 = .ok (.if_icmp .ne 13, 3) := by decide +kernel
theorem dX11_allNeeds_36 : decode cX11_allNeeds 36 = .ok (.aload_n 0, 1) := by decide +kernel
theorem dX11_allNeeds_37 : decode cX11_allNeeds 37 = .ok (.getfield 59, 3) := by decide +kernel
theorem dX11_allNeeds_40 : decode cX11_allNeeds 40 = .ok (.iload 4, 2) := by decide +kernel
theorem dX11_allNeeds_42 : decode cX11_allNeeds 42 = .ok (.iaload, 1) := by decide +kernel
theorem dX11_allNeeds_43 : decode cX11_allNeeds 43 = .ok (.goto 4, 3) := by decide +kernel
theorem dX11_allNeeds_46 : decode cX11_allNeeds 46 = .ok (.iconst 0, 1) := by decide +kernel
theorem dX11_allNeeds_47 : decode cX11_allNeeds 47 = .ok (.ior, 1) := by decide +kernel
theorem dX11_allNeeds_48 : decode cX11_allNeeds 48 = .ok (.istore_n 2, 1) := by decide +kernel
theorem dX11_allNeeds_49 : decode cX11_allNeeds 49 = .ok (.iinc 4 1, 3) := by decide +kernel
theorem dX11_allNeeds_52 : decode cX11_allNeeds 52 = .ok (.goto (-34), 3) := by decide +kernel
theorem dX11_allNeeds_55 : decode cX11_allNeeds 55 = .ok (.iinc 3 1, 3) := by decide +kernel
theorem dX11_allNeeds_58 : decode cX11_allNeeds 58 = .ok (.goto (-49), 3) := by decide +kernel
theorem dX11_allNeeds_61 : decode cX11_allNeeds 61 = .ok (.iload_n 2, 1) := by decide +kernel
theorem dX11_allNeeds_62 : decode cX11_allNeeds 62 = .ok (.ireturn, 1) := by decide +kernel
theorem dX11_setNeed_0 : decode cX11_setNeed 0 = .ok (.iload_n 1, 1) := by decide +kernel
theorem dX11_setNeed_1 : decode cX11_setNeed 1 = .ok (.invokestatic 167, 3) := by decide +kernel
theorem dX11_setNeed_4 : decode cX11_setNeed 4 = .ok (.ifCond .eq 19, 3) := by decide +kernel
theorem dX11_setNeed_7 : decode cX11_setNeed 7 = .ok (.iload_n 2, 1) := by decide +kernel
theorem dX11_setNeed_8 : decode cX11_setNeed 8 = .ok (.invokestatic 167, 3) := by decide +kernel
theorem dX11_setNeed_11 : decode cX11_setNeed 11 = .ok (.ifCond .eq 12, 3) := by decide +kernel
theorem dX11_setNeed_14 : decode cX11_setNeed 14 = .ok (.iload_n 1, 1) := by decide +kernel
theorem dX11_setNeed_15 : decode cX11_setNeed 15 = .ok (.iload_n 2, 1) := by decide +kernel
theorem dX11_setNeed_16 : decode cX11_setNeed 16 = .ok (.if_icmp .eq 7, 3) := by decide +kernel
theorem dX11_setNeed_19 : decode cX11_setNeed 19 = .ok (.iconst 1, 1) := by decide +kernel
theorem dX11_setNeed_20 : decode cX11_setNeed 20 = .ok (.goto 4, 3) := by decide +kernel
theorem dX11_setNeed_23 : decode cX11_setNeed 23 = .ok (.iconst 0, 1) := by decide +kernel
theorem dX11_setNeed_24 : decode cX11_setNeed 24 = .ok (.istore 4, 2) := by decide +kernel
theorem dX11_setNeed_26 : decode cX11_setNeed 26 = .ok (.iload 4, 2) := by decide +kernel
theorem dX11_setNeed_28 : decode cX11_setNeed 28 = .ok (.ifCond .eq 24, 3) := by decide +kernel
theorem dX11_setNeed_31 : decode cX11_setNeed 31 = .ok (.iload_n 3, 1) := by decide +kernel
theorem dX11_setNeed_32 : decode cX11_setNeed 32 = .ok (.ifCond .eq 20, 3) := by decide +kernel
theorem dX11_setNeed_35 : decode cX11_setNeed 35 = .ok (.aload_n 0, 1) := by decide +kernel
theorem dX11_setNeed_36 : decode cX11_setNeed 36 = .ok (.iload_n 2, 1) := by decide +kernel
theorem dX11_setNeed_37 : decode cX11_setNeed 37 = .ok (.invokevirtual 170, 3) := by decide +kernel
theorem dX11_setNeed_40 : decode cX11_setNeed 40 = .ok (.iload_n 1, 1) := by decide +kernel
theorem dX11_setNeed_41 : decode cX11_setNeed 41 = .ok (.ishr, 1) := by decide +kernel
theorem dX11_setNeed_42 : decode cX11_setNeed 42 = .ok (.iconst 1, 1) := by decide +kernel
theorem dX11_setNeed_43 : decode cX11_setNeed 43 = .ok (.iand, 1) := by decide +kernel
theorem dX11_setNeed_44 : decode cX11_setNeed 44 = .ok (.iconst 1, 1) := by decide +kernel
theorem dX11_setNeed_45 : decode cX11_setNeed 45 = .ok (.if_icmp .ne 7, 3) := by decide +kernel
theorem dX11_setNeed_48 : decode cX11_setNeed 48 = .ok (.iconst 1, 1) := by decide +kernel
theorem dX11_setNeed_49 : decode cX11_setNeed 49 = .ok (.goto 4, 3) := by decide +kernel
theorem dX11_setNeed_52 : decode cX11_setNeed 52 = .ok (.iconst 0, 1) := by decide +kernel
theorem dX11_setNeed_53 : decode cX11_setNeed 53 = .ok (.istore 5, 2) := by decide +kernel
theorem dX11_setNeed_55 : decode cX11_setNeed 55 = .ok (.aload_n 0, 1) := by decide +kernel
theorem dX11_setNeed_56 : decode cX11_setNeed 56 = .ok (.iload 4, 2) := by decide +kernel
theorem dX11_setNeed_58 : decode cX11_setNeed 58 = .ok (.ifCond .ne 7, 3) := by decide +kernel
theorem dX11_setNeed_61 : decode cX11_setNeed 61 = .ok (.iconst 1, 1) := by decide +kernel
theorem dX11_setNeed_62 : decode cX11_setNeed 62 = .ok (.goto 13, 3) := by decide +kernel
theorem dX11_setNeed_65 : decode cX11_setNeed 65 = .ok (.iload 5, 2) := by decide +kernel
theorem dX11_setNeed_67 : decode cX11_setNeed 67 = .ok (.ifCond .eq 7, 3) := by decide +kernel
theorem dX11_setNeed_70 : decode cX11_setNeed 70 = .ok (.iconst 2, 1) := by decide +kernel
theorem dX11_setNeed_71 : decode cX11_setNeed 71 = .ok (.goto 4, 3) := by decide +kernel
theorem dX11_setNeed_74 : decode cX11_setNeed 74 = .ok (.iconst 0, 1) := by decide +kernel
theorem dX11_setNeed_75 : decode cX11_setNeed 75 = .ok (.invokevirtual 107, 3) := by decide +kernel
theorem dX11_setNeed_78 : decode cX11_setNeed 78 = .ok (.ifCond .ne 5, 3) := by decide +kernel
theorem dX11_setNeed_81 : decode cX11_setNeed 81 = .ok (.iconst 0, 1) := by decide +kernel
theorem dX11_setNeed_82 : decode cX11_setNeed 82 = .ok (.ireturn, 1) := by decide +kernel
theorem dX11_setNeed_83 : decode cX11_setNeed 83 = .ok (.aload_n 0, 1) := by decide +kernel
theorem dX11_setNeed_84 : decode cX11_setNeed 84 = .ok (.getfield 59, 3) := by decide +kernel
theorem dX11_setNeed_87 : decode cX11_setNeed 87 = .ok (.iload_n 1, 1) := by decide +kernel
theorem dX11_setNeed_88 : decode cX11_setNeed 88 = .ok (.iaload, 1) := by decide +kernel
theorem dX11_setNeed_89 : decode cX11_setNeed 89 = .ok (.iload_n 2, 1) := by decide +kernel
theorem dX11_setNeed_90 : decode cX11_setNeed 90 = .ok (.ishr, 1) := by decide +kernel
theorem dX11_setNeed_91 : decode cX11_setNeed 91 = .ok (.iconst 1, 1) := by decide +kernel
theorem dX11_setNeed_92 : decode cX11_setNeed 92 = .ok (.iand, 1) := by decide +kernel
theorem dX11_setNeed_93 : decode cX11_setNeed 93 = .ok (.iconst 1, 1) := by decide +kernel
theorem dX11_setNeed_94 : decode cX11_setNeed 94 = .ok (.if_icmp .ne 7, 3) := by decide +kernel
theorem dX11_setNeed_97 : decode cX11_setNeed 97 = .ok (.iconst 1, 1) := by decide +kernel
theorem dX11_setNeed_98 : decode cX11_setNeed 98 = .ok (.goto 4, 3) := by decide +kernel
theorem dX11_setNeed_101 : decode cX11_setNeed 101 = .ok (.iconst 0, 1) := by decide +kernel
theorem dX11_setNeed_102 : decode cX11_setNeed 102 = .ok (.istore 6, 2) := by decide +kernel
theorem dX11_setNeed_104 : decode cX11_setNeed 104 = .ok (.aload_n 0, 1) := by decide +kernel
theorem dX11_setNeed_105 : decode cX11_setNeed 105 = .ok (.getfield 59, 3) := by decide +kernel
theorem dX11_setNeed_108 : decode cX11_setNeed 108 = .ok (.iload_n 1, 1) := by decide +kernel
theorem dX11_setNeed_109 : decode cX11_setNeed 109 = .ok (.iload_n 3, 1) := by decide +kernel
theorem dX11_setNeed_110 : decode cX11_setNeed 110 = .ok (.ifCond .eq 16, 3) := by decide +kernel
theorem dX11_setNeed_113 : decode cX11_setNeed 113 = .ok (.aload_n 0, 1) := by decide +kernel
theorem dX11_setNeed_114 : decode cX11_setNeed 114 = .ok (.getfield 59, 3) := by decide +kernel
theorem dX11_setNeed_117 : decode cX11_setNeed 117 = .ok (.iload_n 1, 1) := by decide +kernel
theorem dX11_setNeed_118 : decode cX11_setNeed 118 = .ok (.iaload, 1) := by decide +kernel
theorem dX11_setNeed_119 : decode cX11_setNeed 119 = .ok (.iconst 1, 1) := by decide +kernel
theorem dX11_setNeed_120 : decode cX11_setNeed 120 = .ok (.iload_n 2, 1) := by decide +kernel
theorem dX11_setNeed_121 : decode cX11_setNeed 121 = .ok (.ishl, 1) := by decide +kernel
theorem dX11_setNeed_122 : decode cX11_setNeed 122 = .ok (.ior, 1) := by decide +kernel
theorem dX11_setNeed_123 : decode cX11_setNeed 123 = .ok (.goto 15, 3) := by decide +kernel
theorem dX11_setNeed_126 : decode cX11_setNeed 126 = .ok (.aload_n 0, 1) := by decide +kernel
theorem dX11_setNeed_127 : decode cX11_setNeed 127 = .ok (.getfield 59, 3) := by decide +kernel
theorem dX11_setNeed_130 : decode cX11_setNeed 130 = .ok (.iload_n 1, 1) := by decide +kernel
theorem dX11_setNeed_131 : decode cX11_setNeed 131 = .ok (.iaload, 1) := by decide +kernel
theorem dX11_setNeed_132 : decode cX11_setNeed 132 = .ok (.iconst 1, 1) := by decide +kernel
theorem dX11_setNeed_133 : decode cX11_setNeed 133 = .ok (.iload_n 2, 1) := by decide +kernel
theorem dX11_setNeed_134 : decode cX11_setNeed 134 = .ok (.ishl, 1) := by decide +kernel
theorem dX11_setNeed_135 : decode cX11_setNeed 135 = .ok (.iconst (-1), 1) := by decide +kernel
theorem dX11_setNeed_136 : decode cX11_setNeed 136 = .ok (.ixor, 1) := by decide +kernel
theorem dX11_setNeed_137 : decode cX11_setNeed 137 = .ok (.iand, 1) := by decide +kernel
theorem dX11_setNeed_138 : decode cX11_setNeed 138 = .ok (.iastore, 1) := by decide +kernel
theorem dX11_setNeed_139 : decode cX11_setNeed 139 = .ok (.iload 6, 2) := by decide +kernel
theorem dX11_setNeed_141 : decode cX11_setNeed 141 = .ok (.ireturn, 1) := by decide +kernel
theorem dX11_ruleNow_0 : decode cX11_ruleNow 0 = .ok (.iconst 0, 1) := by decide +kernel
theorem dX11_ruleNow_1 : decode cX11_ruleNow 1 = .ok (.istore_n 3, 1) := by decide +kernel
theorem dX11_ruleNow_2 : decode cX11_ruleNow 2 = .ok (.iload_n 3, 1) := by decide +kernel
theorem dX11_ruleNow_3 : decode cX11_ruleNow 3 = .ok (.aload_n 0, 1) := by decide +kernel
theorem dX11_ruleNow_4 : decode cX11_ruleNow 4 = .ok (.getfield 50, 3) := by decide +kernel
theorem dX11_ruleNow_7 : decode cX11_ruleNow 7 = .ok (.iload_n 2, 1) := by decide +kernel
theorem dX11_ruleNow_8 : decode cX11_ruleNow 8 = .ok (.iaload, 1) := by decide +kernel
theorem dX11_ruleNow_9 : decode cX11_ruleNow 9 = .ok (.if_icmp .ge 34, 3) := by decide +kernel
theorem dX11_ruleNow_12 : decode cX11_ruleNow 12 = .ok (.aload_n 0, 1) := by decide +kernel
theorem dX11_ruleNow_13 : decode cX11_ruleNow 13 = .ok (.getfield 34, 3) := by decide +kernel
theorem dX11_ruleNow_16 : decode cX11_ruleNow 16 = .ok (.aload_n 0, 1) := by decide +kernel
theorem dX11_ruleNow_17 : decode cX11_ruleNow 17 = .ok (.getfield 53, 3) := by decide +kernel
theorem dX11_ruleNow_20 : decode cX11_ruleNow 20 = .ok (.iconst 5, 1) := by decide +kernel
theorem dX11_ruleNow_21 : decode cX11_ruleNow 21 = .ok (.iload_n 2, 1) := by decide +kernel
theorem dX11_ruleNow_22 : decode cX11_ruleNow 22 = .ok (.imul, 1) := by decide +kernel
theorem dX11_ruleNow_23 : decode cX11_ruleNow 23 = .ok (.iload_n 3, 1) := by decide +kernel
theorem dX11_ruleNow_24 : decode cX11_ruleNow 24 = .ok (.iadd, 1) := by decide +kernel
theorem dX11_ruleNow_25 : decode cX11_ruleNow 25 = .ok (.iaload, 1) := by decide +kernel
theorem dX11_ruleNow_26 : decode cX11_ruleNow 26 = .ok (.iaload, 1) := by decide +kernel
theorem dX11_ruleNow_27 : decode cX11_ruleNow 27 = .ok (.iload_n 1, 1) := by decide +kernel
theorem dX11_ruleNow_28 : decode cX11_ruleNow 28 = .ok (.ishr, 1) := by decide +kernel
theorem dX11_ruleNow_29 : decode cX11_ruleNow 29 = .ok (.iconst 1, 1) := by decide +kernel
theorem dX11_ruleNow_30 : decode cX11_ruleNow 30 = .ok (.iand, 1) := by decide +kernel
theorem dX11_ruleNow_31 : decode cX11_ruleNow 31 = .ok (.iconst 1, 1) := by decide +kernel
theorem dX11_ruleNow_32 : decode cX11_ruleNow 32 = .ok (.if_icmp .ne 5, 3) := by decide +kernel
theorem dX11_ruleNow_35 : decode cX11_ruleNow 35 = .ok (.iload_n 3, 1) := by decide +kernel
theorem dX11_ruleNow_36 : decode cX11_ruleNow 36 = .ok (.ireturn, 1) := by decide +kernel
theorem dX11_ruleNow_37 : decode cX11_ruleNow 37 = .ok (.iinc 3 1, 3) := by decide +kernel
theorem dX11_ruleNow_40 : decode cX11_ruleNow 40 = .ok (.goto (-38), 3) := by decide +kernel
theorem dX11_ruleNow_43 : decode cX11_ruleNow 43 = .ok (.iconst (-1), 1) := by decide +kernel
theorem dX11_ruleNow_44 : decode cX11_ruleNow 44 = .ok (.ireturn, 1) := by decide +kernel
theorem dX11_lacksNeed_0 : decode cX11_lacksNeed 0 = .ok (.iconst 0, 1) := by decide +kernel
theorem dX11_lacksNeed_1 : decode cX11_lacksNeed 1 = .ok (.istore_n 3, 1) := by decide +kernel
theorem dX11_lacksNeed_2 : decode cX11_lacksNeed 2 = .ok (.iconst 0, 1) := by decide +kernel
theorem dX11_lacksNeed_3 : decode cX11_lacksNeed 3 = .ok (.istore 4, 2) := by decide +kernel
theorem dX11_lacksNeed_5 : decode cX11_lacksNeed 5 = .ok (.iload 4, 2) := by decide +kernel
theorem dX11_lacksNeed_7 : decode cX11_lacksNeed 7 = .ok (.bipush 8, 2) := by decide +kernel
theorem dX11_lacksNeed_9 : decode cX11_lacksNeed 9 = .ok (.if_icmp .ge 49, 3) := by decide +kernel
theorem dX11_lacksNeed_12 : decode cX11_lacksNeed 12 = .ok (.iload_n 3, 1) := by decide +kernel
theorem dX11_lacksNeed_13 : decode cX11_lacksNeed 13 = .ok (.ifCond .ne 33, 3) := by decide +kernel
theorem dX11_lacksNeed_16 : decode cX11_lacksNeed 16 = .ok (.aload_n 0, 1) := by decide +kernel
theorem dX11_lacksNeed_17 : decode cX11_lacksNeed 17 = .ok (.getfield 59, 3) := by decide +kernel
theorem dX11_lacksNeed_20 : decode cX11_lacksNeed 20 = .ok (.iload_n 2, 1) := by decide +kernel
theorem dX11_lacksNeed_21 : decode cX11_lacksNeed 21 = .ok (.iaload, 1) := by decide +kernel
theorem dX11_lacksNeed_22 : decode cX11_lacksNeed 22 = .ok (.iload 4, 2) := by decide +kernel
theorem dX11_lacksNeed_24 : decode cX11_lacksNeed 24 = .ok (.ishr, 1) := by decide +kernel
theorem dX11_lacksNeed_25 : decode cX11_lacksNeed 25 = .ok (.iconst 1, 1) := by decide +kernel
theorem dX11_lacksNeed_26 : decode cX11_lacksNeed 26 = .ok (.iand, 1) := by decide +kernel
theorem dX11_lacksNeed_27 : decode cX11_lacksNeed 27 = .ok (.iconst 1, 1) := by decide +kernel
theorem dX11_lacksNeed_28 : decode cX11_lacksNeed 28 = .ok (.if_icmp .ne 22, 3) := by decide +kernel
theorem dX11_lacksNeed_31 : decode cX11_lacksNeed 31 = .ok (.aload_n 0, 1) := by decide +kernel
theorem dX11_lacksNeed_32 : decode cX11_lacksNeed 32 = .ok (.getfield 62, 3) := by decide +kernel
theorem dX11_lacksNeed_35 : decode cX11_lacksNeed 35 = .ok (.bipush 8, 2) := by decide +kernel
theorem dX11_lacksNeed_37 : decode cX11_lacksNeed 37 = .ok (.iload_n 1, 1) := by decide +kernel
theorem dX11_lacksNeed_38 : decode cX11_lacksNeed 38 = .ok (.imul, 1) := by decide +kernel
theorem dX11_lacksNeed_39 : decode cX11_lacksNeed 39 = .ok (.iload 4, 2) := by decide +kernel
theorem dX11_lacksNeed_41 : decode cX11_lacksNeed 41 = .ok (.iadd, 1) := by decide +kernel
theorem dX11_lacksNeed_42 : decode cX11_lacksNeed 42 = .ok (.iaload, 1) := by decide +kernel
theorem dX11_lacksNeed_43 : decode cX11_lacksNeed 43 = .ok (.ifCond .ne 7, 3) := by decide +kernel
theorem dX11_lacksNeed_46 : decode cX11_lacksNeed 46 = .ok (.iconst 1, 1) := by decide +kernel
theorem dX11_lacksNeed_47 : decode cX11_lacksNeed 47 = .ok (.goto 4, 3) := by decide +kernel
theorem dX11_lacksNeed_50 : decode cX11_lacksNeed 50 = .ok (.iconst 0, 1) := by decide +kernel
theorem dX11_lacksNeed_51 : decode cX11_lacksNeed 51 = .ok (.istore_n 3, 1) := by decide +kernel
theorem dX11_lacksNeed_52 : decode cX11_lacksNeed 52 = .ok (.iinc 4 1, 3) := by decide +kernel
theorem dX11_lacksNeed_55 : decode cX11_lacksNeed 55 = .ok (.goto (-50), 3) := by decide +kernel
theorem dX11_lacksNeed_58 : decode cX11_lacksNeed 58 = .ok (.iload_n 3, 1) := by decide +kernel
theorem dX11_lacksNeed_59 : decode cX11_lacksNeed 59 = .ok (.ireturn, 1) := by decide +kernel
theorem dX11_viewNow_0 : decode cX11_viewNow 0 = .ok (.bipush 8, 2) := by decide +kernel
theorem dX11_viewNow_2 : decode cX11_viewNow 2 = .ok (.iload_n 1, 1) := by decide +kernel
theorem dX11_viewNow_3 : decode cX11_viewNow 3 = .ok (.imul, 1) := by decide +kernel
theorem dX11_viewNow_4 : decode cX11_viewNow 4 = .ok (.iload_n 2, 1) := by decide +kernel
theorem dX11_viewNow_5 : decode cX11_viewNow 5 = .ok (.iadd, 1) := by decide +kernel
theorem dX11_viewNow_6 : decode cX11_viewNow 6 = .ok (.istore_n 3, 1) := by decide +kernel
theorem dX11_viewNow_7 : decode cX11_viewNow 7 = .ok (.aload_n 0, 1) := by decide +kernel
theorem dX11_viewNow_8 : decode cX11_viewNow 8 = .ok (.getfield 86, 3) := by decide +kernel
theorem dX11_viewNow_11 : decode cX11_viewNow 11 = .ok (.iload_n 3, 1) := by decide +kernel
theorem dX11_viewNow_12 : decode cX11_viewNow 12 = .ok (.iaload, 1) := by decide +kernel
theorem dX11_viewNow_13 : decode cX11_viewNow 13 = .ok (.ifCond .eq 10, 3) := by decide +kernel
theorem dX11_viewNow_16 : decode cX11_viewNow 16 = .ok (.aload_n 0, 1) := by decide +kernel
theorem dX11_viewNow_17 : decode cX11_viewNow 17 = .ok (.getfield 89, 3) := by decide +kernel
theorem dX11_viewNow_20 : decode cX11_viewNow 20 = .ok (.iload_n 3, 1) := by decide +kernel
theorem dX11_viewNow_21 : decode cX11_viewNow 21 = .ok (.iaload, 1) := by decide +kernel
theorem dX11_viewNow_22 : decode cX11_viewNow 22 = .ok (.ireturn, 1) := by decide +kernel
theorem dX11_viewNow_23 : decode cX11_viewNow 23 = .ok (.aload_n 0, 1) := by decide +kernel
theorem dX11_viewNow_24 : decode cX11_viewNow 24 = .ok (.iload_n 1, 1) := by decide +kernel
theorem dX11_viewNow_25 : decode cX11_viewNow 25 = .ok (.iload_n 2, 1) := by decide +kernel
theorem dX11_viewNow_26 : decode cX11_viewNow 26 = .ok (.invokevirtual 173, 3) := by decide +kernel
theorem dX11_viewNow_29 : decode cX11_viewNow 29 = .ok (.ifCond .eq 7, 3) := by decide +kernel
theorem dX11_viewNow_32 : decode cX11_viewNow 32 = .ok (.iconst (-1), 1) := by decide +kernel
theorem dX11_viewNow_33 : decode cX11_viewNow 33 = .ok (.goto 9, 3) := by decide +kernel
theorem dX11_viewNow_36 : decode cX11_viewNow 36 = .ok (.aload_n 0, 1) := by decide +kernel
theorem dX11_viewNow_37 : decode cX11_viewNow 37 = .ok (.iload_n 1, 1) := by decide +kernel
theorem dX11_viewNow_38 : decode cX11_viewNow 38 = .ok (.iload_n 2, 1) := by decide +kernel
theorem dX11_viewNow_39 : decode cX11_viewNow 39 = .ok (.invokevirtual 176, 3) := by decide +kernel
theorem dX11_viewNow_42 : decode cX11_viewNow 42 = .ok (.istore 4, 2) := by decide +kernel
theorem dX11_viewNow_44 : decode cX11_viewNow 44 = .ok (.iload 4, 2) := by decide +kernel
theorem dX11_viewNow_46 : decode cX11_viewNow 46 = .ok (.iconst (-1), 1) := by decide +kernel
theorem dX11_viewNow_47 : decode cX11_viewNow 47 = .ok (.if_icmp .ne 7, 3) := by decide +kernel
theorem dX11_viewNow_50 : decode cX11_viewNow 50 = .ok (.iconst 0, 1) := by decide +kernel
theorem dX11_viewNow_51 : decode cX11_viewNow 51 = .ok (.goto 14, 3) := by decide +kernel
theorem dX11_viewNow_54 : decode cX11_viewNow 54 = .ok (.aload_n 0, 1) := by decide +kernel
theorem dX11_viewNow_55 : decode cX11_viewNow 55 = .ok (.getfield 56, 3) := by decide +kernel
theorem dX11_viewNow_58 : decode cX11_viewNow 58 = .ok (.iconst 5, 1) := by decide +kernel
theorem dX11_viewNow_59 : decode cX11_viewNow 59 = .ok (.iload_n 2, 1) := by decide +kernel
theorem dX11_viewNow_60 : decode cX11_viewNow 60 = .ok (.imul, 1) := by decide +kernel
theorem dX11_viewNow_61 : decode cX11_viewNow 61 = .ok (.iload 4, 2) := by decide +kernel
theorem dX11_viewNow_63 : decode cX11_viewNow 63 = .ok (.iadd, 1) := by decide +kernel
theorem dX11_viewNow_64 : decode cX11_viewNow 64 = .ok (.iaload, 1) := by decide +kernel
theorem dX11_viewNow_65 : decode cX11_viewNow 65 = .ok (.istore 5, 2) := by decide +kernel
theorem dX11_viewNow_67 : decode cX11_viewNow 67 = .ok (.iload 5, 2) := by decide +kernel
theorem dX11_viewNow_69 : decode cX11_viewNow 69 = .ok (.iconst 4, 1) := by decide +kernel
theorem dX11_viewNow_70 : decode cX11_viewNow 70 = .ok (.if_icmp .ge 8, 3) := by decide +kernel
theorem dX11_viewNow_73 : decode cX11_viewNow 73 = .ok (.iload 5, 2) := by decide +kernel
theorem dX11_viewNow_75 : decode cX11_viewNow 75 = .ok (.goto 12, 3) := by decide +kernel
theorem dX11_viewNow_78 : decode cX11_viewNow 78 = .ok (.aload_n 0, 1) := by decide +kernel
theorem dX11_viewNow_79 : decode cX11_viewNow 79 = .ok (.iload 5, 2) := by decide +kernel
theorem dX11_viewNow_81 : decode cX11_viewNow 81 = .ok (.iconst 4, 1) := by decide +kernel
theorem dX11_viewNow_82 : decode cX11_viewNow 82 = .ok (.isub, 1) := by decide +kernel
theorem dX11_viewNow_83 : decode cX11_viewNow 83 = .ok (.iload_n 1, 1) := by decide +kernel
theorem dX11_viewNow_84 : decode cX11_viewNow 84 = .ok (.invokevirtual 179, 3) := by decide +kernel
theorem dX11_viewNow_87 : decode cX11_viewNow 87 = .ok (.ireturn, 1) := by decide +kernel
theorem dX11_findViews_0 : decode cX11_findViews 0 = .ok (.aload_n 0, 1) := by decide +kernel
theorem dX11_findViews_1 : decode cX11_findViews 1 = .ok (.invokevirtual 155, 3) := by decide +kernel
theorem dX11_findViews_4 : decode cX11_findViews 4 = .ok (.iconst 0, 1) := by decide +kernel
theorem dX11_findViews_5 : decode cX11_findViews 5 = .ok (.istore_n 1, 1) := by decide +kernel
theorem dX11_findViews_6 : decode cX11_findViews 6 = .ok (.iload_n 1, 1) := by decide +kernel
theorem dX11_findViews_7 : decode cX11_findViews 7 = .ok (.bipush 8, 2) := by decide +kernel
theorem dX11_findViews_9 : decode cX11_findViews 9 = .ok (.if_icmp .ge 42, 3) := by decide +kernel
theorem dX11_findViews_12 : decode cX11_findViews 12 = .ok (.iconst 0, 1) := by decide +kernel
theorem dX11_findViews_13 : decode cX11_findViews 13 = .ok (.istore_n 2, 1) := by decide +kernel
theorem dX11_findViews_14 : decode cX11_findViews 14 = .ok (.iload_n 2, 1) := by decide +kernel
theorem dX11_findViews_15 : decode cX11_findViews 15 = .ok (.sipush 160, 3) := by decide +kernel
theorem dX11_findViews_18 : decode cX11_findViews 18 = .ok (.if_icmp .ge 27, 3) := by decide +kernel
theorem dX11_findViews_21 : decode cX11_findViews 21 = .ok (.aload_n 0, 1) := by decide +kernel
theorem dX11_findViews_22 : decode cX11_findViews 22 = .ok (.getfield 62, 3) := by decide +kernel
theorem dX11_findViews_25 : decode cX11_findViews 25 = .ok (.iload_n 2, 1) := by decide +kernel
theorem dX11_findViews_26 : decode cX11_findViews 26 = .ok (.aload_n 0, 1) := by decide +kernel
theorem dX11_findViews_27 : decode cX11_findViews 27 = .ok (.iload_n 2, 1) := by decide +kernel
theorem dX11_findViews_28 : decode cX11_findViews 28 = .ok (.bipush 8, 2) := by decide +kernel
theorem dX11_findViews_30 : decode cX11_findViews 30 = .ok (.idiv, 1) := by decide +kernel
theorem dX11_findViews_31 : decode cX11_findViews 31 = .ok (.iload_n 2, 1) := by decide +kernel
theorem dX11_findViews_32 : decode cX11_findViews 32 = .ok (.bipush 8, 2) := by decide +kernel
theorem dX11_findViews_34 : decode cX11_findViews 34 = .ok (.irem, 1) := by decide +kernel
theorem dX11_findViews_35 : decode cX11_findViews 35 = .ok (.invokevirtual 182, 3) := by decide +kernel
theorem dX11_findViews_38 : decode cX11_findViews 38 = .ok (.iastore, 1) := by decide +kernel
theorem dX11_findViews_39 : decode cX11_findViews 39 = .ok (.iinc 2 1, 3) := by decide +kernel
theorem dX11_findViews_42 : decode cX11_findViews 42 = .ok (.goto (-28), 3) := by decide +kernel
theorem dX11_findViews_45 : decode cX11_findViews 45 = .ok (.iinc 1 1, 3) := by decide +kernel
theorem dX11_findViews_48 : decode cX11_findViews 48 = .ok (.goto (-42), 3) := by decide +kernel
theorem dX11_findViews_51 : decode cX11_findViews 51 = .ok (.return_, 1) := by decide +kernel
theorem dX11_view_0 : decode cX11_view 0 = .ok (.aload_n 0, 1) := by decide +kernel
theorem dX11_view_1 : decode cX11_view 1 = .ok (.iload_n 1, 1) := by decide +kernel
theorem dX11_view_2 : decode cX11_view 2 = .ok (.iload_n 2, 1) := by decide +kernel
theorem dX11_view_3 : decode cX11_view 3 = .ok (.invokevirtual 185, 3) := by decide +kernel
theorem dX11_view_6 : decode cX11_view 6 = .ok (.ireturn, 1) := by decide +kernel
theorem dX11_viewByLog_0 : decode cX11_viewByLog 0 = .ok (.aload_n 0, 1) := by decide +kernel
theorem dX11_viewByLog_1 : decode cX11_viewByLog 1 = .ok (.iload_n 1, 1) := by decide +kernel
theorem dX11_viewByLog_2 : decode cX11_viewByLog 2 = .ok (.invokestatic 103, 3) := by decide +kernel
theorem dX11_viewByLog_5 : decode cX11_viewByLog 5 = .ok (.ifCond .eq 14, 3) := by decide +kernel
theorem dX11_viewByLog_8 : decode cX11_viewByLog 8 = .ok (.iload_n 2, 1) := by decide +kernel
theorem dX11_viewByLog_9 : decode cX11_viewByLog 9 = .ok (.invokestatic 167, 3) := by decide +kernel
theorem dX11_viewByLog_12 : decode cX11_viewByLog 12 = .ok (.ifCond .eq 7, 3) := by decide +kernel
theorem dX11_viewByLog_15 : decode cX11_viewByLog 15 = .ok (.iconst 0, 1) := by decide +kernel
theorem dX11_viewByLog_16 : decode cX11_viewByLog 16 = .ok (.goto 4, 3) := by decide +kernel
theorem dX11_viewByLog_19 : decode cX11_viewByLog 19 = .ok (.iconst 1, 1) := by decide +kernel
theorem dX11_viewByLog_20 : decode cX11_viewByLog 20 = .ok (.invokevirtual 107, 3) := by decide +kernel
theorem dX11_viewByLog_23 : decode cX11_viewByLog 23 = .ok (.ifCond .ne 5, 3) := by decide +kernel
theorem dX11_viewByLog_26 : decode cX11_viewByLog 26 = .ok (.iconst 0, 1) := by decide +kernel
theorem dX11_viewByLog_27 : decode cX11_viewByLog 27 = .ok (.ireturn, 1) := by decide +kernel
theorem dX11_viewByLog_28 : decode cX11_viewByLog 28 = .ok (.aload_n 0, 1) := by decide +kernel
theorem dX11_viewByLog_29 : decode cX11_viewByLog 29 = .ok (.invokevirtual 164, 3) := by decide +kernel
theorem dX11_viewByLog_32 : decode cX11_viewByLog 32 = .ok (.aload_n 0, 1) := by decide +kernel
theorem dX11_viewByLog_33 : decode cX11_viewByLog 33 = .ok (.getfield 62, 3) := by decide +kernel
theorem dX11_viewByLog_36 : decode cX11_viewByLog 36 = .ok (.bipush 8, 2) := by decide +kernel
theorem dX11_viewByLog_38 : decode cX11_viewByLog 38 = .ok (.iload_n 1, 1) := by decide +kernel
theorem dX11_viewByLog_39 : decode cX11_viewByLog 39 = .ok (.imul, 1) := by decide +kernel
theorem dX11_viewByLog_40 : decode cX11_viewByLog 40 = .ok (.iload_n 2, 1) := by decide +kernel
theorem dX11_viewByLog_41 : decode cX11_viewByLog 41 = .ok (.iadd, 1) := by decide +kernel
theorem dX11_viewByLog_42 : decode cX11_viewByLog 42 = .ok (.iaload, 1) := by decide +kernel
theorem dX11_viewByLog_43 : decode cX11_viewByLog 43 = .ok (.ireturn, 1) := by decide +kernel
theorem dX11_ruleFor_0 : decode cX11_ruleFor 0 = .ok (.aload_n 0, 1) := by decide +kernel
theorem dX11_ruleFor_1 : decode cX11_ruleFor 1 = .ok (.iload_n 1, 1) := by decide +kernel
theorem dX11_ruleFor_2 : decode cX11_ruleFor 2 = .ok (.invokestatic 103, 3) := by decide +kernel
theorem dX11_ruleFor_5 : decode cX11_ruleFor 5 = .ok (.ifCond .eq 14, 3) := by decide +kernel
theorem dX11_ruleFor_8 : decode cX11_ruleFor 8 = .ok (.iload_n 2, 1) := by decide +kernel
theorem dX11_ruleFor_9 : decode cX11_ruleFor 9 = .ok (.invokestatic 167, 3) := by decide +kernel
theorem dX11_ruleFor_12 : decode cX11_ruleFor 12 = .ok (.ifCond .eq 7, 3) := by decide +kernel
theorem dX11_ruleFor_15 : decode cX11_ruleFor 15 = .ok (.iconst 0, 1) := by decide +kernel
theorem dX11_ruleFor_16 : decode cX11_ruleFor 16 = .ok (.goto 4, 3) := by decide +kernel
theorem dX11_ruleFor_19 : decode cX11_ruleFor 19 = .ok (.iconst 1, 1) := by decide +kernel
theorem dX11_ruleFor_20 : decode cX11_ruleFor 20 = .ok (.invokevirtual 107, 3) := by decide +kernel
theorem dX11_ruleFor_23 : decode cX11_ruleFor 23 = .ok (.ifCond .ne 5, 3) := by decide +kernel
theorem dX11_ruleFor_26 : decode cX11_ruleFor 26 = .ok (.iconst 0, 1) := by decide +kernel
theorem dX11_ruleFor_27 : decode cX11_ruleFor 27 = .ok (.ireturn, 1) := by decide +kernel
theorem dX11_ruleFor_28 : decode cX11_ruleFor 28 = .ok (.aload_n 0, 1) := by decide +kernel
theorem dX11_ruleFor_29 : decode cX11_ruleFor 29 = .ok (.invokevirtual 155, 3) := by decide +kernel
theorem dX11_ruleFor_32 : decode cX11_ruleFor 32 = .ok (.aload_n 0, 1) := by decide +kernel
theorem dX11_ruleFor_33 : decode cX11_ruleFor 33 = .ok (.iload_n 1, 1) := by decide +kernel
theorem dX11_ruleFor_34 : decode cX11_ruleFor 34 = .ok (.iload_n 2, 1) := by decide +kernel
theorem dX11_ruleFor_35 : decode cX11_ruleFor 35 = .ok (.invokevirtual 176, 3) := by decide +kernel
theorem dX11_ruleFor_38 : decode cX11_ruleFor 38 = .ok (.ireturn, 1) := by decide +kernel
theorem dX11_reach_0 : decode cX11_reach 0 = .ok (.aload_n 0, 1) := by decide +kernel
theorem dX11_reach_1 : decode cX11_reach 1 = .ok (.iload_n 1, 1) := by decide +kernel
theorem dX11_reach_2 : decode cX11_reach 2 = .ok (.invokestatic 167, 3) := by decide +kernel
theorem dX11_reach_5 : decode cX11_reach 5 = .ok (.ifCond .eq 14, 3) := by decide +kernel
theorem dX11_reach_8 : decode cX11_reach 8 = .ok (.iload_n 2, 1) := by decide +kernel
theorem dX11_reach_9 : decode cX11_reach 9 = .ok (.invokestatic 188, 3) := by decide +kernel
theorem dX11_reach_12 : decode cX11_reach 12 = .ok (.ifCond .eq 7, 3) := by decide +kernel
theorem dX11_reach_15 : decode cX11_reach 15 = .ok (.iconst 0, 1) := by decide +kernel
theorem dX11_reach_16 : decode cX11_reach 16 = .ok (.goto 4, 3) := by decide +kernel
theorem dX11_reach_19 : decode cX11_reach 19 = .ok (.iconst 1, 1) := by decide +kernel
theorem dX11_reach_20 : decode cX11_reach 20 = .ok (.invokevirtual 107, 3) := by decide +kernel
theorem dX11_reach_23 : decode cX11_reach 23 = .ok (.ifCond .ne 5, 3) := by decide +kernel
theorem dX11_reach_26 : decode cX11_reach 26 = .ok (.iconst 0, 1) := by decide +kernel
theorem dX11_reach_27 : decode cX11_reach 27 = .ok (.ireturn, 1) := by decide +kernel
theorem dX11_reach_28 : decode cX11_reach 28 = .ok (.aload_n 0, 1) := by decide +kernel
theorem dX11_reach_29 : decode cX11_reach 29 = .ok (.invokevirtual 164, 3) := by decide +kernel
theorem dX11_reach_32 : decode cX11_reach 32 = .ok (.iconst 0, 1) := by decide +kernel
theorem dX11_reach_33 : decode cX11_reach 33 = .ok (.istore_n 3, 1) := by decide +kernel
theorem dX11_reach_34 : decode cX11_reach 34 = .ok (.iconst 0, 1) := by decide +kernel
theorem dX11_reach_35 : decode cX11_reach 35 = .ok (.istore 4, 2) := by decide +kernel
theorem dX11_reach_37 : decode cX11_reach 37 = .ok (.iload 4, 2) := by decide +kernel
theorem dX11_reach_39 : decode cX11_reach 39 = .ok (.bipush 20, 2) := by decide +kernel
theorem dX11_reach_41 : decode cX11_reach 41 = .ok (.if_icmp .ge 33, 3) := by decide +kernel
theorem dX11_reach_44 : decode cX11_reach 44 = .ok (.iload_n 3, 1) := by decide +kernel
theorem dX11_reach_45 : decode cX11_reach 45 = .ok (.aload_n 0, 1) := by decide +kernel
theorem dX11_reach_46 : decode cX11_reach 46 = .ok (.getfield 62, 3) := by decide +kernel
theorem dX11_reach_49 : decode cX11_reach 49 = .ok (.bipush 8, 2) := by decide +kernel
theorem dX11_reach_51 : decode cX11_reach 51 = .ok (.iload 4, 2) := by decide +kernel
theorem dX11_reach_53 : decode cX11_reach 53 = .ok (.imul, 1) := by decide +kernel
theorem dX11_reach_54 : decode cX11_reach 54 = .ok (.iload_n 1, 1) := by decide +kernel
theorem dX11_reach_55 : decode cX11_reach 55 = .ok (.iadd, 1) := by decide +kernel
theorem dX11_reach_56 : decode cX11_reach 56 = .ok (.iaload, 1) := by decide +kernel
theorem dX11_reach_57 : decode cX11_reach 57 = .ok (.iload_n 2, 1) := by decide +kernel
theorem dX11_reach_58 : decode cX11_reach 58 = .ok (.if_icmp .ne 7, 3) := by decide +kernel
theorem dX11_reach_61 : decode cX11_reach 61 = .ok (.iconst 1, 1) := by decide +kernel
theorem dX11_reach_62 : decode cX11_reach 62 = .ok (.goto 4, 3) := by decide +kernel
theorem dX11_reach_65 : decode cX11_reach 65 = .ok (.iconst 0, 1) := by decide +kernel
theorem dX11_reach_66 : decode cX11_reach 66 = .ok (.iadd, 1) := by decide +kernel
theorem dX11_reach_67 : decode cX11_reach 67 = .ok (.istore_n 3, 1) := by decide +kernel
theorem dX11_reach_68 : decode cX11_reach 68 = .ok (.iinc 4 1, 3) := by decide +kernel
theorem dX11_reach_71 : decode cX11_reach 71 = .ok (.goto (-34), 3) := by decide +kernel
theorem dX11_reach_74 : decode cX11_reach 74 = .ok (.iload_n 3, 1) := by decide +kernel
theorem dX11_reach_75 : decode cX11_reach 75 = .ok (.ireturn, 1) := by decide +kernel
theorem dX11_show_0 : decode cX11_show 0 = .ok (.iload_n 1, 1) := by decide +kernel
theorem dX11_show_1 : decode cX11_show 1 = .ok (.invokestatic 103, 3) := by decide +kernel
theorem dX11_show_4 : decode cX11_show 4 = .ok (.ifCond .eq 14, 3) := by decide +kernel
theorem dX11_show_7 : decode cX11_show 7 = .ok (.iload_n 2, 1) := by decide +kernel
theorem dX11_show_8 : decode cX11_show 8 = .ok (.invokestatic 167, 3) := by decide +kernel
theorem dX11_show_11 : decode cX11_show 11 = .ok (.ifCond .eq 7, 3) := by decide +kernel
theorem dX11_show_14 : decode cX11_show 14 = .ok (.iconst 1, 1) := by decide +kernel
theorem dX11_show_15 : decode cX11_show 15 = .ok (.goto 4, 3) := by decide +kernel
theorem dX11_show_18 : decode cX11_show 18 = .ok (.iconst 0, 1) := by decide +kernel
theorem dX11_show_19 : decode cX11_show 19 = .ok (.istore_n 3, 1) := by decide +kernel
theorem dX11_show_20 : decode cX11_show 20 = .ok (.aload_n 0, 1) := by decide +kernel
theorem dX11_show_21 : decode cX11_show 21 = .ok (.iload_n 3, 1) := by decide +kernel
theorem dX11_show_22 : decode cX11_show 22 = .ok (.ifCond .ne 7, 3) := by decide +kernel
theorem dX11_show_25 : decode cX11_show 25 = .ok (.iconst 1, 1) := by decide +kernel
theorem dX11_show_26 : decode cX11_show 26 = .ok (.goto 18, 3) := by decide +kernel
theorem dX11_show_29 : decode cX11_show 29 = .ok (.aload_n 0, 1) := by decide +kernel
theorem dX11_show_30 : decode cX11_show 30 = .ok (.getfield 191, 3) := by decide +kernel
theorem dX11_show_33 : decode cX11_show 33 = .ok (.sipush 400, 3) := by decide +kernel
theorem dX11_show_36 : decode cX11_show 36 = .ok (.if_icmp .ne 7, 3) := by decide +kernel
theorem dX11_show_39 : decode cX11_show 39 = .ok (.iconst 2, 1) := by decide +kernel
theorem dX11_show_40 : decode cX11_show 40 = .ok (.goto 4, 3) := by decide +kernel
theorem dX11_show_43 : decode cX11_show 43 = .ok (.iconst 0, 1) := by decide +kernel
theorem dX11_show_44 : decode cX11_show 44 = .ok (.invokevirtual 107, 3) := by decide +kernel
theorem dX11_show_47 : decode cX11_show 47 = .ok (.ifCond .ne 5, 3) := by decide +kernel
theorem dX11_show_50 : decode cX11_show 50 = .ok (.iconst 0, 1) := by decide +kernel
theorem dX11_show_51 : decode cX11_show 51 = .ok (.ireturn, 1) := by decide +kernel
theorem dX11_show_52 : decode cX11_show 52 = .ok (.aload_n 0, 1) := by decide +kernel
theorem dX11_show_53 : decode cX11_show 53 = .ok (.invokevirtual 164, 3) := by decide +kernel
theorem dX11_show_56 : decode cX11_show 56 = .ok (.bipush 8, 2) := by decide +kernel
theorem dX11_show_58 : decode cX11_show 58 = .ok (.iload_n 1, 1) := by decide +kernel
theorem dX11_show_59 : decode cX11_show 59 = .ok (.imul, 1) := by decide +kernel
theorem dX11_show_60 : decode cX11_show 60 = .ok (.iload_n 2, 1) := by decide +kernel
theorem dX11_show_61 : decode cX11_show 61 = .ok (.iadd, 1) := by decide +kernel
theorem dX11_show_62 : decode cX11_show 62 = .ok (.istore 4, 2) := by decide +kernel
theorem dX11_show_64 : decode cX11_show 64 = .ok (.aload_n 0, 1) := by decide +kernel
theorem dX11_show_65 : decode cX11_show 65 = .ok (.getfield 62, 3) := by decide +kernel
theorem dX11_show_68 : decode cX11_show 68 = .ok (.iload 4, 2) := by decide +kernel
theorem dX11_show_70 : decode cX11_show 70 = .ok (.iaload, 1) := by decide +kernel
theorem dX11_show_71 : decode cX11_show 71 = .ok (.istore 5, 2) := by decide +kernel
theorem dX11_show_73 : decode cX11_show 73 = .ok (.aload_n 0, 1) := by decide +kernel
theorem dX11_show_74 : decode cX11_show 74 = .ok (.getfield 86, 3) := by decide +kernel
theorem dX11_show_77 : decode cX11_show 77 = .ok (.iload 4, 2) := by decide +kernel
theorem dX11_show_79 : decode cX11_show 79 = .ok (.iaload, 1) := by decide +kernel
theorem dX11_show_80 : decode cX11_show 80 = .ok (.ifCond .ne 12, 3) := by decide +kernel
theorem dX11_show_83 : decode cX11_show 83 = .ok (.aload_n 0, 1) := by decide +kernel
theorem dX11_show_84 : decode cX11_show 84 = .ok (.iload_n 1, 1) := by decide +kernel
theorem dX11_show_85 : decode cX11_show 85 = .ok (.iload_n 2, 1) := by decide +kernel
theorem dX11_show_86 : decode cX11_show 86 = .ok (.invokevirtual 173, 3) := by decide +kernel
theorem dX11_show_89 : decode cX11_show 89 = .ok (.ifCond .eq 7, 3) := by decide +kernel
theorem dX11_show_92 : decode cX11_show 92 = .ok (.iconst (-1), 1) := by decide +kernel
theorem dX11_show_93 : decode cX11_show 93 = .ok (.goto 9, 3) := by decide +kernel
theorem dX11_show_96 : decode cX11_show 96 = .ok (.aload_n 0, 1) := by decide +kernel
theorem dX11_show_97 : decode cX11_show 97 = .ok (.iload_n 1, 1) := by decide +kernel
theorem dX11_show_98 : decode cX11_show 98 = .ok (.iload_n 2, 1) := by decide +kernel
theorem dX11_show_99 : decode cX11_show 99 = .ok (.invokevirtual 176, 3) := by decide +kernel
theorem dX11_show_102 : decode cX11_show 102 = .ok (.istore 6, 2) := by decide +kernel
theorem dX11_show_104 : decode cX11_show 104 = .ok (.iload 6, 2) := by decide +kernel
theorem dX11_show_106 : decode cX11_show 106 = .ok (.iconst (-1), 1) := by decide +kernel
theorem dX11_show_107 : decode cX11_show 107 = .ok (.if_icmp .ne 7, 3) := by decide +kernel
theorem dX11_show_110 : decode cX11_show 110 = .ok (.iconst (-1), 1) := by decide +kernel
theorem dX11_show_111 : decode cX11_show 111 = .ok (.goto 16, 3) := by decide +kernel
theorem dX11_show_114 : decode cX11_show 114 = .ok (.aload_n 0, 1) := by decide +kernel
theorem dX11_show_115 : decode cX11_show 115 = .ok (.getfield 56, 3) := by decide +kernel
theorem dX11_show_118 : decode cX11_show 118 = .ok (.iconst 5, 1) := by decide +kernel
theorem dX11_show_119 : decode cX11_show 119 = .ok (.iload_n 2, 1) := by decide +kernel
theorem dX11_show_120 : decode cX11_show 120 = .ok (.imul, 1) := by decide +kernel
theorem dX11_show_121 : decode cX11_show 121 = .ok (.iload 6, 2) := by decide +kernel
theorem dX11_show_123 : decode cX11_show 123 = .ok (.iadd, 1) := by decide +kernel
theorem dX11_show_124 : decode cX11_show 124 = .ok (.iaload, 1) := by decide +kernel
theorem dX11_show_125 : decode cX11_show 125 = .ok (.iconst 4, 1) := by decide +kernel
theorem dX11_show_126 : decode cX11_show 126 = .ok (.isub, 1) := by decide +kernel
theorem dX11_show_127 : decode cX11_show 127 = .ok (.istore 7, 2) := by decide +kernel
theorem dX11_show_129 : decode cX11_show 129 = .ok (.iload 7, 2) := by decide +kernel
theorem dX11_show_131 : decode cX11_show 131 = .ok (.ifCond .lt 71, 3) := by decide +kernel
theorem dX11_show_134 : decode cX11_show 134 = .ok (.aload_n 0, 1) := by decide +kernel
theorem dX11_show_135 : decode cX11_show 135 = .ok (.getfield 80, 3) := by decide +kernel
theorem dX11_show_138 : decode cX11_show 138 = .ok (.sipush 160, 3) := by decide +kernel
theorem dX11_show_141 : decode cX11_show 141 = .ok (.iload 7, 2) := by decide +kernel
theorem dX11_show_143 : decode cX11_show 143 = .ok (.imul, 1) := by decide +kernel
theorem dX11_show_144 : decode cX11_show 144 = .ok (.iload 4, 2) := by decide +kernel
theorem dX11_show_146 : decode cX11_show 146 = .ok (.iadd, 1) := by decide +kernel
theorem dX11_show_147 : decode cX11_show 147 = .ok (.iload 5, 2) := by decide +kernel
theorem dX11_show_149 : decode cX11_show 149 = .ok (.iconst 1, 1) := by decide +kernel
theorem dX11_show_150 : decode cX11_show 150 = .ok (.iadd, 1) := by decide +kernel
theorem dX11_show_151 : decode cX11_show 151 = .ok (.iastore, 1) := by decide +kernel
theorem dX11_show_152 : decode cX11_show 152 = .ok (.bipush 20, 2) := by decide +kernel
theorem dX11_show_154 : decode cX11_show 154 = .ok (.iload 7, 2) := by decide +kernel
theorem dX11_show_156 : decode cX11_show 156 = .ok (.imul, 1) := by decide +kernel
theorem dX11_show_157 : decode cX11_show 157 = .ok (.iload_n 1, 1) := by decide +kernel
theorem dX11_show_158 : decode cX11_show 158 = .ok (.iadd, 1) := by decide +kernel
theorem dX11_show_159 : decode cX11_show 159 = .ok (.istore 8, 2) := by decide +kernel
theorem dX11_show_161 : decode cX11_show 161 = .ok (.aload_n 0, 1) := by decide +kernel
theorem dX11_show_162 : decode cX11_show 162 = .ok (.getfield 77, 3) := by decide +kernel
theorem dX11_show_165 : decode cX11_show 165 = .ok (.iload 8, 2) := by decide +kernel
theorem dX11_show_167 : decode cX11_show 167 = .ok (.aload_n 0, 1) := by decide +kernel
theorem dX11_show_168 : decode cX11_show 168 = .ok (.getfield 74, 3) := by decide +kernel
theorem dX11_show_171 : decode cX11_show 171 = .ok (.iload 7, 2) := by decide +kernel
theorem dX11_show_173 : decode cX11_show 173 = .ok (.iaload, 1) := by decide +kernel
theorem dX11_show_174 : decode cX11_show 174 = .ok (.ifCond .ne 20, 3) := by decide +kernel
theorem dX11_show_177 : decode cX11_show 177 = .ok (.aload_n 0, 1) := by decide +kernel
theorem dX11_show_178 : decode cX11_show 178 = .ok (.getfield 77, 3) := by decide +kernel
theorem dX11_show_181 : decode cX11_show 181 = .ok (.iload 8, 2) := by decide +kernel
theorem dX11_show_183 : decode cX11_show 183 = .ok (.iaload, 1) := by decide +kernel
theorem dX11_show_184 : decode cX11_show 184 = .ok (.ifCond .ne 10, 3) := by decide +kernel
theorem dX11_show_187 : decode cX11_show 187 = .ok (.iload 5, 2) := by decide +kernel
theorem dX11_show_189 : decode cX11_show 189 = .ok (.iconst 1, 1) := by decide +kernel
theorem dX11_show_190 : decode cX11_show 190 = .ok (.iadd, 1) := by decide +kernel
theorem dX11_show_191 : decode cX11_show 191 = .ok (.goto 10, 3) := by decide +kernel
theorem dX11_show_194 : decode cX11_show 194 = .ok (.aload_n 0, 1) := by decide +kernel
theorem dX11_show_195 : decode cX11_show 195 = .ok (.getfield 77, 3) := by decide +kernel
theorem dX11_show_198 : decode cX11_show 198 = .ok (.iload 8, 2) := by decide +kernel
theorem dX11_show_200 : decode cX11_show 200 = .ok (.iaload, 1) := by decide +kernel
theorem dX11_show_201 : decode cX11_show 201 = .ok (.iastore, 1) := by decide +kernel
theorem dX11_show_202 : decode cX11_show 202 = .ok (.aload_n 0, 1) := by decide +kernel
theorem dX11_show_203 : decode cX11_show 203 = .ok (.getfield 92, 3) := by decide +kernel
theorem dX11_show_206 : decode cX11_show 206 = .ok (.iload 4, 2) := by decide +kernel
theorem dX11_show_208 : decode cX11_show 208 = .ok (.iload 5, 2) := by decide +kernel
theorem dX11_show_210 : decode cX11_show 210 = .ok (.iconst 1, 1) := by decide +kernel
theorem dX11_show_211 : decode cX11_show 211 = .ok (.iadd, 1) := by decide +kernel
theorem dX11_show_212 : decode cX11_show 212 = .ok (.iastore, 1) := by decide +kernel
theorem dX11_show_213 : decode cX11_show 213 = .ok (.aload_n 0, 1) := by decide +kernel
theorem dX11_show_214 : decode cX11_show 214 = .ok (.dup, 1) := by decide +kernel
theorem dX11_show_215 : decode cX11_show 215 = .ok (.getfield 191, 3) := by decide +kernel
theorem dX11_show_218 : decode cX11_show 218 = .ok (.iconst 1, 1) := by decide +kernel
theorem dX11_show_219 : decode cX11_show 219 = .ok (.iadd, 1) := by decide +kernel
theorem dX11_show_220 : decode cX11_show 220 = .ok (.putfield 191, 3) := by decide +kernel
theorem dX11_show_223 : decode cX11_show 223 = .ok (.iload 5, 2) := by decide +kernel
theorem dX11_show_225 : decode cX11_show 225 = .ok (.ireturn, 1) := by decide +kernel
theorem dX11_armNow_0 : decode cX11_armNow 0 = .ok (.aload_n 0, 1) := by decide +kernel
theorem dX11_armNow_1 : decode cX11_armNow 1 = .ok (.getfield 77, 3) := by decide +kernel
theorem dX11_armNow_4 : decode cX11_armNow 4 = .ok (.bipush 20, 2) := by decide +kernel
theorem dX11_armNow_6 : decode cX11_armNow 6 = .ok (.iload_n 1, 1) := by decide +kernel
theorem dX11_armNow_7 : decode cX11_armNow 7 = .ok (.imul, 1) := by decide +kernel
theorem dX11_armNow_8 : decode cX11_armNow 8 = .ok (.iload_n 2, 1) := by decide +kernel
theorem dX11_armNow_9 : decode cX11_armNow 9 = .ok (.iadd, 1) := by decide +kernel
theorem dX11_armNow_10 : decode cX11_armNow 10 = .ok (.iaload, 1) := by decide +kernel
theorem dX11_armNow_11 : decode cX11_armNow 11 = .ok (.istore_n 3, 1) := by decide +kernel
theorem dX11_armNow_12 : decode cX11_armNow 12 = .ok (.aload_n 0, 1) := by decide +kernel
theorem dX11_armNow_13 : decode cX11_armNow 13 = .ok (.getfield 74, 3) := by decide +kernel
theorem dX11_armNow_16 : decode cX11_armNow 16 = .ok (.iload_n 1, 1) := by decide +kernel
theorem dX11_armNow_17 : decode cX11_armNow 17 = .ok (.iaload, 1) := by decide +kernel
theorem dX11_armNow_18 : decode cX11_armNow 18 = .ok (.ifCond .gt 7, 3) := by decide +kernel
theorem dX11_armNow_21 : decode cX11_armNow 21 = .ok (.iload_n 3, 1) := by decide +kernel
theorem dX11_armNow_22 : decode cX11_armNow 22 = .ok (.ifCond .le 27, 3) := by decide +kernel
theorem dX11_armNow_25 : decode cX11_armNow 25 = .ok (.aload_n 0, 1) := by decide +kernel
theorem dX11_armNow_26 : decode cX11_armNow 26 = .ok (.getfield 74, 3) := by decide +kernel
theorem dX11_armNow_29 : decode cX11_armNow 29 = .ok (.iload_n 1, 1) := by decide +kernel
theorem dX11_armNow_30 : decode cX11_armNow 30 = .ok (.iaload, 1) := by decide +kernel
theorem dX11_armNow_31 : decode cX11_armNow 31 = .ok (.ifCond .le 14, 3) := by decide +kernel
theorem dX11_armNow_34 : decode cX11_armNow 34 = .ok (.aload_n 0, 1) := by decide +kernel
theorem dX11_armNow_35 : decode cX11_armNow 35 = .ok (.getfield 74, 3) := by decide +kernel
theorem dX11_armNow_38 : decode cX11_armNow 38 = .ok (.iload_n 1, 1) := by decide +kernel
theorem dX11_armNow_39 : decode cX11_armNow 39 = .ok (.iaload, 1) := by decide +kernel
theorem dX11_armNow_40 : decode cX11_armNow 40 = .ok (.iconst 1, 1) := by decide +kernel
theorem dX11_armNow_41 : decode cX11_armNow 41 = .ok (.isub, 1) := by decide +kernel
theorem dX11_armNow_42 : decode cX11_armNow 42 = .ok (.goto 6, 3) := by decide +kernel
theorem dX11_armNow_45 : decode cX11_armNow 45 = .ok (.iload_n 3, 1) := by decide +kernel
theorem dX11_armNow_46 : decode cX11_armNow 46 = .ok (.iconst 1, 1) := by decide +kernel
theorem dX11_armNow_47 : decode cX11_armNow 47 = .ok (.isub, 1) := by decide +kernel
theorem dX11_armNow_48 : decode cX11_armNow 48 = .ok (.ireturn, 1) := by decide +kernel
theorem dX11_armNow_49 : decode cX11_armNow 49 = .ok (.iconst 0, 1) := by decide +kernel
theorem dX11_armNow_50 : decode cX11_armNow 50 = .ok (.istore 4, 2) := by decide +kernel
theorem dX11_armNow_52 : decode cX11_armNow 52 = .ok (.iconst 0, 1) := by decide +kernel
theorem dX11_armNow_53 : decode cX11_armNow 53 = .ok (.istore 5, 2) := by decide +kernel
theorem dX11_armNow_55 : decode cX11_armNow 55 = .ok (.iload 5, 2) := by decide +kernel
theorem dX11_armNow_57 : decode cX11_armNow 57 = .ok (.iconst 4, 1) := by decide +kernel
theorem dX11_armNow_58 : decode cX11_armNow 58 = .ok (.if_icmp .ge 25, 3) := by decide +kernel
theorem dX11_armNow_61 : decode cX11_armNow 61 = .ok (.iload 4, 2) := by decide +kernel
theorem dX11_armNow_63 : decode cX11_armNow 63 = .ok (.aload_n 0, 1) := by decide +kernel
theorem dX11_armNow_64 : decode cX11_armNow 64 = .ok (.getfield 68, 3) := by decide +kernel
theorem dX11_armNow_67 : decode cX11_armNow 67 = .ok (.iconst 4, 1) := by decide +kernel
theorem dX11_armNow_68 : decode cX11_armNow 68 = .ok (.iload_n 1, 1) := by decide +kernel
theorem dX11_armNow_69 : decode cX11_armNow 69 = .ok (.imul, 1) := by decide +kernel
theorem dX11_armNow_70 : decode cX11_armNow 70 = .ok (.iload 5, 2) := by decide +kernel
theorem dX11_armNow_72 : decode cX11_armNow 72 = .ok (.iadd, 1) := by decide +kernel
theorem dX11_armNow_73 : decode cX11_armNow 73 = .ok (.iaload, 1) := by decide +kernel
theorem dX11_armNow_74 : decode cX11_armNow 74 = .ok (.iadd, 1) := by decide +kernel
theorem dX11_armNow_75 : decode cX11_armNow 75 = .ok (.istore 4, 2) := by decide +kernel
theorem dX11_armNow_77 : decode cX11_armNow 77 = .ok (.iinc 5 1, 3) := by decide +kernel
theorem dX11_armNow_80 : decode cX11_armNow 80 = .ok (.goto (-25), 3) := by decide +kernel
theorem dX11_armNow_83 : decode cX11_armNow 83 = .ok (.iload 4, 2) := by decide +kernel
theorem dX11_armNow_85 : decode cX11_armNow 85 = .ok (.ifCond .ne 5, 3) := by decide +kernel
theorem dX11_armNow_88 : decode cX11_armNow 88 = .ok (.iconst 0, 1) := by decide +kernel
theorem dX11_armNow_89 : decode cX11_armNow 89 = .ok (.ireturn, 1) := by decide +kernel
theorem dX11_armNow_90 : decode cX11_armNow 90 = .ok (.sipush 7919, 3) := by decide +kernel
theorem dX11_armNow_93 : decode cX11_armNow 93 = .ok (.iload_n 2, 1) := by decide +kernel
theorem dX11_armNow_94 : decode cX11_armNow 94 = .ok (.imul, 1) := by decide +kernel
theorem dX11_armNow_95 : decode cX11_armNow 95 = .ok (.ldc 194, 2) := by decide +kernel
theorem dX11_armNow_97 : decode cX11_armNow 97 = .ok (.aload_n 0, 1) := by decide +kernel
theorem dX11_armNow_98 : decode cX11_armNow 98 = .ok (.getfield 71, 3) := by decide +kernel
theorem dX11_armNow_101 : decode cX11_armNow 101 = .ok (.iload_n 1, 1) := by decide +kernel
theorem dX11_armNow_102 : decode cX11_armNow 102 = .ok (.iaload, 1) := by decide +kernel
theorem dX11_armNow_103 : decode cX11_armNow 103 = .ok (.imul, 1) := by decide +kernel
theorem dX11_armNow_104 : decode cX11_armNow 104 = .ok (.iadd, 1) := by decide +kernel
theorem dX11_armNow_105 : decode cX11_armNow 105 = .ok (.bipush 13, 2) := by decide +kernel
theorem dX11_armNow_107 : decode cX11_armNow 107 = .ok (.iadd, 1) := by decide +kernel
theorem dX11_armNow_108 : decode cX11_armNow 108 = .ok (.ldc 195, 2) := by decide +kernel
theorem dX11_armNow_110 : decode cX11_armNow 110 = .ok (.irem, 1) := by decide +kernel
theorem dX11_armNow_111 : decode cX11_armNow 111 = .ok (.iload 4, 2) := by decide +kernel
theorem dX11_armNow_113 : decode cX11_armNow 113 = .ok (.irem, 1) := by decide +kernel
theorem dX11_armNow_114 : decode cX11_armNow 114 = .ok (.istore 5, 2) := by decide +kernel
theorem dX11_armNow_116 : decode cX11_armNow 116 = .ok (.iconst 0, 1) := by decide +kernel
theorem dX11_armNow_117 : decode cX11_armNow 117 = .ok (.istore 6, 2) := by decide +kernel
theorem dX11_armNow_119 : decode cX11_armNow 119 = .ok (.aload_n 0, 1) := by decide +kernel
theorem dX11_armNow_120 : decode cX11_armNow 120 = .ok (.getfield 68, 3) := by decide +kernel
theorem dX11_armNow_123 : decode cX11_armNow 123 = .ok (.iconst 4, 1) := by decide +kernel
theorem dX11_armNow_124 : decode cX11_armNow 124 = .ok (.iload_n 1, 1) := by decide +kernel
theorem dX11_armNow_125 : decode cX11_armNow 125 = .ok (.imul, 1) := by decide +kernel
theorem dX11_armNow_126 : decode cX11_armNow 126 = .ok (.iload 6, 2) := by decide +kernel
theorem dX11_armNow_128 : decode cX11_armNow 128 = .ok (.iadd, 1) := by decide +kernel
theorem dX11_armNow_129 : decode cX11_armNow 129 = .ok (.iaload, 1) := by decide +kernel
theorem dX11_armNow_130 : decode cX11_armNow 130 = .ok (.iload 5, 2) := by decide +kernel
theorem dX11_armNow_132 : decode cX11_armNow 132 = .ok (.if_icmp .gt 25, 3) := by decide +kernel
theorem dX11_armNow_135 : decode cX11_armNow 135 = .ok (.iload 5, 2) := by decide +kernel
theorem dX11_armNow_137 : decode cX11_armNow 137 = .ok (.aload_n 0, 1) := by decide +kernel
theorem dX11_armNow_138 : decode cX11_armNow 138 = .ok (.getfield 68, 3) := by decide +kernel
theorem dX11_armNow_141 : decode cX11_armNow 141 = .ok (.iconst 4, 1) := by decide +kernel
theorem dX11_armNow_142 : decode cX11_armNow 142 = .ok (.iload_n 1, 1) := by decide +kernel
theorem dX11_armNow_143 : decode cX11_armNow 143 = .ok (.imul, 1) := by decide +kernel
theorem dX11_armNow_144 : decode cX11_armNow 144 = .ok (.iload 6, 2) := by decide +kernel
theorem dX11_armNow_146 : decode cX11_armNow 146 = .ok (.iadd, 1) := by decide +kernel
theorem dX11_armNow_147 : decode cX11_armNow 147 = .ok (.iaload, 1) := by decide +kernel
theorem dX11_armNow_148 : decode cX11_armNow 148 = .ok (.isub, 1) := by decide +kernel
theorem dX11_armNow_149 : decode cX11_armNow 149 = .ok (.istore 5, 2) := by decide +kernel
theorem dX11_armNow_151 : decode cX11_armNow 151 = .ok (.iinc 6 1, 3) := by decide +kernel
theorem dX11_armNow_154 : decode cX11_armNow 154 = .ok (.goto (-35), 3) := by decide +kernel
theorem dX11_armNow_157 : decode cX11_armNow 157 = .ok (.iload 6, 2) := by decide +kernel
theorem dX11_armNow_159 : decode cX11_armNow 159 = .ok (.ireturn, 1) := by decide +kernel
theorem dX11_setShares_0 : decode cX11_setShares 0 = .ok (.iload_n 1, 1) := by decide +kernel
theorem dX11_setShares_1 : decode cX11_setShares 1 = .ok (.invokestatic 196, 3) := by decide +kernel
theorem dX11_setShares_4 : decode cX11_setShares 4 = .ok (.ifCond .eq 49, 3) := by decide +kernel
theorem dX11_setShares_7 : decode cX11_setShares 7 = .ok (.iload_n 2, 1) := by decide +kernel
theorem dX11_setShares_8 : decode cX11_setShares 8 = .ok (.iconst 0, 1) := by decide +kernel
theorem dX11_setShares_9 : decode cX11_setShares 9 = .ok (.bipush 100, 2) := by decide +kernel
theorem dX11_setShares_11 : decode cX11_setShares 11 = .ok (.invokestatic 99, 3) := by decide +kernel
theorem dX11_setShares_14 : decode cX11_setShares 14 = .ok (.ifCond .eq 39, 3) := by decide +kernel
theorem dX11_setShares_17 : decode cX11_setShares 17 = .ok (.iload_n 3, 1) := by decide +kernel
theorem dX11_setShares_18 : decode cX11_setShares 18 = .ok (.iconst 0, 1) := by decide +kernel
theorem dX11_setShares_19 : decode cX11_setShares 19 = .ok (.bipush 100, 2) := by decide +kernel
theorem dX11_setShares_21 : decode cX11_setShares 21 = .ok (.invokestatic 99, 3) := by decide +kernel
theorem dX11_setShares_24 : decode cX11_setShares 24 = .ok (.ifCond .eq 29, 3) := by decide +kernel
theorem dX11_setShares_27 : decode cX11_setShares 27 = .ok (.iload 4, 2) := by decide +kernel
theorem dX11_setShares_29 : decode cX11_setShares 29 = .ok (.iconst 0, 1) := by decide +kernel
theorem dX11_setShares_30 : decode cX11_setShares 30 = .ok (.bipush 100, 2) := by decide +kernel
theorem dX11_setShares_32 : decode cX11_setShares 32 = .ok (.invokestatic 99, 3) := by decide +kernel
theorem dX11_setShares_35 : decode cX11_setShares 35 = .ok (.ifCond .eq 18, 3) := by decide +kernel
theorem dX11_setShares_38 : decode cX11_setShares 38 = .ok (.iload 5, 2) := by decide +kernel
theorem dX11_setShares_40 : decode cX11_setShares 40 = .ok (.iconst 0, 1) := by decide +kernel
theorem dX11_setShares_41 : decode cX11_setShares 41 = .ok (.bipush 100, 2) := by decide +kernel
theorem dX11_setShares_43 : decode cX11_setShares 43 = .ok (.invokestatic 99, 3) := by decide +kernel
theorem dX11_setShares_46 : decode cX11_setShares 46 = .ok (.ifCond .eq 7, 3) := by decide +kernel
theorem dX11_setShares_49 : decode cX11_setShares 49 = .ok (.iconst 1, 1) := by decide +kernel
theorem dX11_setShares_50 : decode cX11_setShares 50 = .ok (.goto 4, 3) := by decide +kernel
theorem dX11_setShares_53 : decode cX11_setShares 53 = .ok (.iconst 0, 1) := by decide +kernel
theorem dX11_setShares_54 : decode cX11_setShares 54 = .ok (.istore 6, 2) := by decide +kernel
theorem dX11_setShares_56 : decode cX11_setShares 56 = .ok (.aload_n 0, 1) := by decide +kernel
theorem dX11_setShares_57 : decode cX11_setShares 57 = .ok (.iload 6, 2) := by decide +kernel
theorem dX11_setShares_59 : decode cX11_setShares 59 = .ok (.ifCond .ne 7, 3) := by decide +kernel
theorem dX11_setShares_62 : decode cX11_setShares 62 = .ok (.iconst 1, 1) := by decide +kernel
theorem dX11_setShares_63 : decode cX11_setShares 63 = .ok (.goto 17, 3) := by decide +kernel
theorem dX11_setShares_66 : decode cX11_setShares 66 = .ok (.aload_n 0, 1) := by decide +kernel
theorem dX11_setShares_67 : decode cX11_setShares 67 = .ok (.getfield 83, 3) := by decide +kernel
theorem dX11_setShares_70 : decode cX11_setShares 70 = .ok (.iload_n 1, 1) := by decide +kernel
theorem dX11_setShares_71 : decode cX11_setShares 71 = .ok (.baload, 1) := by decide +kernel
theorem dX11_setShares_72 : decode cX11_setShares 72 = .ok (.ifCond .eq 7, 3) := by decide +kernel
theorem dX11_setShares_75 : decode cX11_setShares 75 = .ok (.iconst 2, 1) := by decide +kernel
theorem dX11_setShares_76 : decode cX11_setShares 76 = .ok (.goto 4, 3) := by decide +kernel
theorem dX11_setShares_79 : decode cX11_setShares 79 = .ok (.iconst 0, 1) := by decide +kernel
theorem dX11_setShares_80 : decode cX11_setShares 80 = .ok (.invokevirtual 107, 3) := by decide +kernel
theorem dX11_setShares_83 : decode cX11_setShares 83 = .ok (.ifCond .ne 5, 3) := by decide +kernel
theorem dX11_setShares_86 : decode cX11_setShares 86 = .ok (.iconst 0, 1) := by decide +kernel
theorem dX11_setShares_87 : decode cX11_setShares 87 = .ok (.ireturn, 1) := by decide +kernel
theorem dX11_setShares_88 : decode cX11_setShares 88 = .ok (.iconst 4, 1) := by decide +kernel
theorem dX11_setShares_89 : decode cX11_setShares 89 = .ok (.iload_n 1, 1) := by decide +kernel
theorem dX11_setShares_90 : decode cX11_setShares 90 = .ok (.imul, 1) := by decide +kernel
theorem dX11_setShares_91 : decode cX11_setShares 91 = .ok (.istore 7, 2) := by decide +kernel
theorem dX11_setShares_93 : decode cX11_setShares 93 = .ok (.aload_n 0, 1) := by decide +kernel
theorem dX11_setShares_94 : decode cX11_setShares 94 = .ok (.getfield 68, 3) := by decide +kernel
theorem dX11_setShares_97 : decode cX11_setShares 97 = .ok (.iload 7, 2) := by decide +kernel
theorem dX11_setShares_99 : decode cX11_setShares 99 = .ok (.iaload, 1) := by decide +kernel
theorem dX11_setShares_100 : decode cX11_setShares 100 = .ok (.aload_n 0, 1) := by decide +kernel
theorem dX11_setShares_101 : decode cX11_setShares 101 = .ok (.getfield 68, 3) := by decide +kernel
theorem dX11_setShares_104 : decode cX11_setShares 104 = .ok (.iload 7, 2) := by decide +kernel
theorem dX11_setShares_106 : decode cX11_setShares 106 = .ok (.iconst 1, 1) := by decide +kernel
theorem dX11_setShares_107 : decode cX11_setShares 107 = .ok (.iadd, 1) := by decide +kernel
theorem dX11_setShares_108 : decode cX11_setShares 108 = .ok (.iaload, 1) := by decide +kernel
theorem dX11_setShares_109 : decode cX11_setShares 109 = .ok (.iadd, 1) := by decide +kernel
theorem dX11_setShares_110 : decode cX11_setShares 110 = .ok (.aload_n 0, 1) := by decide +kernel
theorem dX11_setShares_111 : decode cX11_setShares 111 = .ok (.getfield 68, 3) := by decide +kernel
theorem dX11_setShares_114 : decode cX11_setShares 114 = .ok (.iload 7, 2) := by decide +kernel
theorem dX11_setShares_116 : decode cX11_setShares 116 = .ok (.iconst 2, 1) := by decide +kernel
theorem dX11_setShares_117 : decode cX11_setShares 117 = .ok (.iadd, 1) := by decide +kernel
theorem dX11_setShares_118 : decode cX11_setShares 118 = .ok (.iaload, 1) := by decide +kernel
theorem dX11_setShares_119 : decode cX11_setShares 119 = .ok (.iadd, 1) := by decide +kernel
theorem dX11_setShares_120 : decode cX11_setShares 120 = .ok (.aload_n 0, 1) := by decide +kernel
theorem dX11_setShares_121 : decode cX11_setShares 121 = .ok (.getfield 68, 3) := by decide +kernel
theorem dX11_setShares_124 : decode cX11_setShares 124 = .ok (.iload 7, 2) := by decide +kernel
theorem dX11_setShares_126 : decode cX11_setShares 126 = .ok (.iconst 3, 1) := by decide +kernel
theorem dX11_setShares_127 : decode cX11_setShares 127 = .ok (.iadd, 1) := by decide +kernel
theorem dX11_setShares_128 : decode cX11_setShares 128 = .ok (.iaload, 1) := by decide +kernel
theorem dX11_setShares_129 : decode cX11_setShares 129 = .ok (.iadd, 1) := by decide +kernel
theorem dX11_setShares_130 : decode cX11_setShares 130 = .ok (.istore 8, 2) := by decide +kernel
theorem dX11_setShares_132 : decode cX11_setShares 132 = .ok (.aload_n 0, 1) := by decide +kernel
theorem dX11_setShares_133 : decode cX11_setShares 133 = .ok (.getfield 68, 3) := by decide +kernel
theorem dX11_setShares_136 : decode cX11_setShares 136 = .ok (.iload 7, 2) := by decide +kernel
theorem dX11_setShares_138 : decode cX11_setShares 138 = .ok (.iload_n 2, 1) := by decide +kernel
theorem dX11_setShares_139 : decode cX11_setShares 139 = .ok (.iastore, 1) := by decide +kernel
theorem dX11_setShares_140 : decode cX11_setShares 140 = .ok (.aload_n 0, 1) := by decide +kernel
theorem dX11_setShares_141 : decode cX11_setShares 141 = .ok (.getfield 68, 3) := by decide +kernel
theorem dX11_setShares_144 : decode cX11_setShares 144 = .ok (.iload 7, 2) := by decide +kernel
theorem dX11_setShares_146 : decode cX11_setShares 146 = .ok (.iconst 1, 1) := by decide +kernel
theorem dX11_setShares_147 : decode cX11_setShares 147 = .ok (.iadd, 1) := by decide +kernel
theorem dX11_setShares_148 : decode cX11_setShares 148 = .ok (.iload_n 3, 1) := by decide +kernel
theorem dX11_setShares_149 : decode cX11_setShares 149 = .ok (.iastore, 1) := by decide +kernel
theorem dX11_setShares_150 : decode cX11_setShares 150 = .ok (.aload_n 0, 1) := by decide +kernel
theorem dX11_setShares_151 : decode cX11_setShares 151 = .ok (.getfield 68, 3) := by decide +kernel
theorem dX11_setShares_154 : decode cX11_setShares 154 = .ok (.iload 7, 2) := by decide +kernel
theorem dX11_setShares_156 : decode cX11_setShares 156 = .ok (.iconst 2, 1) := by decide +kernel
theorem dX11_setShares_157 : decode cX11_setShares 157 = .ok (.iadd, 1) := by decide +kernel
theorem dX11_setShares_158 : decode cX11_setShares 158 = .ok (.iload 4, 2) := by decide +kernel
theorem dX11_setShares_160 : decode cX11_setShares 160 = .ok (.iastore, 1) := by decide +kernel
theorem dX11_setShares_161 : decode cX11_setShares 161 = .ok (.aload_n 0, 1) := by decide +kernel
theorem dX11_setShares_162 : decode cX11_setShares 162 = .ok (.getfield 68, 3) := by decide +kernel
theorem dX11_setShares_165 : decode cX11_setShares 165 = .ok (.iload 7, 2) := by decide +kernel
theorem dX11_setShares_167 : decode cX11_setShares 167 = .ok (.iconst 3, 1) := by decide +kernel
theorem dX11_setShares_168 : decode cX11_setShares 168 = .ok (.iadd, 1) := by decide +kernel
theorem dX11_setShares_169 : decode cX11_setShares 169 = .ok (.iload 5, 2) := by decide +kernel
theorem dX11_setShares_171 : decode cX11_setShares 171 = .ok (.iastore, 1) := by decide +kernel
theorem dX11_setShares_172 : decode cX11_setShares 172 = .ok (.iload 8, 2) := by decide +kernel
theorem dX11_setShares_174 : decode cX11_setShares 174 = .ok (.ireturn, 1) := by decide +kernel
theorem dX11_setSalt_0 : decode cX11_setSalt 0 = .ok (.iload_n 1, 1) := by decide +kernel
theorem dX11_setSalt_1 : decode cX11_setSalt 1 = .ok (.invokestatic 196, 3) := by decide +kernel
theorem dX11_setSalt_4 : decode cX11_setSalt 4 = .ok (.ifCond .eq 18, 3) := by decide +kernel
theorem dX11_setSalt_7 : decode cX11_setSalt 7 = .ok (.iload_n 2, 1) := by decide +kernel
theorem dX11_setSalt_8 : decode cX11_setSalt 8 = .ok (.iconst 0, 1) := by decide +kernel
theorem dX11_setSalt_9 : decode cX11_setSalt 9 = .ok (.sipush 1000, 3) := by decide +kernel
theorem dX11_setSalt_12 : decode cX11_setSalt 12 = .ok (.invokestatic 99, 3) := by decide +kernel
theorem dX11_setSalt_15 : decode cX11_setSalt 15 = .ok (.ifCond .eq 7, 3) := by decide +kernel
theorem dX11_setSalt_18 : decode cX11_setSalt 18 = .ok (.iconst 1, 1) := by decide +kernel
theorem dX11_setSalt_19 : decode cX11_setSalt 19 = .ok (.goto 4, 3) := by decide +kernel
theorem dX11_setSalt_22 : decode cX11_setSalt 22 = .ok (.iconst 0, 1) := by decide +kernel
theorem dX11_setSalt_23 : decode cX11_setSalt 23 = .ok (.istore_n 3, 1) := by decide +kernel
theorem dX11_setSalt_24 : decode cX11_setSalt 24 = .ok (.aload_n 0, 1) := by decide +kernel
theorem dX11_setSalt_25 : decode cX11_setSalt 25 = .ok (.iload_n 3, 1) := by decide +kernel
theorem dX11_setSalt_26 : decode cX11_setSalt 26 = .ok (.ifCond .ne 7, 3) := by decide +kernel
theorem dX11_setSalt_29 : decode cX11_setSalt 29 = .ok (.iconst 1, 1) := by decide +kernel
theorem dX11_setSalt_30 : decode cX11_setSalt 30 = .ok (.goto 17, 3) := by decide +kernel
theorem dX11_setSalt_33 : decode cX11_setSalt 33 = .ok (.aload_n 0, 1) := by decide +kernel
theorem dX11_setSalt_34 : decode cX11_setSalt 34 = .ok (.getfield 83, 3) := by decide +kernel
theorem dX11_setSalt_37 : decode cX11_setSalt 37 = .ok (.iload_n 1, 1) := by decide +kernel
theorem dX11_setSalt_38 : decode cX11_setSalt 38 = .ok (.baload, 1) := by decide +kernel
theorem dX11_setSalt_39 : decode cX11_setSalt 39 = .ok (.ifCond .eq 7, 3) := by decide +kernel
theorem dX11_setSalt_42 : decode cX11_setSalt 42 = .ok (.iconst 2, 1) := by decide +kernel
theorem dX11_setSalt_43 : decode cX11_setSalt 43 = .ok (.goto 4, 3) := by decide +kernel
theorem dX11_setSalt_46 : decode cX11_setSalt 46 = .ok (.iconst 0, 1) := by decide +kernel
theorem dX11_setSalt_47 : decode cX11_setSalt 47 = .ok (.invokevirtual 107, 3) := by decide +kernel
theorem dX11_setSalt_50 : decode cX11_setSalt 50 = .ok (.ifCond .ne 5, 3) := by decide +kernel
theorem dX11_setSalt_53 : decode cX11_setSalt 53 = .ok (.iconst 0, 1) := by decide +kernel
theorem dX11_setSalt_54 : decode cX11_setSalt 54 = .ok (.ireturn, 1) := by decide +kernel
theorem dX11_setSalt_55 : decode cX11_setSalt 55 = .ok (.aload_n 0, 1) := by decide +kernel
theorem dX11_setSalt_56 : decode cX11_setSalt 56 = .ok (.getfield 71, 3) := by decide +kernel
theorem dX11_setSalt_59 : decode cX11_setSalt 59 = .ok (.iload_n 1, 1) := by decide +kernel
theorem dX11_setSalt_60 : decode cX11_setSalt 60 = .ok (.iaload, 1) := by decide +kernel
theorem dX11_setSalt_61 : decode cX11_setSalt 61 = .ok (.istore 4, 2) := by decide +kernel
theorem dX11_setSalt_63 : decode cX11_setSalt 63 = .ok (.aload_n 0, 1) := by decide +kernel
theorem dX11_setSalt_64 : decode cX11_setSalt 64 = .ok (.getfield 71, 3) := by decide +kernel
theorem dX11_setSalt_67 : decode cX11_setSalt 67 = .ok (.iload_n 1, 1) := by decide +kernel
theorem dX11_setSalt_68 : decode cX11_setSalt 68 = .ok (.iload_n 2, 1) := by decide +kernel
theorem dX11_setSalt_69 : decode cX11_setSalt 69 = .ok (.iastore, 1) := by decide +kernel
theorem dX11_setSalt_70 : decode cX11_setSalt 70 = .ok (.iload 4, 2) := by decide +kernel
theorem dX11_setSalt_72 : decode cX11_setSalt 72 = .ok (.ireturn, 1) := by decide +kernel
theorem dX11_stop_0 : decode cX11_stop 0 = .ok (.iload_n 1, 1) := by decide +kernel
theorem dX11_stop_1 : decode cX11_stop 1 = .ok (.invokestatic 196, 3) := by decide +kernel
theorem dX11_stop_4 : decode cX11_stop 4 = .ok (.ifCond .eq 14, 3) := by decide +kernel
theorem dX11_stop_7 : decode cX11_stop 7 = .ok (.iload_n 2, 1) := by decide +kernel
theorem dX11_stop_8 : decode cX11_stop 8 = .ok (.invokestatic 188, 3) := by decide +kernel
theorem dX11_stop_11 : decode cX11_stop 11 = .ok (.ifCond .eq 7, 3) := by decide +kernel
theorem dX11_stop_14 : decode cX11_stop 14 = .ok (.iconst 1, 1) := by decide +kernel
theorem dX11_stop_15 : decode cX11_stop 15 = .ok (.goto 4, 3) := by decide +kernel
theorem dX11_stop_18 : decode cX11_stop 18 = .ok (.iconst 0, 1) := by decide +kernel
theorem dX11_stop_19 : decode cX11_stop 19 = .ok (.istore_n 3, 1) := by decide +kernel
theorem dX11_stop_20 : decode cX11_stop 20 = .ok (.aload_n 0, 1) := by decide +kernel
theorem dX11_stop_21 : decode cX11_stop 21 = .ok (.iload_n 3, 1) := by decide +kernel
theorem dX11_stop_22 : decode cX11_stop 22 = .ok (.ifCond .ne 7, 3) := by decide +kernel
theorem dX11_stop_25 : decode cX11_stop 25 = .ok (.iconst 1, 1) := by decide +kernel
theorem dX11_stop_26 : decode cX11_stop 26 = .ok (.goto 17, 3) := by decide +kernel
theorem dX11_stop_29 : decode cX11_stop 29 = .ok (.aload_n 0, 1) := by decide +kernel
theorem dX11_stop_30 : decode cX11_stop 30 = .ok (.getfield 83, 3) := by decide +kernel
theorem dX11_stop_33 : decode cX11_stop 33 = .ok (.iload_n 1, 1) := by decide +kernel
theorem dX11_stop_34 : decode cX11_stop 34 = .ok (.baload, 1) := by decide +kernel
theorem dX11_stop_35 : decode cX11_stop 35 = .ok (.ifCond .eq 7, 3) := by decide +kernel
theorem dX11_stop_38 : decode cX11_stop 38 = .ok (.iconst 2, 1) := by decide +kernel
theorem dX11_stop_39 : decode cX11_stop 39 = .ok (.goto 4, 3) := by decide +kernel
theorem dX11_stop_42 : decode cX11_stop 42 = .ok (.iconst 0, 1) := by decide +kernel
theorem dX11_stop_43 : decode cX11_stop 43 = .ok (.invokevirtual 107, 3) := by decide +kernel
theorem dX11_stop_46 : decode cX11_stop 46 = .ok (.ifCond .ne 5, 3) := by decide +kernel
theorem dX11_stop_49 : decode cX11_stop 49 = .ok (.iconst 0, 1) := by decide +kernel
theorem dX11_stop_50 : decode cX11_stop 50 = .ok (.ireturn, 1) := by decide +kernel
theorem dX11_stop_51 : decode cX11_stop 51 = .ok (.iconst 0, 1) := by decide +kernel
theorem dX11_stop_52 : decode cX11_stop 52 = .ok (.istore 4, 2) := by decide +kernel
theorem dX11_stop_54 : decode cX11_stop 54 = .ok (.iconst 0, 1) := by decide +kernel
theorem dX11_stop_55 : decode cX11_stop 55 = .ok (.istore 5, 2) := by decide +kernel
theorem dX11_stop_57 : decode cX11_stop 57 = .ok (.iload 5, 2) := by decide +kernel
theorem dX11_stop_59 : decode cX11_stop 59 = .ok (.bipush 20, 2) := by decide +kernel
theorem dX11_stop_61 : decode cX11_stop 61 = .ok (.if_icmp .ge 30, 3) := by decide +kernel
theorem dX11_stop_64 : decode cX11_stop 64 = .ok (.iload 4, 2) := by decide +kernel
theorem dX11_stop_66 : decode cX11_stop 66 = .ok (.aload_n 0, 1) := by decide +kernel
theorem dX11_stop_67 : decode cX11_stop 67 = .ok (.iload_n 1, 1) := by decide +kernel
theorem dX11_stop_68 : decode cX11_stop 68 = .ok (.iload 5, 2) := by decide +kernel
theorem dX11_stop_70 : decode cX11_stop 70 = .ok (.invokevirtual 179, 3) := by decide +kernel
theorem dX11_stop_73 : decode cX11_stop 73 = .ok (.iload_n 2, 1) := by decide +kernel
theorem dX11_stop_74 : decode cX11_stop 74 = .ok (.if_icmp .ne 7, 3) := by decide +kernel
theorem dX11_stop_77 : decode cX11_stop 77 = .ok (.iconst 0, 1) := by decide +kernel
theorem dX11_stop_78 : decode cX11_stop 78 = .ok (.goto 4, 3) := by decide +kernel
theorem dX11_stop_81 : decode cX11_stop 81 = .ok (.iconst 1, 1) := by decide +kernel
theorem dX11_stop_82 : decode cX11_stop 82 = .ok (.iadd, 1) := by decide +kernel
theorem dX11_stop_83 : decode cX11_stop 83 = .ok (.istore 4, 2) := by decide +kernel
theorem dX11_stop_85 : decode cX11_stop 85 = .ok (.iinc 5 1, 3) := by decide +kernel
theorem dX11_stop_88 : decode cX11_stop 88 = .ok (.goto (-31), 3) := by decide +kernel
theorem dX11_stop_91 : decode cX11_stop 91 = .ok (.aload_n 0, 1) := by decide +kernel
theorem dX11_stop_92 : decode cX11_stop 92 = .ok (.getfield 74, 3) := by decide +kernel
theorem dX11_stop_95 : decode cX11_stop 95 = .ok (.iload_n 1, 1) := by decide +kernel
theorem dX11_stop_96 : decode cX11_stop 96 = .ok (.iload_n 2, 1) := by decide +kernel
theorem dX11_stop_97 : decode cX11_stop 97 = .ok (.iconst 1, 1) := by decide +kernel
theorem dX11_stop_98 : decode cX11_stop 98 = .ok (.iadd, 1) := by decide +kernel
theorem dX11_stop_99 : decode cX11_stop 99 = .ok (.iastore, 1) := by decide +kernel
theorem dX11_stop_100 : decode cX11_stop 100 = .ok (.iload 4, 2) := by decide +kernel
theorem dX11_stop_102 : decode cX11_stop 102 = .ok (.ireturn, 1) := by decide +kernel
theorem dX11_beginAnew_0 : decode cX11_beginAnew 0 = .ok (.iload_n 1, 1) := by decide +kernel
theorem dX11_beginAnew_1 : decode cX11_beginAnew 1 = .ok (.invokestatic 196, 3) := by decide +kernel
theorem dX11_beginAnew_4 : decode cX11_beginAnew 4 = .ok (.istore_n 2, 1) := by decide +kernel
theorem dX11_beginAnew_5 : decode cX11_beginAnew 5 = .ok (.aload_n 0, 1) := by decide +kernel
theorem dX11_beginAnew_6 : decode cX11_beginAnew 6 = .ok (.iload_n 2, 1) := by decide +kernel
theorem dX11_beginAnew_7 : decode cX11_beginAnew 7 = .ok (.ifCond .ne 7, 3) := by decide +kernel
theorem dX11_beginAnew_10 : decode cX11_beginAnew 10 = .ok (.iconst 1, 1) := by decide +kernel
theorem dX11_beginAnew_11 : decode cX11_beginAnew 11 = .ok (.goto 27, 3) := by decide +kernel
theorem dX11_beginAnew_14 : decode cX11_beginAnew 14 = .ok (.aload_n 0, 1) := by decide +kernel
theorem dX11_beginAnew_15 : decode cX11_beginAnew 15 = .ok (.getfield 83, 3) := by decide +kernel
theorem dX11_beginAnew_18 : decode cX11_beginAnew 18 = .ok (.iload_n 1, 1) := by decide +kernel
theorem dX11_beginAnew_19 : decode cX11_beginAnew 19 = .ok (.baload, 1) := by decide +kernel
theorem dX11_beginAnew_20 : decode cX11_beginAnew 20 = .ok (.ifCond .ne 13, 3) := by decide +kernel
theorem dX11_beginAnew_23 : decode cX11_beginAnew 23 = .ok (.aload_n 0, 1) := by decide +kernel
theorem dX11_beginAnew_24 : decode cX11_beginAnew 24 = .ok (.getfield 191, 3) := by decide +kernel
theorem dX11_beginAnew_27 : decode cX11_beginAnew 27 = .ok (.sipush 400, 3) := by decide +kernel
theorem dX11_beginAnew_30 : decode cX11_beginAnew 30 = .ok (.if_icmp .ne 7, 3) := by decide +kernel
theorem dX11_beginAnew_33 : decode cX11_beginAnew 33 = .ok (.iconst 2, 1) := by decide +kernel
theorem dX11_beginAnew_34 : decode cX11_beginAnew 34 = .ok (.goto 4, 3) := by decide +kernel
theorem dX11_beginAnew_37 : decode cX11_beginAnew 37 = .ok (.iconst 0, 1) := by decide +kernel
theorem dX11_beginAnew_38 : decode cX11_beginAnew 38 = .ok (.invokevirtual 107, 3) := by decide +kernel
theorem dX11_beginAnew_41 : decode cX11_beginAnew 41 = .ok (.ifCond .ne 5, 3) := by decide +kernel
theorem dX11_beginAnew_44 : decode cX11_beginAnew 44 = .ok (.iconst 0, 1) := by decide +kernel
theorem dX11_beginAnew_45 : decode cX11_beginAnew 45 = .ok (.ireturn, 1) := by decide +kernel
theorem dX11_beginAnew_46 : decode cX11_beginAnew 46 = .ok (.iconst 0, 1) := by decide +kernel
theorem dX11_beginAnew_47 : decode cX11_beginAnew 47 = .ok (.istore_n 3, 1) := by decide +kernel
theorem dX11_beginAnew_48 : decode cX11_beginAnew 48 = .ok (.iconst 0, 1) := by decide +kernel
theorem dX11_beginAnew_49 : decode cX11_beginAnew 49 = .ok (.istore 4, 2) := by decide +kernel
theorem dX11_beginAnew_51 : decode cX11_beginAnew 51 = .ok (.iload 4, 2) := by decide +kernel
theorem dX11_beginAnew_53 : decode cX11_beginAnew 53 = .ok (.bipush 20, 2) := by decide +kernel
theorem dX11_beginAnew_55 : decode cX11_beginAnew 55 = .ok (.if_icmp .ge 45, 3) := by decide +kernel
theorem dX11_beginAnew_58 : decode cX11_beginAnew 58 = .ok (.iload_n 3, 1) := by decide +kernel
theorem dX11_beginAnew_59 : decode cX11_beginAnew 59 = .ok (.aload_n 0, 1) := by decide +kernel
theorem dX11_beginAnew_60 : decode cX11_beginAnew 60 = .ok (.getfield 77, 3) := by decide +kernel
theorem dX11_beginAnew_63 : decode cX11_beginAnew 63 = .ok (.bipush 20, 2) := by decide +kernel
theorem dX11_beginAnew_65 : decode cX11_beginAnew 65 = .ok (.iload_n 1, 1) := by decide +kernel
theorem dX11_beginAnew_66 : decode cX11_beginAnew 66 = .ok (.imul, 1) := by decide +kernel
theorem dX11_beginAnew_67 : decode cX11_beginAnew 67 = .ok (.iload 4, 2) := by decide +kernel
theorem dX11_beginAnew_69 : decode cX11_beginAnew 69 = .ok (.iadd, 1) := by decide +kernel
theorem dX11_beginAnew_70 : decode cX11_beginAnew 70 = .ok (.iaload, 1) := by decide +kernel
theorem dX11_beginAnew_71 : decode cX11_beginAnew 71 = .ok (.ifCond .le 7, 3) := by decide +kernel
theorem dX11_beginAnew_74 : decode cX11_beginAnew 74 = .ok (.iconst 1, 1) := by decide +kernel
theorem dX11_beginAnew_75 : decode cX11_beginAnew 75 = .ok (.goto 4, 3) := by decide +kernel
theorem dX11_beginAnew_78 : decode cX11_beginAnew 78 = .ok (.iconst 0, 1) := by decide +kernel
theorem dX11_beginAnew_79 : decode cX11_beginAnew 79 = .ok (.iadd, 1) := by decide +kernel
theorem dX11_beginAnew_80 : decode cX11_beginAnew 80 = .ok (.istore_n 3, 1) := by decide +kernel
theorem dX11_beginAnew_81 : decode cX11_beginAnew 81 = .ok (.aload_n 0, 1) := by decide +kernel
theorem dX11_beginAnew_82 : decode cX11_beginAnew 82 = .ok (.getfield 77, 3) := by decide +kernel
theorem dX11_beginAnew_85 : decode cX11_beginAnew 85 = .ok (.bipush 20, 2) := by decide +kernel
theorem dX11_beginAnew_87 : decode cX11_beginAnew 87 = .ok (.iload_n 1, 1) := by decide +kernel
theorem dX11_beginAnew_88 : decode cX11_beginAnew 88 = .ok (.imul, 1) := by decide +kernel
theorem dX11_beginAnew_89 : decode cX11_beginAnew 89 = .ok (.iload 4, 2) := by decide +kernel
theorem dX11_beginAnew_91 : decode cX11_beginAnew 91 = .ok (.iadd, 1) := by decide +kernel
theorem dX11_beginAnew_92 : decode cX11_beginAnew 92 = .ok (.iconst 0, 1) := by decide +kernel
theorem dX11_beginAnew_93 : decode cX11_beginAnew 93 = .ok (.iastore, 1) := by decide +kernel
theorem dX11_beginAnew_94 : decode cX11_beginAnew 94 = .ok (.iinc 4 1, 3) := by decide +kernel
theorem dX11_beginAnew_97 : decode cX11_beginAnew 97 = .ok (.goto (-46), 3) := by decide +kernel
theorem dX11_beginAnew_100 : decode cX11_beginAnew 100 = .ok (.iconst 0, 1) := by decide +kernel
theorem dX11_beginAnew_101 : decode cX11_beginAnew 101 = .ok (.istore 4, 2) := by decide +kernel
theorem dX11_beginAnew_103 : decode cX11_beginAnew 103 = .ok (.iload 4, 2) := by decide +kernel
theorem dX11_beginAnew_105 : decode cX11_beginAnew 105 = .ok (.sipush 160, 3) := by decide +kernel
theorem dX11_beginAnew_108 : decode cX11_beginAnew 108 = .ok (.if_icmp .ge 23, 3) := by decide +kernel
theorem dX11_beginAnew_111 : decode cX11_beginAnew 111 = .ok (.aload_n 0, 1) := by decide +kernel
theorem dX11_beginAnew_112 : decode cX11_beginAnew 112 = .ok (.getfield 80, 3) := by decide +kernel
theorem dX11_beginAnew_115 : decode cX11_beginAnew 115 = .ok (.sipush 160, 3) := by decide +kernel
theorem dX11_beginAnew_118 : decode cX11_beginAnew 118 = .ok (.iload_n 1, 1) := by decide +kernel
theorem dX11_beginAnew_119 : decode cX11_beginAnew 119 = .ok (.imul, 1) := by decide +kernel
theorem dX11_beginAnew_120 : decode cX11_beginAnew 120 = .ok (.iload 4, 2) := by decide +kernel
theorem dX11_beginAnew_122 : decode cX11_beginAnew 122 = .ok (.iadd, 1) := by decide +kernel
theorem dX11_beginAnew_123 : decode cX11_beginAnew 123 = .ok (.iconst 0, 1) := by decide +kernel
theorem dX11_beginAnew_124 : decode cX11_beginAnew 124 = .ok (.iastore, 1) := by decide +kernel
theorem dX11_beginAnew_125 : decode cX11_beginAnew 125 = .ok (.iinc 4 1, 3) := by decide +kernel
theorem dX11_beginAnew_128 : decode cX11_beginAnew 128 = .ok (.goto (-25), 3) := by decide +kernel
theorem dX11_beginAnew_131 : decode cX11_beginAnew 131 = .ok (.aload_n 0, 1) := by decide +kernel
theorem dX11_beginAnew_132 : decode cX11_beginAnew 132 = .ok (.getfield 74, 3) := by decide +kernel
theorem dX11_beginAnew_135 : decode cX11_beginAnew 135 = .ok (.iload_n 1, 1) := by decide +kernel
theorem dX11_beginAnew_136 : decode cX11_beginAnew 136 = .ok (.iconst 0, 1) := by decide +kernel
theorem dX11_beginAnew_137 : decode cX11_beginAnew 137 = .ok (.iastore, 1) := by decide +kernel
theorem dX11_beginAnew_138 : decode cX11_beginAnew 138 = .ok (.aload_n 0, 1) := by decide +kernel
theorem dX11_beginAnew_139 : decode cX11_beginAnew 139 = .ok (.dup, 1) := by decide +kernel
theorem dX11_beginAnew_140 : decode cX11_beginAnew 140 = .ok (.getfield 191, 3) := by decide +kernel
theorem dX11_beginAnew_143 : decode cX11_beginAnew 143 = .ok (.iconst 1, 1) := by decide +kernel
theorem dX11_beginAnew_144 : decode cX11_beginAnew 144 = .ok (.iadd, 1) := by decide +kernel
theorem dX11_beginAnew_145 : decode cX11_beginAnew 145 = .ok (.putfield 191, 3) := by decide +kernel
theorem dX11_beginAnew_148 : decode cX11_beginAnew 148 = .ok (.iload_n 3, 1) := by decide +kernel
theorem dX11_beginAnew_149 : decode cX11_beginAnew 149 = .ok (.ireturn, 1) := by decide +kernel
theorem dX11_arm_0 : decode cX11_arm 0 = .ok (.aload_n 0, 1) := by decide +kernel
theorem dX11_arm_1 : decode cX11_arm 1 = .ok (.iload_n 1, 1) := by decide +kernel
theorem dX11_arm_2 : decode cX11_arm 2 = .ok (.invokestatic 196, 3) := by decide +kernel
theorem dX11_arm_5 : decode cX11_arm 5 = .ok (.ifCond .eq 14, 3) := by decide +kernel
theorem dX11_arm_8 : decode cX11_arm 8 = .ok (.iload_n 2, 1) := by decide +kernel
theorem dX11_arm_9 : decode cX11_arm 9 = .ok (.invokestatic 103, 3) := by decide +kernel
theorem dX11_arm_12 : decode cX11_arm 12 = .ok (.ifCond .eq 7, 3) := by decide +kernel
theorem dX11_arm_15 : decode cX11_arm 15 = .ok (.iconst 0, 1) := by decide +kernel
theorem dX11_arm_16 : decode cX11_arm 16 = .ok (.goto 4, 3) := by decide +kernel
theorem dX11_arm_19 : decode cX11_arm 19 = .ok (.iconst 1, 1) := by decide +kernel
theorem dX11_arm_20 : decode cX11_arm 20 = .ok (.invokevirtual 107, 3) := by decide +kernel
theorem dX11_arm_23 : decode cX11_arm 23 = .ok (.ifCond .eq 12, 3) := by decide +kernel
theorem dX11_arm_26 : decode cX11_arm 26 = .ok (.aload_n 0, 1) := by decide +kernel
theorem dX11_arm_27 : decode cX11_arm 27 = .ok (.iload_n 1, 1) := by decide +kernel
theorem dX11_arm_28 : decode cX11_arm 28 = .ok (.iload_n 2, 1) := by decide +kernel
theorem dX11_arm_29 : decode cX11_arm 29 = .ok (.invokevirtual 179, 3) := by decide +kernel
theorem dX11_arm_32 : decode cX11_arm 32 = .ok (.goto 4, 3) := by decide +kernel
theorem dX11_arm_35 : decode cX11_arm 35 = .ok (.iconst 0, 1) := by decide +kernel
theorem dX11_arm_36 : decode cX11_arm 36 = .ok (.ireturn, 1) := by decide +kernel
theorem dX11_kept_0 : decode cX11_kept 0 = .ok (.aload_n 0, 1) := by decide +kernel
theorem dX11_kept_1 : decode cX11_kept 1 = .ok (.iload_n 1, 1) := by decide +kernel
theorem dX11_kept_2 : decode cX11_kept 2 = .ok (.invokestatic 196, 3) := by decide +kernel
theorem dX11_kept_5 : decode cX11_kept 5 = .ok (.ifCond .eq 14, 3) := by decide +kernel
theorem dX11_kept_8 : decode cX11_kept 8 = .ok (.iload_n 2, 1) := by decide +kernel
theorem dX11_kept_9 : decode cX11_kept 9 = .ok (.invokestatic 103, 3) := by decide +kernel
theorem dX11_kept_12 : decode cX11_kept 12 = .ok (.ifCond .eq 7, 3) := by decide +kernel
theorem dX11_kept_15 : decode cX11_kept 15 = .ok (.iconst 0, 1) := by decide +kernel
theorem dX11_kept_16 : decode cX11_kept 16 = .ok (.goto 4, 3) := by decide +kernel
theorem dX11_kept_19 : decode cX11_kept 19 = .ok (.iconst 1, 1) := by decide +kernel
theorem dX11_kept_20 : decode cX11_kept 20 = .ok (.invokevirtual 107, 3) := by decide +kernel
theorem dX11_kept_23 : decode cX11_kept 23 = .ok (.ifCond .eq 19, 3) := by decide +kernel
theorem dX11_kept_26 : decode cX11_kept 26 = .ok (.aload_n 0, 1) := by decide +kernel
theorem dX11_kept_27 : decode cX11_kept 27 = .ok (.getfield 77, 3) := by decide +kernel
theorem dX11_kept_30 : decode cX11_kept 30 = .ok (.bipush 20, 2) := by decide +kernel
theorem dX11_kept_32 : decode cX11_kept 32 = .ok (.iload_n 1, 1) := by decide +kernel
theorem dX11_kept_33 : decode cX11_kept 33 = .ok (.imul, 1) := by decide +kernel
theorem dX11_kept_34 : decode cX11_kept 34 = .ok (.iload_n 2, 1) := by decide +kernel
theorem dX11_kept_35 : decode cX11_kept 35 = .ok (.iadd, 1) := by decide +kernel
theorem dX11_kept_36 : decode cX11_kept 36 = .ok (.iaload, 1) := by decide +kernel
theorem dX11_kept_37 : decode cX11_kept 37 = .ok (.iconst 1, 1) := by decide +kernel
theorem dX11_kept_38 : decode cX11_kept 38 = .ok (.isub, 1) := by decide +kernel
theorem dX11_kept_39 : decode cX11_kept 39 = .ok (.goto 4, 3) := by decide +kernel
theorem dX11_kept_42 : decode cX11_kept 42 = .ok (.iconst 0, 1) := by decide +kernel
theorem dX11_kept_43 : decode cX11_kept 43 = .ok (.ireturn, 1) := by decide +kernel
theorem dX11_hold_0 : decode cX11_hold 0 = .ok (.iload_n 1, 1) := by decide +kernel
theorem dX11_hold_1 : decode cX11_hold 1 = .ok (.invokestatic 103, 3) := by decide +kernel
theorem dX11_hold_4 : decode cX11_hold 4 = .ok (.ifCond .eq 14, 3) := by decide +kernel
theorem dX11_hold_7 : decode cX11_hold 7 = .ok (.iload_n 2, 1) := by decide +kernel
theorem dX11_hold_8 : decode cX11_hold 8 = .ok (.invokestatic 167, 3) := by decide +kernel
theorem dX11_hold_11 : decode cX11_hold 11 = .ok (.ifCond .eq 7, 3) := by decide +kernel
theorem dX11_hold_14 : decode cX11_hold 14 = .ok (.iconst 1, 1) := by decide +kernel
theorem dX11_hold_15 : decode cX11_hold 15 = .ok (.goto 4, 3) := by decide +kernel
theorem dX11_hold_18 : decode cX11_hold 18 = .ok (.iconst 0, 1) := by decide +kernel
theorem dX11_hold_19 : decode cX11_hold 19 = .ok (.istore_n 3, 1) := by decide +kernel
theorem dX11_hold_20 : decode cX11_hold 20 = .ok (.iload_n 3, 1) := by decide +kernel
theorem dX11_hold_21 : decode cX11_hold 21 = .ok (.ifCond .eq 12, 3) := by decide +kernel
theorem dX11_hold_24 : decode cX11_hold 24 = .ok (.bipush 8, 2) := by decide +kernel
theorem dX11_hold_26 : decode cX11_hold 26 = .ok (.iload_n 1, 1) := by decide +kernel
theorem dX11_hold_27 : decode cX11_hold 27 = .ok (.imul, 1) := by decide +kernel
theorem dX11_hold_28 : decode cX11_hold 28 = .ok (.iload_n 2, 1) := by decide +kernel
theorem dX11_hold_29 : decode cX11_hold 29 = .ok (.iadd, 1) := by decide +kernel
theorem dX11_hold_30 : decode cX11_hold 30 = .ok (.goto 4, 3) := by decide +kernel
theorem dX11_hold_33 : decode cX11_hold 33 = .ok (.iconst 0, 1) := by decide +kernel
theorem dX11_hold_34 : decode cX11_hold 34 = .ok (.istore 4, 2) := by decide +kernel
theorem dX11_hold_36 : decode cX11_hold 36 = .ok (.aload_n 0, 1) := by decide +kernel
theorem dX11_hold_37 : decode cX11_hold 37 = .ok (.iload_n 3, 1) := by decide +kernel
theorem dX11_hold_38 : decode cX11_hold 38 = .ok (.ifCond .ne 7, 3) := by decide +kernel
theorem dX11_hold_41 : decode cX11_hold 41 = .ok (.iconst 1, 1) := by decide +kernel
theorem dX11_hold_42 : decode cX11_hold 42 = .ok (.goto 30, 3) := by decide +kernel
theorem dX11_hold_45 : decode cX11_hold 45 = .ok (.aload_n 0, 1) := by decide +kernel
theorem dX11_hold_46 : decode cX11_hold 46 = .ok (.getfield 86, 3) := by decide +kernel
theorem dX11_hold_49 : decode cX11_hold 49 = .ok (.iload 4, 2) := by decide +kernel
theorem dX11_hold_51 : decode cX11_hold 51 = .ok (.iaload, 1) := by decide +kernel
theorem dX11_hold_52 : decode cX11_hold 52 = .ok (.bipush 64, 2) := by decide +kernel
theorem dX11_hold_54 : decode cX11_hold 54 = .ok (.if_icmp .ge 13, 3) := by decide +kernel
theorem dX11_hold_57 : decode cX11_hold 57 = .ok (.aload_n 0, 1) := by decide +kernel
theorem dX11_hold_58 : decode cX11_hold 58 = .ok (.getfield 191, 3) := by decide +kernel
theorem dX11_hold_61 : decode cX11_hold 61 = .ok (.sipush 400, 3) := by decide +kernel
theorem dX11_hold_64 : decode cX11_hold 64 = .ok (.if_icmp .ne 7, 3) := by decide +kernel
theorem dX11_hold_67 : decode cX11_hold 67 = .ok (.iconst 2, 1) := by decide +kernel
theorem dX11_hold_68 : decode cX11_hold 68 = .ok (.goto 4, 3) := by decide +kernel
theorem dX11_hold_71 : decode cX11_hold 71 = .ok (.iconst 0, 1) := by decide +kernel
theorem dX11_hold_72 : decode cX11_hold 72 = .ok (.invokevirtual 107, 3) := by decide +kernel
theorem dX11_hold_75 : decode cX11_hold 75 = .ok (.ifCond .ne 5, 3) := by decide +kernel
theorem dX11_hold_78 : decode cX11_hold 78 = .ok (.iconst 0, 1) := by decide +kernel
theorem dX11_hold_79 : decode cX11_hold 79 = .ok (.ireturn, 1) := by decide +kernel
theorem dX11_hold_80 : decode cX11_hold 80 = .ok (.aload_n 0, 1) := by decide +kernel
theorem dX11_hold_81 : decode cX11_hold 81 = .ok (.invokevirtual 164, 3) := by decide +kernel
theorem dX11_hold_84 : decode cX11_hold 84 = .ok (.aload_n 0, 1) := by decide +kernel
theorem dX11_hold_85 : decode cX11_hold 85 = .ok (.getfield 89, 3) := by decide +kernel
theorem dX11_hold_88 : decode cX11_hold 88 = .ok (.iload 4, 2) := by decide +kernel
theorem dX11_hold_90 : decode cX11_hold 90 = .ok (.aload_n 0, 1) := by decide +kernel
theorem dX11_hold_91 : decode cX11_hold 91 = .ok (.getfield 62, 3) := by decide +kernel
theorem dX11_hold_94 : decode cX11_hold 94 = .ok (.iload 4, 2) := by decide +kernel
theorem dX11_hold_96 : decode cX11_hold 96 = .ok (.iaload, 1) := by decide +kernel
theorem dX11_hold_97 : decode cX11_hold 97 = .ok (.iastore, 1) := by decide +kernel
theorem dX11_hold_98 : decode cX11_hold 98 = .ok (.aload_n 0, 1) := by decide +kernel
theorem dX11_hold_99 : decode cX11_hold 99 = .ok (.getfield 86, 3) := by decide +kernel
theorem dX11_hold_102 : decode cX11_hold 102 = .ok (.iload 4, 2) := by decide +kernel
theorem dX11_hold_104 : decode cX11_hold 104 = .ok (.dup2, 1) := by decide +kernel
theorem dX11_hold_105 : decode cX11_hold 105 = .ok (.iaload, 1) := by decide +kernel
theorem dX11_hold_106 : decode cX11_hold 106 = .ok (.bipush 64, 2) := by decide +kernel
theorem dX11_hold_108 : decode cX11_hold 108 = .ok (.iadd, 1) := by decide +kernel
theorem dX11_hold_109 : decode cX11_hold 109 = .ok (.iastore, 1) := by decide +kernel
theorem dX11_hold_110 : decode cX11_hold 110 = .ok (.aload_n 0, 1) := by decide +kernel
theorem dX11_hold_111 : decode cX11_hold 111 = .ok (.dup, 1) := by decide +kernel
theorem dX11_hold_112 : decode cX11_hold 112 = .ok (.getfield 191, 3) := by decide +kernel
theorem dX11_hold_115 : decode cX11_hold 115 = .ok (.iconst 1, 1) := by decide +kernel
theorem dX11_hold_116 : decode cX11_hold 116 = .ok (.iadd, 1) := by decide +kernel
theorem dX11_hold_117 : decode cX11_hold 117 = .ok (.putfield 191, 3) := by decide +kernel
theorem dX11_hold_120 : decode cX11_hold 120 = .ok (.aload_n 0, 1) := by decide +kernel
theorem dX11_hold_121 : decode cX11_hold 121 = .ok (.getfield 89, 3) := by decide +kernel
theorem dX11_hold_124 : decode cX11_hold 124 = .ok (.iload 4, 2) := by decide +kernel
theorem dX11_hold_126 : decode cX11_hold 126 = .ok (.iaload, 1) := by decide +kernel
theorem dX11_hold_127 : decode cX11_hold 127 = .ok (.ireturn, 1) := by decide +kernel
theorem dX11_release_0 : decode cX11_release 0 = .ok (.iload_n 1, 1) := by decide +kernel
theorem dX11_release_1 : decode cX11_release 1 = .ok (.invokestatic 103, 3) := by decide +kernel
theorem dX11_release_4 : decode cX11_release 4 = .ok (.ifCond .eq 14, 3) := by decide +kernel
theorem dX11_release_7 : decode cX11_release 7 = .ok (.iload_n 2, 1) := by decide +kernel
theorem dX11_release_8 : decode cX11_release 8 = .ok (.invokestatic 167, 3) := by decide +kernel
theorem dX11_release_11 : decode cX11_release 11 = .ok (.ifCond .eq 7, 3) := by decide +kernel
theorem dX11_release_14 : decode cX11_release 14 = .ok (.iconst 1, 1) := by decide +kernel
theorem dX11_release_15 : decode cX11_release 15 = .ok (.goto 4, 3) := by decide +kernel
theorem dX11_release_18 : decode cX11_release 18 = .ok (.iconst 0, 1) := by decide +kernel
theorem dX11_release_19 : decode cX11_release 19 = .ok (.istore_n 3, 1) := by decide +kernel
theorem dX11_release_20 : decode cX11_release 20 = .ok (.iload_n 3, 1) := by decide +kernel
theorem dX11_release_21 : decode cX11_release 21 = .ok (.ifCond .eq 12, 3) := by decide +kernel
theorem dX11_release_24 : decode cX11_release 24 = .ok (.bipush 8, 2) := by decide +kernel
theorem dX11_release_26 : decode cX11_release 26 = .ok (.iload_n 1, 1) := by decide +kernel
theorem dX11_release_27 : decode cX11_release 27 = .ok (.imul, 1) := by decide +kernel
theorem dX11_release_28 : decode cX11_release 28 = .ok (.iload_n 2, 1) := by decide +kernel
theorem dX11_release_29 : decode cX11_release 29 = .ok (.iadd, 1) := by decide +kernel
theorem dX11_release_30 : decode cX11_release 30 = .ok (.goto 4, 3) := by decide +kernel
theorem dX11_release_33 : decode cX11_release 33 = .ok (.iconst 0, 1) := by decide +kernel
theorem dX11_release_34 : decode cX11_release 34 = .ok (.istore 4, 2) := by decide +kernel
theorem dX11_release_36 : decode cX11_release 36 = .ok (.aload_n 0, 1) := by decide +kernel
theorem dX11_release_37 : decode cX11_release 37 = .ok (.iload_n 3, 1) := by decide +kernel
theorem dX11_release_38 : decode cX11_release 38 = .ok (.ifCond .ne 7, 3) := by decide +kernel
theorem dX11_release_41 : decode cX11_release 41 = .ok (.iconst 1, 1) := by decide +kernel
theorem dX11_release_42 : decode cX11_release 42 = .ok (.goto 30, 3) := by decide +kernel
theorem dX11_release_45 : decode cX11_release 45 = .ok (.aload_n 0, 1) := by decide +kernel
theorem dX11_release_46 : decode cX11_release 46 = .ok (.getfield 86, 3) := by decide +kernel
theorem dX11_release_49 : decode cX11_release 49 = .ok (.iload 4, 2) := by decide +kernel
theorem dX11_release_51 : decode cX11_release 51 = .ok (.iaload, 1) := by decide +kernel
theorem dX11_release_52 : decode cX11_release 52 = .ok (.bipush 64, 2) := by decide +kernel
theorem dX11_release_54 : decode cX11_release 54 = .ok (.if_icmp .lt 13, 3) := by decide +kernel
theorem dX11_release_57 : decode cX11_release 57 = .ok (.aload_n 0, 1) := by decide +kernel
theorem dX11_release_58 : decode cX11_release 58 = .ok (.getfield 191, 3) := by decide +kernel
theorem dX11_release_61 : decode cX11_release 61 = .ok (.sipush 400, 3) := by decide +kernel
theorem dX11_release_64 : decode cX11_release 64 = .ok (.if_icmp .ne 7, 3) := by decide +kernel
theorem dX11_release_67 : decode cX11_release 67 = .ok (.iconst 2, 1) := by decide +kernel
theorem dX11_release_68 : decode cX11_release 68 = .ok (.goto 4, 3) := by decide +kernel
theorem dX11_release_71 : decode cX11_release 71 = .ok (.iconst 0, 1) := by decide +kernel
theorem dX11_release_72 : decode cX11_release 72 = .ok (.invokevirtual 107, 3) := by decide +kernel
theorem dX11_release_75 : decode cX11_release 75 = .ok (.ifCond .ne 5, 3) := by decide +kernel
theorem dX11_release_78 : decode cX11_release 78 = .ok (.iconst 0, 1) := by decide +kernel
theorem dX11_release_79 : decode cX11_release 79 = .ok (.ireturn, 1) := by decide +kernel
theorem dX11_release_80 : decode cX11_release 80 = .ok (.aload_n 0, 1) := by decide +kernel
theorem dX11_release_81 : decode cX11_release 81 = .ok (.getfield 86, 3) := by decide +kernel
theorem dX11_release_84 : decode cX11_release 84 = .ok (.iload 4, 2) := by decide +kernel
theorem dX11_release_86 : decode cX11_release 86 = .ok (.dup2, 1) := by decide +kernel
theorem dX11_release_87 : decode cX11_release 87 = .ok (.iaload, 1) := by decide +kernel
theorem dX11_release_88 : decode cX11_release 88 = .ok (.bipush 64, 2) := by decide +kernel
theorem dX11_release_90 : decode cX11_release 90 = .ok (.isub, 1) := by decide +kernel
theorem dX11_release_91 : decode cX11_release 91 = .ok (.iastore, 1) := by decide +kernel
theorem dX11_release_92 : decode cX11_release 92 = .ok (.aload_n 0, 1) := by decide +kernel
theorem dX11_release_93 : decode cX11_release 93 = .ok (.dup, 1) := by decide +kernel
theorem dX11_release_94 : decode cX11_release 94 = .ok (.getfield 191, 3) := by decide +kernel
theorem dX11_release_97 : decode cX11_release 97 = .ok (.iconst 1, 1) := by decide +kernel
theorem dX11_release_98 : decode cX11_release 98 = .ok (.iadd, 1) := by decide +kernel
theorem dX11_release_99 : decode cX11_release 99 = .ok (.putfield 191, 3) := by decide +kernel
theorem dX11_release_102 : decode cX11_release 102 = .ok (.aload_n 0, 1) := by decide +kernel
theorem dX11_release_103 : decode cX11_release 103 = .ok (.invokevirtual 164, 3) := by decide +kernel
theorem dX11_release_106 : decode cX11_release 106 = .ok (.aload_n 0, 1) := by decide +kernel
theorem dX11_release_107 : decode cX11_release 107 = .ok (.getfield 62, 3) := by decide +kernel
theorem dX11_release_110 : decode cX11_release 110 = .ok (.iload 4, 2) := by decide +kernel
theorem dX11_release_112 : decode cX11_release 112 = .ok (.iaload, 1) := by decide +kernel
theorem dX11_release_113 : decode cX11_release 113 = .ok (.ireturn, 1) := by decide +kernel
theorem dX11_holdTrial_0 : decode cX11_holdTrial 0 = .ok (.iload_n 1, 1) := by decide +kernel
theorem dX11_holdTrial_1 : decode cX11_holdTrial 1 = .ok (.invokestatic 196, 3) := by decide +kernel
theorem dX11_holdTrial_4 : decode cX11_holdTrial 4 = .ok (.istore_n 2, 1) := by decide +kernel
theorem dX11_holdTrial_5 : decode cX11_holdTrial 5 = .ok (.aload_n 0, 1) := by decide +kernel
theorem dX11_holdTrial_6 : decode cX11_holdTrial 6 = .ok (.iload_n 2, 1) := by decide +kernel
theorem dX11_holdTrial_7 : decode cX11_holdTrial 7 = .ok (.ifCond .ne 7, 3) := by decide +kernel
theorem dX11_holdTrial_10 : decode cX11_holdTrial 10 = .ok (.iconst 1, 1) := by decide +kernel
theorem dX11_holdTrial_11 : decode cX11_holdTrial 11 = .ok (.goto 27, 3) := by decide +kernel
theorem dX11_holdTrial_14 : decode cX11_holdTrial 14 = .ok (.aload_n 0, 1) := by decide +kernel
theorem dX11_holdTrial_15 : decode cX11_holdTrial 15 = .ok (.getfield 83, 3) := by decide +kernel
theorem dX11_holdTrial_18 : decode cX11_holdTrial 18 = .ok (.iload_n 1, 1) := by decide +kernel
theorem dX11_holdTrial_19 : decode cX11_holdTrial 19 = .ok (.baload, 1) := by decide +kernel
theorem dX11_holdTrial_20 : decode cX11_holdTrial 20 = .ok (.ifCond .ne 13, 3) := by decide +kernel
theorem dX11_holdTrial_23 : decode cX11_holdTrial 23 = .ok (.aload_n 0, 1) := by decide +kernel
theorem dX11_holdTrial_24 : decode cX11_holdTrial 24 = .ok (.getfield 191, 3) := by decide +kernel
theorem dX11_holdTrial_27 : decode cX11_holdTrial 27 = .ok (.sipush 400, 3) := by decide +kernel
theorem dX11_holdTrial_30 : decode cX11_holdTrial 30 = .ok (.if_icmp .ne 7, 3) := by decide +kernel
theorem dX11_holdTrial_33 : decode cX11_holdTrial 33 = .ok (.iconst 2, 1) := by decide +kernel
theorem dX11_holdTrial_34 : decode cX11_holdTrial 34 = .ok (.goto 4, 3) := by decide +kernel
theorem dX11_holdTrial_37 : decode cX11_holdTrial 37 = .ok (.iconst 0, 1) := by decide +kernel
theorem dX11_holdTrial_38 : decode cX11_holdTrial 38 = .ok (.invokevirtual 107, 3) := by decide +kernel
theorem dX11_holdTrial_41 : decode cX11_holdTrial 41 = .ok (.ifCond .ne 5, 3) := by decide +kernel
theorem dX11_holdTrial_44 : decode cX11_holdTrial 44 = .ok (.iconst 0, 1) := by decide +kernel
theorem dX11_holdTrial_45 : decode cX11_holdTrial 45 = .ok (.ireturn, 1) := by decide +kernel
theorem dX11_holdTrial_46 : decode cX11_holdTrial 46 = .ok (.iconst 0, 1) := by decide +kernel
theorem dX11_holdTrial_47 : decode cX11_holdTrial 47 = .ok (.istore_n 3, 1) := by decide +kernel
theorem dX11_holdTrial_48 : decode cX11_holdTrial 48 = .ok (.iconst 0, 1) := by decide +kernel
theorem dX11_holdTrial_49 : decode cX11_holdTrial 49 = .ok (.istore 4, 2) := by decide +kernel
theorem dX11_holdTrial_51 : decode cX11_holdTrial 51 = .ok (.iload 4, 2) := by decide +kernel
theorem dX11_holdTrial_53 : decode cX11_holdTrial 53 = .ok (.sipush 160, 3) := by decide +kernel
theorem dX11_holdTrial_56 : decode cX11_holdTrial 56 = .ok (.if_icmp .ge 77, 3) := by decide +kernel
theorem dX11_holdTrial_59 : decode cX11_holdTrial 59 = .ok (.aload_n 0, 1) := by decide +kernel
theorem dX11_holdTrial_60 : decode cX11_holdTrial 60 = .ok (.getfield 80, 3) := by decide +kernel
theorem dX11_holdTrial_63 : decode cX11_holdTrial 63 = .ok (.sipush 160, 3) := by decide +kernel
theorem dX11_holdTrial_66 : decode cX11_holdTrial 66 = .ok (.iload_n 1, 1) := by decide +kernel
theorem dX11_holdTrial_67 : decode cX11_holdTrial 67 = .ok (.imul, 1) := by decide +kernel
theorem dX11_holdTrial_68 : decode cX11_holdTrial 68 = .ok (.iload 4, 2) := by decide +kernel
theorem dX11_holdTrial_70 : decode cX11_holdTrial 70 = .ok (.iadd, 1) := by decide +kernel
theorem dX11_holdTrial_71 : decode cX11_holdTrial 71 = .ok (.iaload, 1) := by decide +kernel
theorem dX11_holdTrial_72 : decode cX11_holdTrial 72 = .ok (.iconst 1, 1) := by decide +kernel
theorem dX11_holdTrial_73 : decode cX11_holdTrial 73 = .ok (.isub, 1) := by decide +kernel
theorem dX11_holdTrial_74 : decode cX11_holdTrial 74 = .ok (.istore 5, 2) := by decide +kernel
theorem dX11_holdTrial_76 : decode cX11_holdTrial 76 = .ok (.iload 5, 2) := by decide +kernel
theorem dX11_holdTrial_78 : decode cX11_holdTrial 78 = .ok (.iconst (-1), 1) := by decide +kernel
theorem dX11_holdTrial_79 : decode cX11_holdTrial 79 = .ok (.if_icmp .eq 48, 3) := by decide +kernel
theorem dX11_holdTrial_82 : decode cX11_holdTrial 82 = .ok (.aload_n 0, 1) := by decide +kernel
theorem dX11_holdTrial_83 : decode cX11_holdTrial 83 = .ok (.getfield 89, 3) := by decide +kernel
theorem dX11_holdTrial_86 : decode cX11_holdTrial 86 = .ok (.iload 4, 2) := by decide +kernel
theorem dX11_holdTrial_88 : decode cX11_holdTrial 88 = .ok (.aload_n 0, 1) := by decide +kernel
theorem dX11_holdTrial_89 : decode cX11_holdTrial 89 = .ok (.getfield 86, 3) := by decide +kernel
theorem dX11_holdTrial_92 : decode cX11_holdTrial 92 = .ok (.iload 4, 2) := by decide +kernel
theorem dX11_holdTrial_94 : decode cX11_holdTrial 94 = .ok (.iaload, 1) := by decide +kernel
theorem dX11_holdTrial_95 : decode cX11_holdTrial 95 = .ok (.ifCond .ne 8, 3) := by decide +kernel
theorem dX11_holdTrial_98 : decode cX11_holdTrial 98 = .ok (.iload 5, 2) := by decide +kernel
theorem dX11_holdTrial_100 : decode cX11_holdTrial 100 = .ok (.goto 10, 3) := by decide +kernel
theorem dX11_holdTrial_103 : decode cX11_holdTrial 103 = .ok (.aload_n 0, 1) := by decide +kernel
theorem dX11_holdTrial_104 : decode cX11_holdTrial 104 = .ok (.getfield 89, 3) := by decide +kernel
theorem dX11_holdTrial_107 : decode cX11_holdTrial 107 = .ok (.iload 4, 2) := by decide +kernel
theorem dX11_holdTrial_109 : decode cX11_holdTrial 109 = .ok (.iaload, 1) := by decide +kernel
theorem dX11_holdTrial_110 : decode cX11_holdTrial 110 = .ok (.iastore, 1) := by decide +kernel
theorem dX11_holdTrial_111 : decode cX11_holdTrial 111 = .ok (.aload_n 0, 1) := by decide +kernel
theorem dX11_holdTrial_112 : decode cX11_holdTrial 112 = .ok (.getfield 86, 3) := by decide +kernel
theorem dX11_holdTrial_115 : decode cX11_holdTrial 115 = .ok (.iload 4, 2) := by decide +kernel
theorem dX11_holdTrial_117 : decode cX11_holdTrial 117 = .ok (.dup2, 1) := by decide +kernel
theorem dX11_holdTrial_118 : decode cX11_holdTrial 118 = .ok (.iaload, 1) := by decide +kernel
theorem dX11_holdTrial_119 : decode cX11_holdTrial 119 = .ok (.iconst 1, 1) := by decide +kernel
theorem dX11_holdTrial_120 : decode cX11_holdTrial 120 = .ok (.iload_n 1, 1) := by decide +kernel
theorem dX11_holdTrial_121 : decode cX11_holdTrial 121 = .ok (.ishl, 1) := by decide +kernel
theorem dX11_holdTrial_122 : decode cX11_holdTrial 122 = .ok (.ior, 1) := by decide +kernel
theorem dX11_holdTrial_123 : decode cX11_holdTrial 123 = .ok (.iastore, 1) := by decide +kernel
theorem dX11_holdTrial_124 : decode cX11_holdTrial 124 = .ok (.iinc 3 1, 3) := by decide +kernel
theorem dX11_holdTrial_127 : decode cX11_holdTrial 127 = .ok (.iinc 4 1, 3) := by decide +kernel
theorem dX11_holdTrial_130 : decode cX11_holdTrial 130 = .ok (.goto (-79), 3) := by decide +kernel
theorem dX11_holdTrial_133 : decode cX11_holdTrial 133 = .ok (.aload_n 0, 1) := by decide +kernel
theorem dX11_holdTrial_134 : decode cX11_holdTrial 134 = .ok (.getfield 83, 3) := by decide +kernel
theorem dX11_holdTrial_137 : decode cX11_holdTrial 137 = .ok (.iload_n 1, 1) := by decide +kernel
theorem dX11_holdTrial_138 : decode cX11_holdTrial 138 = .ok (.iconst 1, 1) := by decide +kernel
theorem dX11_holdTrial_139 : decode cX11_holdTrial 139 = .ok (.bastore, 1) := by decide +kernel
theorem dX11_holdTrial_140 : decode cX11_holdTrial 140 = .ok (.aload_n 0, 1) := by decide +kernel
theorem dX11_holdTrial_141 : decode cX11_holdTrial 141 = .ok (.dup, 1) := by decide +kernel
theorem dX11_holdTrial_142 : decode cX11_holdTrial 142 = .ok (.getfield 191, 3) := by decide +kernel
theorem dX11_holdTrial_145 : decode cX11_holdTrial 145 = .ok (.iconst 1, 1) := by decide +kernel
theorem dX11_holdTrial_146 : decode cX11_holdTrial 146 = .ok (.iadd, 1) := by decide +kernel
theorem dX11_holdTrial_147 : decode cX11_holdTrial 147 = .ok (.putfield 191, 3) := by decide +kernel
theorem dX11_holdTrial_150 : decode cX11_holdTrial 150 = .ok (.iload_n 3, 1) := by decide +kernel
theorem dX11_holdTrial_151 : decode cX11_holdTrial 151 = .ok (.ireturn, 1) := by decide +kernel
theorem dX11_releaseTrial_0 : decode cX11_releaseTrial 0 = .ok (.iload_n 1, 1) := by decide +kernel
theorem dX11_releaseTrial_1 : decode cX11_releaseTrial 1 = .ok (.invokestatic 196, 3) := by decide +kernel
theorem dX11_releaseTrial_4 : decode cX11_releaseTrial 4 = .ok (.istore_n 2, 1) := by decide +kernel
theorem dX11_releaseTrial_5 : decode cX11_releaseTrial 5 = .ok (.aload_n 0, 1) := by decide +kernel
theorem dX11_releaseTrial_6 : decode cX11_releaseTrial 6 = .ok (.iload_n 2, 1) := by decide +kernel
theorem dX11_releaseTrial_7 : decode cX11_releaseTrial 7 = .ok (.ifCond .ne 7, 3) := by decide +kernel
theorem dX11_releaseTrial_10 : decode cX11_releaseTrial 10 = .ok (.iconst 1, 1) := by decide +kernel
theorem dX11_releaseTrial_11 : decode cX11_releaseTrial 11 = .ok (.goto 27, 3) := by decide +kernel
theorem dX11_releaseTrial_14 : decode cX11_releaseTrial 14 = .ok (.aload_n 0, 1) := by decide +kernel
theorem dX11_releaseTrial_15 : decode cX11_releaseTrial 15 = .ok (.getfield 83, 3) := by decide +kernel
theorem dX11_releaseTrial_18 : decode cX11_releaseTrial 18 = .ok (.iload_n 1, 1) := by decide +kernel
theorem dX11_releaseTrial_19 : decode cX11_releaseTrial 19 = .ok (.baload, 1) := by decide +kernel
theorem dX11_releaseTrial_20 : decode cX11_releaseTrial 20 = .ok (.ifCond .eq 13, 3) := by decide +kernel
theorem dX11_releaseTrial_23 : decode cX11_releaseTrial 23 = .ok (.aload_n 0, 1) := by decide +kernel
theorem dX11_releaseTrial_24 : decode cX11_releaseTrial 24 = .ok (.getfield 191, 3) := by decide +kernel
theorem dX11_releaseTrial_27 : decode cX11_releaseTrial 27 = .ok (.sipush 400, 3) := by decide +kernel
theorem dX11_releaseTrial_30 : decode cX11_releaseTrial 30 = .ok (.if_icmp .ne 7, 3) := by decide +kernel
theorem dX11_releaseTrial_33 : decode cX11_releaseTrial 33 = .ok (.iconst 2, 1) := by decide +kernel
theorem dX11_releaseTrial_34 : decode cX11_releaseTrial 34 = .ok (.goto 4, 3) := by decide +kernel
theorem dX11_releaseTrial_37 : decode cX11_releaseTrial 37 = .ok (.iconst 0, 1) := by decide +kernel
theorem dX11_releaseTrial_38 : decode cX11_releaseTrial 38 = .ok (.invokevirtual 107, 3) := by decide +kernel
theorem dX11_releaseTrial_41 : decode cX11_releaseTrial 41 = .ok (.ifCond .ne 5, 3) := by decide +kernel
theorem dX11_releaseTrial_44 : decode cX11_releaseTrial 44 = .ok (.iconst 0, 1) := by decide +kernel
theorem dX11_releaseTrial_45 : decode cX11_releaseTrial 45 = .ok (.ireturn, 1) := by decide +kernel
theorem dX11_releaseTrial_46 : decode cX11_releaseTrial 46 = .ok (.iconst 0, 1) := by decide +kernel
theorem dX11_releaseTrial_47 : decode cX11_releaseTrial 47 = .ok (.istore_n 3, 1) := by decide +kernel
theorem dX11_releaseTrial_48 : decode cX11_releaseTrial 48 = .ok (.iconst 0, 1) := by decide +kernel
theorem dX11_releaseTrial_49 : decode cX11_releaseTrial 49 = .ok (.istore 4, 2) := by decide +kernel
theorem dX11_releaseTrial_51 : decode cX11_releaseTrial 51 = .ok (.iload 4, 2) := by decide +kernel
theorem dX11_releaseTrial_53 : decode cX11_releaseTrial 53 = .ok (.sipush 160, 3) := by decide +kernel
theorem dX11_releaseTrial_56 : decode cX11_releaseTrial 56 = .ok (.if_icmp .ge 45, 3) := by decide +kernel
theorem dX11_releaseTrial_59 : decode cX11_releaseTrial 59 = .ok (.iload_n 3, 1) := by decide +kernel
theorem dX11_releaseTrial_60 : decode cX11_releaseTrial 60 = .ok (.aload_n 0, 1) := by decide +kernel
theorem dX11_releaseTrial_61 : decode cX11_releaseTrial 61 = .ok (.getfield 86, 3) := by decide +kernel
theorem dX11_releaseTrial_64 : decode cX11_releaseTrial 64 = .ok (.iload 4, 2) := by decide +kernel
theorem dX11_releaseTrial_66 : decode cX11_releaseTrial 66 = .ok (.iaload, 1) := by decide +kernel
theorem dX11_releaseTrial_67 : decode cX11_releaseTrial 67 = .ok (.iconst 1, 1) := by decide +kernel
theorem dX11_releaseTrial_68 : decode cX11_releaseTrial 68 = .ok (.iload_n 1, 1) := by decide +kernel
theorem dX11_releaseTrial_69 : decode cX11_releaseTrial 69 = .ok (.ishl, 1) := by decide +kernel
theorem dX11_releaseTrial_70 : decode cX11_releaseTrial 70 = .ok (.if_icmp .ne 7, 3) := by decide +kernel
theorem dX11_releaseTrial_73 : decode cX11_releaseTrial 73 = .ok (.iconst 1, 1) := by decide +kernel
theorem dX11_releaseTrial_74 : decode cX11_releaseTrial 74 = .ok (.goto 4, 3) := by decide +kernel
theorem dX11_releaseTrial_77 : decode cX11_releaseTrial 77 = .ok (.iconst 0, 1) := by decide +kernel
theorem dX11_releaseTrial_78 : decode cX11_releaseTrial 78 = .ok (.iadd, 1) := by decide +kernel
theorem dX11_releaseTrial_79 : decode cX11_releaseTrial 79 = .ok (.istore_n 3, 1) := by decide +kernel
theorem dX11_releaseTrial_80 : decode cX11_releaseTrial 80 = .ok (.aload_n 0, 1) := by decide +kernel
theorem dX11_releaseTrial_81 : decode cX11_releaseTrial 81 = .ok (.getfield 86, 3) := by decide +kernel
theorem dX11_releaseTrial_84 : decode cX11_releaseTrial 84 = .ok (.iload 4, 2) := by decide +kernel
theorem dX11_releaseTrial_86 : decode cX11_releaseTrial 86 = .ok (.dup2, 1) := by decide +kernel
theorem dX11_releaseTrial_87 : decode cX11_releaseTrial 87 = .ok (.iaload, 1) := by decide +kernel
theorem dX11_releaseTrial_88 : decode cX11_releaseTrial 88 = .ok (.iconst 1, 1) := by decide +kernel
theorem dX11_releaseTrial_89 : decode cX11_releaseTrial 89 = .ok (.iload_n 1, 1) := by decide +kernel
theorem dX11_releaseTrial_90 : decode cX11_releaseTrial 90 = .ok (.ishl, 1) := by decide +kernel
theorem dX11_releaseTrial_91 : decode cX11_releaseTrial 91 = .ok (.iconst (-1), 1) := by decide +kernel
theorem dX11_releaseTrial_92 : decode cX11_releaseTrial 92 = .ok (.ixor, 1) := by decide +kernel
theorem dX11_releaseTrial_93 : decode cX11_releaseTrial 93 = .ok (.iand, 1) := by decide +kernel
theorem dX11_releaseTrial_94 : decode cX11_releaseTrial 94 = .ok (.iastore, 1) := by decide +kernel
theorem dX11_releaseTrial_95 : decode cX11_releaseTrial 95 = .ok (.iinc 4 1, 3) := by decide +kernel
theorem dX11_releaseTrial_98 : decode cX11_releaseTrial 98 = .ok (.goto (-47), 3) := by decide +kernel
theorem dX11_releaseTrial_101 : decode cX11_releaseTrial 101 = .ok (.aload_n 0, 1) := by decide +kernel
theorem dX11_releaseTrial_102 : decode cX11_releaseTrial 102 = .ok (.getfield 83, 3) := by decide +kernel
theorem dX11_releaseTrial_105 : decode cX11_releaseTrial 105 = .ok (.iload_n 1, 1) := by decide +kernel
theorem dX11_releaseTrial_106 : decode cX11_releaseTrial 106 = .ok (.iconst 0, 1) := by decide +kernel
theorem dX11_releaseTrial_107 : decode cX11_releaseTrial 107 = .ok (.bastore, 1) := by decide +kernel
theorem dX11_releaseTrial_108 : decode cX11_releaseTrial 108 = .ok (.aload_n 0, 1) := by decide +kernel
theorem dX11_releaseTrial_109 : decode cX11_releaseTrial 109 = .ok (.dup, 1) := by decide +kernel
theorem dX11_releaseTrial_110 : decode cX11_releaseTrial 110 = .ok (.getfield 191, 3) := by decide +kernel
theorem dX11_releaseTrial_113 : decode cX11_releaseTrial 113 = .ok (.iconst 1, 1) := by decide +kernel
theorem dX11_releaseTrial_114 : decode cX11_releaseTrial 114 = .ok (.iadd, 1) := by decide +kernel
theorem dX11_releaseTrial_115 : decode cX11_releaseTrial 115 = .ok (.putfield 191, 3) := by decide +kernel
theorem dX11_releaseTrial_118 : decode cX11_releaseTrial 118 = .ok (.iload_n 3, 1) := by decide +kernel
theorem dX11_releaseTrial_119 : decode cX11_releaseTrial 119 = .ok (.ireturn, 1) := by decide +kernel
theorem dX11_isHeld_0 : decode cX11_isHeld 0 = .ok (.aload_n 0, 1) := by decide +kernel
theorem dX11_isHeld_1 : decode cX11_isHeld 1 = .ok (.iload_n 1, 1) := by decide +kernel
theorem dX11_isHeld_2 : decode cX11_isHeld 2 = .ok (.invokestatic 103, 3) := by decide +kernel
theorem dX11_isHeld_5 : decode cX11_isHeld 5 = .ok (.ifCond .eq 14, 3) := by decide +kernel
theorem dX11_isHeld_8 : decode cX11_isHeld 8 = .ok (.iload_n 2, 1) := by decide +kernel
theorem dX11_isHeld_9 : decode cX11_isHeld 9 = .ok (.invokestatic 167, 3) := by decide +kernel
theorem dX11_isHeld_12 : decode cX11_isHeld 12 = .ok (.ifCond .eq 7, 3) := by decide +kernel
theorem dX11_isHeld_15 : decode cX11_isHeld 15 = .ok (.iconst 0, 1) := by decide +kernel
theorem dX11_isHeld_16 : decode cX11_isHeld 16 = .ok (.goto 4, 3) := by decide +kernel
theorem dX11_isHeld_19 : decode cX11_isHeld 19 = .ok (.iconst 1, 1) := by decide +kernel
theorem dX11_isHeld_20 : decode cX11_isHeld 20 = .ok (.invokevirtual 107, 3) := by decide +kernel
theorem dX11_isHeld_23 : decode cX11_isHeld 23 = .ok (.ifCond .eq 21, 3) := by decide +kernel
theorem dX11_isHeld_26 : decode cX11_isHeld 26 = .ok (.aload_n 0, 1) := by decide +kernel
theorem dX11_isHeld_27 : decode cX11_isHeld 27 = .ok (.getfield 86, 3) := by decide +kernel
theorem dX11_isHeld_30 : decode cX11_isHeld 30 = .ok (.bipush 8, 2) := by decide +kernel
theorem dX11_isHeld_32 : decode cX11_isHeld 32 = .ok (.iload_n 1, 1) := by decide +kernel
theorem dX11_isHeld_33 : decode cX11_isHeld 33 = .ok (.imul, 1) := by decide +kernel
theorem dX11_isHeld_34 : decode cX11_isHeld 34 = .ok (.iload_n 2, 1) := by decide +kernel
theorem dX11_isHeld_35 : decode cX11_isHeld 35 = .ok (.iadd, 1) := by decide +kernel
theorem dX11_isHeld_36 : decode cX11_isHeld 36 = .ok (.iaload, 1) := by decide +kernel
theorem dX11_isHeld_37 : decode cX11_isHeld 37 = .ok (.ifCond .eq 7, 3) := by decide +kernel
theorem dX11_isHeld_40 : decode cX11_isHeld 40 = .ok (.iconst 1, 1) := by decide +kernel
theorem dX11_isHeld_41 : decode cX11_isHeld 41 = .ok (.goto 4, 3) := by decide +kernel
theorem dX11_isHeld_44 : decode cX11_isHeld 44 = .ok (.iconst 0, 1) := by decide +kernel
theorem dX11_isHeld_45 : decode cX11_isHeld 45 = .ok (.ireturn, 1) := by decide +kernel
theorem dX11_entries_0 : decode cX11_entries 0 = .ok (.aload_n 0, 1) := by decide +kernel
theorem dX11_entries_1 : decode cX11_entries 1 = .ok (.iconst 0, 1) := by decide +kernel
theorem dX11_entries_2 : decode cX11_entries 2 = .ok (.putfield 95, 3) := by decide +kernel
theorem dX11_entries_5 : decode cX11_entries 5 = .ok (.aload_n 0, 1) := by decide +kernel
theorem dX11_entries_6 : decode cX11_entries 6 = .ok (.getfield 191, 3) := by decide +kernel
theorem dX11_entries_9 : decode cX11_entries 9 = .ok (.ireturn, 1) := by decide +kernel
theorem dX11_shownLast_0 : decode cX11_shownLast 0 = .ok (.aload_n 0, 1) := by decide +kernel
theorem dX11_shownLast_1 : decode cX11_shownLast 1 = .ok (.iload_n 1, 1) := by decide +kernel
theorem dX11_shownLast_2 : decode cX11_shownLast 2 = .ok (.invokestatic 103, 3) := by decide +kernel
theorem dX11_shownLast_5 : decode cX11_shownLast 5 = .ok (.ifCond .eq 14, 3) := by decide +kernel
theorem dX11_shownLast_8 : decode cX11_shownLast 8 = .ok (.iload_n 2, 1) := by decide +kernel
theorem dX11_shownLast_9 : decode cX11_shownLast 9 = .ok (.invokestatic 167, 3) := by decide +kernel
theorem dX11_shownLast_12 : decode cX11_shownLast 12 = .ok (.ifCond .eq 7, 3) := by decide +kernel
theorem dX11_shownLast_15 : decode cX11_shownLast 15 = .ok (.iconst 0, 1) := by decide +kernel
theorem dX11_shownLast_16 : decode cX11_shownLast 16 = .ok (.goto 4, 3) := by decide +kernel
theorem dX11_shownLast_19 : decode cX11_shownLast 19 = .ok (.iconst 1, 1) := by decide +kernel
theorem dX11_shownLast_20 : decode cX11_shownLast 20 = .ok (.invokevirtual 107, 3) := by decide +kernel
theorem dX11_shownLast_23 : decode cX11_shownLast 23 = .ok (.ifCond .eq 19, 3) := by decide +kernel
theorem dX11_shownLast_26 : decode cX11_shownLast 26 = .ok (.aload_n 0, 1) := by decide +kernel
theorem dX11_shownLast_27 : decode cX11_shownLast 27 = .ok (.getfield 92, 3) := by decide +kernel
theorem dX11_shownLast_30 : decode cX11_shownLast 30 = .ok (.bipush 8, 2) := by decide +kernel
theorem dX11_shownLast_32 : decode cX11_shownLast 32 = .ok (.iload_n 1, 1) := by decide +kernel
theorem dX11_shownLast_33 : decode cX11_shownLast 33 = .ok (.imul, 1) := by decide +kernel
theorem dX11_shownLast_34 : decode cX11_shownLast 34 = .ok (.iload_n 2, 1) := by decide +kernel
theorem dX11_shownLast_35 : decode cX11_shownLast 35 = .ok (.iadd, 1) := by decide +kernel
theorem dX11_shownLast_36 : decode cX11_shownLast 36 = .ok (.iaload, 1) := by decide +kernel
theorem dX11_shownLast_37 : decode cX11_shownLast 37 = .ok (.iconst 1, 1) := by decide +kernel
theorem dX11_shownLast_38 : decode cX11_shownLast 38 = .ok (.isub, 1) := by decide +kernel
theorem dX11_shownLast_39 : decode cX11_shownLast 39 = .ok (.goto 4, 3) := by decide +kernel
theorem dX11_shownLast_42 : decode cX11_shownLast 42 = .ok (.iconst 0, 1) := by decide +kernel
theorem dX11_shownLast_43 : decode cX11_shownLast 43 = .ok (.ireturn, 1) := by decide +kernel
