theorem dd_Mo_init_0 : decode bb_Mo_init 0 = .ok (.aload_n 0, 1) := by decide +kernel
theorem dd_Mo_init_1 : decode bb_Mo_init 1 = .ok (.invokespecial 1, 3) := by decide +kernel
theorem dd_Mo_init_4 : decode bb_Mo_init 4 = .ok (.aload_n 0, 1) := by decide +kernel
theorem dd_Mo_init_5 : decode bb_Mo_init 5 = .ok (.iconst 1, 1) := by decide +kernel
theorem dd_Mo_init_6 : decode bb_Mo_init 6 = .ok (.putfield 7, 3) := by decide +kernel
theorem dd_Mo_init_9 : decode bb_Mo_init 9 = .ok (.aload_n 0, 1) := by decide +kernel
theorem dd_Mo_init_10 : decode bb_Mo_init 10 = .ok (.bipush 12, 2) := by decide +kernel
theorem dd_Mo_init_12 : decode bb_Mo_init 12 = .ok (.newarray .int, 2) := by decide +kernel
theorem dd_Mo_init_14 : decode bb_Mo_init 14 = .ok (.putfield 13, 3) := by decide +kernel
theorem dd_Mo_init_17 : decode bb_Mo_init 17 = .ok (.aload_n 0, 1) := by decide +kernel
theorem dd_Mo_init_18 : decode bb_Mo_init 18 = .ok (.bipush 12, 2) := by decide +kernel
theorem dd_Mo_init_20 : decode bb_Mo_init 20 = .ok (.newarray .int, 2) := by decide +kernel
theorem dd_Mo_init_22 : decode bb_Mo_init 22 = .ok (.putfield 17, 3) := by decide +kernel
theorem dd_Mo_init_25 : decode bb_Mo_init 25 = .ok (.aload_n 0, 1) := by decide +kernel
theorem dd_Mo_init_26 : decode bb_Mo_init 26 = .ok (.bipush 12, 2) := by decide +kernel
theorem dd_Mo_init_28 : decode bb_Mo_init 28 = .ok (.newarray .int, 2) := by decide +kernel
theorem dd_Mo_init_30 : decode bb_Mo_init 30 = .ok (.putfield 20, 3) := by decide +kernel
theorem dd_Mo_init_33 : decode bb_Mo_init 33 = .ok (.aload_n 0, 1) := by decide +kernel
theorem dd_Mo_init_34 : decode bb_Mo_init 34 = .ok (.bipush 12, 2) := by decide +kernel
theorem dd_Mo_init_36 : decode bb_Mo_init 36 = .ok (.newarray .int, 2) := by decide +kernel
theorem dd_Mo_init_38 : decode bb_Mo_init 38 = .ok (.putfield 23, 3) := by decide +kernel
theorem dd_Mo_init_41 : decode bb_Mo_init 41 = .ok (.aload_n 0, 1) := by decide +kernel
theorem dd_Mo_init_42 : decode bb_Mo_init 42 = .ok (.bipush 12, 2) := by decide +kernel
theorem dd_Mo_init_44 : decode bb_Mo_init 44 = .ok (.newarray .int, 2) := by decide +kernel
theorem dd_Mo_init_46 : decode bb_Mo_init 46 = .ok (.putfield 26, 3) := by decide +kernel
theorem dd_Mo_init_49 : decode bb_Mo_init 49 = .ok (.aload_n 0, 1) := by decide +kernel
theorem dd_Mo_init_50 : decode bb_Mo_init 50 = .ok (.bipush 12, 2) := by decide +kernel
theorem dd_Mo_init_52 : decode bb_Mo_init 52 = .ok (.newarray .int, 2) := by decide +kernel
theorem dd_Mo_init_54 : decode bb_Mo_init 54 = .ok (.putfield 29, 3) := by decide +kernel
theorem dd_Mo_init_57 : decode bb_Mo_init 57 = .ok (.aload_n 0, 1) := by decide +kernel
theorem dd_Mo_init_58 : decode bb_Mo_init 58 = .ok (.sipush 1540, 3) := by decide +kernel
theorem dd_Mo_init_61 : decode bb_Mo_init 61 = .ok (.newarray .int, 2) := by decide +kernel
theorem dd_Mo_init_63 : decode bb_Mo_init 63 = .ok (.putfield 32, 3) := by decide +kernel
theorem dd_Mo_init_66 : decode bb_Mo_init 66 = .ok (.aload_n 0, 1) := by decide +kernel
theorem dd_Mo_init_67 : decode bb_Mo_init 67 = .ok (.sipush 1540, 3) := by decide +kernel
theorem dd_Mo_init_70 : decode bb_Mo_init 70 = .ok (.newarray .int, 2) := by decide +kernel
theorem dd_Mo_init_72 : decode bb_Mo_init 72 = .ok (.putfield 35, 3) := by decide +kernel
theorem dd_Mo_init_75 : decode bb_Mo_init 75 = .ok (.aload_n 0, 1) := by decide +kernel
theorem dd_Mo_init_76 : decode bb_Mo_init 76 = .ok (.sipush 1540, 3) := by decide +kernel
theorem dd_Mo_init_79 : decode bb_Mo_init 79 = .ok (.newarray .int, 2) := by decide +kernel
theorem dd_Mo_init_81 : decode bb_Mo_init 81 = .ok (.putfield 38, 3) := by decide +kernel
theorem dd_Mo_init_84 : decode bb_Mo_init 84 = .ok (.aload_n 0, 1) := by decide +kernel
theorem dd_Mo_init_85 : decode bb_Mo_init 85 = .ok (.sipush 1540, 3) := by decide +kernel
theorem dd_Mo_init_88 : decode bb_Mo_init 88 = .ok (.newarray .int, 2) := by decide +kernel
theorem dd_Mo_init_90 : decode bb_Mo_init 90 = .ok (.putfield 41, 3) := by decide +kernel
theorem dd_Mo_init_93 : decode bb_Mo_init 93 = .ok (.aload_n 0, 1) := by decide +kernel
theorem dd_Mo_init_94 : decode bb_Mo_init 94 = .ok (.sipush 1540, 3) := by decide +kernel
theorem dd_Mo_init_97 : decode bb_Mo_init 97 = .ok (.newarray .int, 2) := by decide +kernel
theorem dd_Mo_init_99 : decode bb_Mo_init 99 = .ok (.putfield 44, 3) := by decide +kernel
theorem dd_Mo_init_102 : decode bb_Mo_init 102 = .ok (.aload_n 0, 1) := by decide +kernel
theorem dd_Mo_init_103 : decode bb_Mo_init 103 = .ok (.iconst 3, 1) := by decide +kernel
theorem dd_Mo_init_104 : decode bb_Mo_init 104 = .ok (.newarray .boolean, 2) := by decide +kernel
theorem dd_Mo_init_106 : decode bb_Mo_init 106 = .ok (.putfield 47, 3) := by decide +kernel
theorem dd_Mo_init_109 : decode bb_Mo_init 109 = .ok (.aload_n 0, 1) := by decide +kernel
theorem dd_Mo_init_110 : decode bb_Mo_init 110 = .ok (.iconst 3, 1) := by decide +kernel
theorem dd_Mo_init_111 : decode bb_Mo_init 111 = .ok (.newarray .int, 2) := by decide +kernel
theorem dd_Mo_init_113 : decode bb_Mo_init 113 = .ok (.putfield 51, 3) := by decide +kernel
theorem dd_Mo_init_116 : decode bb_Mo_init 116 = .ok (.aload_n 0, 1) := by decide +kernel
theorem dd_Mo_init_117 : decode bb_Mo_init 117 = .ok (.iconst 3, 1) := by decide +kernel
theorem dd_Mo_init_118 : decode bb_Mo_init 118 = .ok (.newarray .int, 2) := by decide +kernel
theorem dd_Mo_init_120 : decode bb_Mo_init 120 = .ok (.putfield 54, 3) := by decide +kernel
theorem dd_Mo_init_123 : decode bb_Mo_init 123 = .ok (.aload_n 0, 1) := by decide +kernel
theorem dd_Mo_init_124 : decode bb_Mo_init 124 = .ok (.iconst 3, 1) := by decide +kernel
theorem dd_Mo_init_125 : decode bb_Mo_init 125 = .ok (.newarray .int, 2) := by decide +kernel
theorem dd_Mo_init_127 : decode bb_Mo_init 127 = .ok (.putfield 57, 3) := by decide +kernel
theorem dd_Mo_init_130 : decode bb_Mo_init 130 = .ok (.aload_n 0, 1) := by decide +kernel
theorem dd_Mo_init_131 : decode bb_Mo_init 131 = .ok (.iconst 3, 1) := by decide +kernel
theorem dd_Mo_init_132 : decode bb_Mo_init 132 = .ok (.newarray .int, 2) := by decide +kernel
theorem dd_Mo_init_134 : decode bb_Mo_init 134 = .ok (.putfield 60, 3) := by decide +kernel
theorem dd_Mo_init_137 : decode bb_Mo_init 137 = .ok (.aload_n 0, 1) := by decide +kernel
theorem dd_Mo_init_138 : decode bb_Mo_init 138 = .ok (.iconst 3, 1) := by decide +kernel
theorem dd_Mo_init_139 : decode bb_Mo_init 139 = .ok (.newarray .boolean, 2) := by decide +kernel
theorem dd_Mo_init_141 : decode bb_Mo_init 141 = .ok (.putfield 63, 3) := by decide +kernel
theorem dd_Mo_init_144 : decode bb_Mo_init 144 = .ok (.aload_n 0, 1) := by decide +kernel
theorem dd_Mo_init_145 : decode bb_Mo_init 145 = .ok (.iconst 4, 1) := by decide +kernel
theorem dd_Mo_init_146 : decode bb_Mo_init 146 = .ok (.newarray .int, 2) := by decide +kernel
theorem dd_Mo_init_148 : decode bb_Mo_init 148 = .ok (.putfield 66, 3) := by decide +kernel
theorem dd_Mo_init_151 : decode bb_Mo_init 151 = .ok (.aload_n 0, 1) := by decide +kernel
theorem dd_Mo_init_152 : decode bb_Mo_init 152 = .ok (.iconst 4, 1) := by decide +kernel
theorem dd_Mo_init_153 : decode bb_Mo_init 153 = .ok (.newarray .int, 2) := by decide +kernel
theorem dd_Mo_init_155 : decode bb_Mo_init 155 = .ok (.putfield 69, 3) := by decide +kernel
theorem dd_Mo_init_158 : decode bb_Mo_init 158 = .ok (.aload_n 0, 1) := by decide +kernel
theorem dd_Mo_init_159 : decode bb_Mo_init 159 = .ok (.iconst 4, 1) := by decide +kernel
theorem dd_Mo_init_160 : decode bb_Mo_init 160 = .ok (.newarray .int, 2) := by decide +kernel
theorem dd_Mo_init_162 : decode bb_Mo_init 162 = .ok (.putfield 72, 3) := by decide +kernel
theorem dd_Mo_init_165 : decode bb_Mo_init 165 = .ok (.aload_n 0, 1) := by decide +kernel
theorem dd_Mo_init_166 : decode bb_Mo_init 166 = .ok (.iconst 4, 1) := by decide +kernel
theorem dd_Mo_init_167 : decode bb_Mo_init 167 = .ok (.newarray .boolean, 2) := by decide +kernel
theorem dd_Mo_init_169 : decode bb_Mo_init 169 = .ok (.putfield 75, 3) := by decide +kernel
theorem dd_Mo_init_172 : decode bb_Mo_init 172 = .ok (.aload_n 0, 1) := by decide +kernel
theorem dd_Mo_init_173 : decode bb_Mo_init 173 = .ok (.bipush 48, 2) := by decide +kernel
theorem dd_Mo_init_175 : decode bb_Mo_init 175 = .ok (.newarray .int, 2) := by decide +kernel
theorem dd_Mo_init_177 : decode bb_Mo_init 177 = .ok (.putfield 78, 3) := by decide +kernel
theorem dd_Mo_init_180 : decode bb_Mo_init 180 = .ok (.aload_n 0, 1) := by decide +kernel
theorem dd_Mo_init_181 : decode bb_Mo_init 181 = .ok (.bipush 48, 2) := by decide +kernel
theorem dd_Mo_init_183 : decode bb_Mo_init 183 = .ok (.newarray .int, 2) := by decide +kernel
theorem dd_Mo_init_185 : decode bb_Mo_init 185 = .ok (.putfield 81, 3) := by decide +kernel
theorem dd_Mo_init_188 : decode bb_Mo_init 188 = .ok (.aload_n 0, 1) := by decide +kernel
theorem dd_Mo_init_189 : decode bb_Mo_init 189 = .ok (.bipush 48, 2) := by decide +kernel
theorem dd_Mo_init_191 : decode bb_Mo_init 191 = .ok (.newarray .boolean, 2) := by decide +kernel
theorem dd_Mo_init_193 : decode bb_Mo_init 193 = .ok (.putfield 84, 3) := by decide +kernel
theorem dd_Mo_init_196 : decode bb_Mo_init 196 = .ok (.aload_n 0, 1) := by decide +kernel
theorem dd_Mo_init_197 : decode bb_Mo_init 197 = .ok (.bipush 48, 2) := by decide +kernel
theorem dd_Mo_init_199 : decode bb_Mo_init 199 = .ok (.newarray .boolean, 2) := by decide +kernel
theorem dd_Mo_init_201 : decode bb_Mo_init 201 = .ok (.putfield 87, 3) := by decide +kernel
theorem dd_Mo_init_204 : decode bb_Mo_init 204 = .ok (.aload_n 0, 1) := by decide +kernel
theorem dd_Mo_init_205 : decode bb_Mo_init 205 = .ok (.iload_n 1, 1) := by decide +kernel
theorem dd_Mo_init_206 : decode bb_Mo_init 206 = .ok (.iconst 1, 1) := by decide +kernel
theorem dd_Mo_init_207 : decode bb_Mo_init 207 = .ok (.if_icmp .ge 7, 3) := by decide +kernel
theorem dd_Mo_init_210 : decode bb_Mo_init 210 = .ok (.iconst 1, 1) := by decide +kernel
theorem dd_Mo_init_211 : decode bb_Mo_init 211 = .ok (.goto 15, 3) := by decide +kernel
theorem dd_Mo_init_214 : decode bb_Mo_init 214 = .ok (.iload_n 1, 1) := by decide +kernel
theorem dd_Mo_init_215 : decode bb_Mo_init 215 = .ok (.bipush 20, 2) := by decide +kernel
theorem dd_Mo_init_217 : decode bb_Mo_init 217 = .ok (.if_icmp .le 8, 3) := by decide +kernel
theorem dd_Mo_init_220 : decode bb_Mo_init 220 = .ok (.bipush 20, 2) := by decide +kernel
theorem dd_Mo_init_222 : decode bb_Mo_init 222 = .ok (.goto 4, 3) := by decide +kernel
theorem dd_Mo_init_225 : decode bb_Mo_init 225 = .ok (.iload_n 1, 1) := by decide +kernel
theorem dd_Mo_init_226 : decode bb_Mo_init 226 = .ok (.putfield 90, 3) := by decide +kernel
theorem dd_Mo_init_229 : decode bb_Mo_init 229 = .ok (.return_, 1) := by decide +kernel
theorem dd_Mo_step_0 : decode bb_Mo_step 0 = .ok (.aload_n 0, 1) := by decide +kernel
theorem dd_Mo_step_1 : decode bb_Mo_step 1 = .ok (.iconst 0, 1) := by decide +kernel
theorem dd_Mo_step_2 : decode bb_Mo_step 2 = .ok (.putfield 93, 3) := by decide +kernel
theorem dd_Mo_step_5 : decode bb_Mo_step 5 = .ok (.aload_n 0, 1) := by decide +kernel
theorem dd_Mo_step_6 : decode bb_Mo_step 6 = .ok (.iload_n 1, 1) := by decide +kernel
theorem dd_Mo_step_7 : decode bb_Mo_step 7 = .ok (.invokevirtual 131, 3) := by decide +kernel
theorem dd_Mo_step_10 : decode bb_Mo_step 10 = .ok (.ifCond .ne 9, 3) := by decide +kernel
theorem dd_Mo_step_13 : decode bb_Mo_step 13 = .ok (.aload_n 0, 1) := by decide +kernel
theorem dd_Mo_step_14 : decode bb_Mo_step 14 = .ok (.iconst 1, 1) := by decide +kernel
theorem dd_Mo_step_15 : decode bb_Mo_step 15 = .ok (.invokevirtual 134, 3) := by decide +kernel
theorem dd_Mo_step_18 : decode bb_Mo_step 18 = .ok (.ireturn, 1) := by decide +kernel
theorem dd_Mo_step_19 : decode bb_Mo_step 19 = .ok (.aload_n 0, 1) := by decide +kernel
theorem dd_Mo_step_20 : decode bb_Mo_step 20 = .ok (.getfield 66, 3) := by decide +kernel
theorem dd_Mo_step_23 : decode bb_Mo_step 23 = .ok (.iload_n 1, 1) := by decide +kernel
theorem dd_Mo_step_24 : decode bb_Mo_step 24 = .ok (.iaload, 1) := by decide +kernel
theorem dd_Mo_step_25 : decode bb_Mo_step 25 = .ok (.ifCond .ne 9, 3) := by decide +kernel
theorem dd_Mo_step_28 : decode bb_Mo_step 28 = .ok (.aload_n 0, 1) := by decide +kernel
theorem dd_Mo_step_29 : decode bb_Mo_step 29 = .ok (.iconst 2, 1) := by decide +kernel
theorem dd_Mo_step_30 : decode bb_Mo_step 30 = .ok (.invokevirtual 134, 3) := by decide +kernel
theorem dd_Mo_step_33 : decode bb_Mo_step 33 = .ok (.ireturn, 1) := by decide +kernel
theorem dd_Mo_step_34 : decode bb_Mo_step 34 = .ok (.aload_n 0, 1) := by decide +kernel
theorem dd_Mo_step_35 : decode bb_Mo_step 35 = .ok (.getfield 66, 3) := by decide +kernel
theorem dd_Mo_step_38 : decode bb_Mo_step 38 = .ok (.iload_n 1, 1) := by decide +kernel
theorem dd_Mo_step_39 : decode bb_Mo_step 39 = .ok (.iconst 2, 1) := by decide +kernel
theorem dd_Mo_step_40 : decode bb_Mo_step 40 = .ok (.iastore, 1) := by decide +kernel
theorem dd_Mo_step_41 : decode bb_Mo_step 41 = .ok (.aload_n 0, 1) := by decide +kernel
theorem dd_Mo_step_42 : decode bb_Mo_step 42 = .ok (.getfield 78, 3) := by decide +kernel
theorem dd_Mo_step_45 : decode bb_Mo_step 45 = .ok (.bipush 12, 2) := by decide +kernel
theorem dd_Mo_step_47 : decode bb_Mo_step 47 = .ok (.iload_n 1, 1) := by decide +kernel
theorem dd_Mo_step_48 : decode bb_Mo_step 48 = .ok (.imul, 1) := by decide +kernel
theorem dd_Mo_step_49 : decode bb_Mo_step 49 = .ok (.aload_n 0, 1) := by decide +kernel
theorem dd_Mo_step_50 : decode bb_Mo_step 50 = .ok (.iload_n 1, 1) := by decide +kernel
theorem dd_Mo_step_51 : decode bb_Mo_step 51 = .ok (.invokevirtual 155, 3) := by decide +kernel
theorem dd_Mo_step_54 : decode bb_Mo_step 54 = .ok (.iadd, 1) := by decide +kernel
theorem dd_Mo_step_55 : decode bb_Mo_step 55 = .ok (.iaload, 1) := by decide +kernel
theorem dd_Mo_step_56 : decode bb_Mo_step 56 = .ok (.ifCond .ne 11, 3) := by decide +kernel
theorem dd_Mo_step_59 : decode bb_Mo_step 59 = .ok (.aload_n 0, 1) := by decide +kernel
theorem dd_Mo_step_60 : decode bb_Mo_step 60 = .ok (.iload_n 1, 1) := by decide +kernel
theorem dd_Mo_step_61 : decode bb_Mo_step 61 = .ok (.bipush 7, 2) := by decide +kernel
theorem dd_Mo_step_63 : decode bb_Mo_step 63 = .ok (.invokevirtual 158, 3) := by decide +kernel
theorem dd_Mo_step_66 : decode bb_Mo_step 66 = .ok (.ireturn, 1) := by decide +kernel
theorem dd_Mo_step_67 : decode bb_Mo_step 67 = .ok (.aload_n 0, 1) := by decide +kernel
theorem dd_Mo_step_68 : decode bb_Mo_step 68 = .ok (.iload_n 1, 1) := by decide +kernel
theorem dd_Mo_step_69 : decode bb_Mo_step 69 = .ok (.iconst 0, 1) := by decide +kernel
theorem dd_Mo_step_70 : decode bb_Mo_step 70 = .ok (.invokevirtual 161, 3) := by decide +kernel
theorem dd_Mo_step_73 : decode bb_Mo_step 73 = .ok (.istore_n 2, 1) := by decide +kernel
theorem dd_Mo_step_74 : decode bb_Mo_step 74 = .ok (.iload_n 2, 1) := by decide +kernel
theorem dd_Mo_step_75 : decode bb_Mo_step 75 = .ok (.bipush 12, 2) := by decide +kernel
theorem dd_Mo_step_77 : decode bb_Mo_step 77 = .ok (.if_icmp .ge 10, 3) := by decide +kernel
theorem dd_Mo_step_80 : decode bb_Mo_step 80 = .ok (.aload_n 0, 1) := by decide +kernel
theorem dd_Mo_step_81 : decode bb_Mo_step 81 = .ok (.iload_n 1, 1) := by decide +kernel
theorem dd_Mo_step_82 : decode bb_Mo_step 82 = .ok (.iload_n 2, 1) := by decide +kernel
theorem dd_Mo_step_83 : decode bb_Mo_step 83 = .ok (.invokevirtual 165, 3) := by decide +kernel
theorem dd_Mo_step_86 : decode bb_Mo_step 86 = .ok (.ireturn, 1) := by decide +kernel
theorem dd_Mo_step_87 : decode bb_Mo_step 87 = .ok (.aload_n 0, 1) := by decide +kernel
theorem dd_Mo_step_88 : decode bb_Mo_step 88 = .ok (.getfield 72, 3) := by decide +kernel
theorem dd_Mo_step_91 : decode bb_Mo_step 91 = .ok (.iload_n 1, 1) := by decide +kernel
theorem dd_Mo_step_92 : decode bb_Mo_step 92 = .ok (.iaload, 1) := by decide +kernel
theorem dd_Mo_step_93 : decode bb_Mo_step 93 = .ok (.ifCond .ne 15, 3) := by decide +kernel
theorem dd_Mo_step_96 : decode bb_Mo_step 96 = .ok (.aload_n 0, 1) := by decide +kernel
theorem dd_Mo_step_97 : decode bb_Mo_step 97 = .ok (.getfield 72, 3) := by decide +kernel
theorem dd_Mo_step_100 : decode bb_Mo_step 100 = .ok (.iload_n 1, 1) := by decide +kernel
theorem dd_Mo_step_101 : decode bb_Mo_step 101 = .ok (.aload_n 0, 1) := by decide +kernel
theorem dd_Mo_step_102 : decode bb_Mo_step 102 = .ok (.invokevirtual 138, 3) := by decide +kernel
theorem dd_Mo_step_105 : decode bb_Mo_step 105 = .ok (.iastore, 1) := by decide +kernel
theorem dd_Mo_step_106 : decode bb_Mo_step 106 = .ok (.iconst 2, 1) := by decide +kernel
theorem dd_Mo_step_107 : decode bb_Mo_step 107 = .ok (.ireturn, 1) := by decide +kernel
theorem dd_Mo_step_108 : decode bb_Mo_step 108 = .ok (.aload_n 0, 1) := by decide +kernel
theorem dd_Mo_step_109 : decode bb_Mo_step 109 = .ok (.getfield 75, 3) := by decide +kernel
theorem dd_Mo_step_112 : decode bb_Mo_step 112 = .ok (.iload_n 1, 1) := by decide +kernel
theorem dd_Mo_step_113 : decode bb_Mo_step 113 = .ok (.baload, 1) := by decide +kernel
theorem dd_Mo_step_114 : decode bb_Mo_step 114 = .ok (.ifCond .eq 11, 3) := by decide +kernel
theorem dd_Mo_step_117 : decode bb_Mo_step 117 = .ok (.aload_n 0, 1) := by decide +kernel
theorem dd_Mo_step_118 : decode bb_Mo_step 118 = .ok (.iload_n 1, 1) := by decide +kernel
theorem dd_Mo_step_119 : decode bb_Mo_step 119 = .ok (.invokevirtual 168, 3) := by decide +kernel
theorem dd_Mo_step_122 : decode bb_Mo_step 122 = .ok (.goto 8, 3) := by decide +kernel
theorem dd_Mo_step_125 : decode bb_Mo_step 125 = .ok (.aload_n 0, 1) := by decide +kernel
theorem dd_Mo_step_126 : decode bb_Mo_step 126 = .ok (.iload_n 1, 1) := by decide +kernel
theorem dd_Mo_step_127 : decode bb_Mo_step 127 = .ok (.invokevirtual 171, 3) := by decide +kernel
theorem dd_Mo_step_130 : decode bb_Mo_step 130 = .ok (.ireturn, 1) := by decide +kernel
theorem dd_Mo_prewrite_0 : decode bb_Mo_prewrite 0 = .ok (.aload_n 0, 1) := by decide +kernel
theorem dd_Mo_prewrite_1 : decode bb_Mo_prewrite 1 = .ok (.getfield 69, 3) := by decide +kernel
theorem dd_Mo_prewrite_4 : decode bb_Mo_prewrite 4 = .ok (.iload_n 1, 1) := by decide +kernel
theorem dd_Mo_prewrite_5 : decode bb_Mo_prewrite 5 = .ok (.iaload, 1) := by decide +kernel
theorem dd_Mo_prewrite_6 : decode bb_Mo_prewrite 6 = .ok (.istore_n 3, 1) := by decide +kernel
theorem dd_Mo_prewrite_7 : decode bb_Mo_prewrite 7 = .ok (.aload_n 0, 1) := by decide +kernel
theorem dd_Mo_prewrite_8 : decode bb_Mo_prewrite 8 = .ok (.getfield 47, 3) := by decide +kernel
theorem dd_Mo_prewrite_11 : decode bb_Mo_prewrite 11 = .ok (.iload_n 2, 1) := by decide +kernel
theorem dd_Mo_prewrite_12 : decode bb_Mo_prewrite 12 = .ok (.iconst 4, 1) := by decide +kernel
theorem dd_Mo_prewrite_13 : decode bb_Mo_prewrite 13 = .ok (.idiv, 1) := by decide +kernel
theorem dd_Mo_prewrite_14 : decode bb_Mo_prewrite 14 = .ok (.baload, 1) := by decide +kernel
theorem dd_Mo_prewrite_15 : decode bb_Mo_prewrite 15 = .ok (.ifCond .eq 9, 3) := by decide +kernel
theorem dd_Mo_prewrite_18 : decode bb_Mo_prewrite 18 = .ok (.aload_n 0, 1) := by decide +kernel
theorem dd_Mo_prewrite_19 : decode bb_Mo_prewrite 19 = .ok (.iconst 3, 1) := by decide +kernel
theorem dd_Mo_prewrite_20 : decode bb_Mo_prewrite 20 = .ok (.invokevirtual 134, 3) := by decide +kernel
theorem dd_Mo_prewrite_23 : decode bb_Mo_prewrite 23 = .ok (.ireturn, 1) := by decide +kernel
theorem dd_Mo_prewrite_24 : decode bb_Mo_prewrite 24 = .ok (.aload_n 0, 1) := by decide +kernel
theorem dd_Mo_prewrite_25 : decode bb_Mo_prewrite 25 = .ok (.getfield 13, 3) := by decide +kernel
theorem dd_Mo_prewrite_28 : decode bb_Mo_prewrite 28 = .ok (.iload_n 2, 1) := by decide +kernel
theorem dd_Mo_prewrite_29 : decode bb_Mo_prewrite 29 = .ok (.iaload, 1) := by decide +kernel
theorem dd_Mo_prewrite_30 : decode bb_Mo_prewrite 30 = .ok (.iload_n 3, 1) := by decide +kernel
theorem dd_Mo_prewrite_31 : decode bb_Mo_prewrite 31 = .ok (.if_icmp .eq 104, 3) := by decide +kernel
theorem dd_Mo_prewrite_34 : decode bb_Mo_prewrite 34 = .ok (.aload_n 0, 1) := by decide +kernel
theorem dd_Mo_prewrite_35 : decode bb_Mo_prewrite 35 = .ok (.getfield 51, 3) := by decide +kernel
theorem dd_Mo_prewrite_38 : decode bb_Mo_prewrite 38 = .ok (.iload_n 2, 1) := by decide +kernel
theorem dd_Mo_prewrite_39 : decode bb_Mo_prewrite 39 = .ok (.iconst 4, 1) := by decide +kernel
theorem dd_Mo_prewrite_40 : decode bb_Mo_prewrite 40 = .ok (.idiv, 1) := by decide +kernel
theorem dd_Mo_prewrite_41 : decode bb_Mo_prewrite 41 = .ok (.iaload, 1) := by decide +kernel
theorem dd_Mo_prewrite_42 : decode bb_Mo_prewrite 42 = .ok (.iload_n 3, 1) := by decide +kernel
theorem dd_Mo_prewrite_43 : decode bb_Mo_prewrite 43 = .ok (.if_icmp .gt 12, 3) := by decide +kernel
theorem dd_Mo_prewrite_46 : decode bb_Mo_prewrite 46 = .ok (.aload_n 0, 1) := by decide +kernel
theorem dd_Mo_prewrite_47 : decode bb_Mo_prewrite 47 = .ok (.iload_n 2, 1) := by decide +kernel
theorem dd_Mo_prewrite_48 : decode bb_Mo_prewrite 48 = .ok (.iload_n 3, 1) := by decide +kernel
theorem dd_Mo_prewrite_49 : decode bb_Mo_prewrite 49 = .ok (.invokevirtual 174, 3) := by decide +kernel
theorem dd_Mo_prewrite_52 : decode bb_Mo_prewrite 52 = .ok (.ifCond .eq 10, 3) := by decide +kernel
theorem dd_Mo_prewrite_55 : decode bb_Mo_prewrite 55 = .ok (.aload_n 0, 1) := by decide +kernel
theorem dd_Mo_prewrite_56 : decode bb_Mo_prewrite 56 = .ok (.iload_n 1, 1) := by decide +kernel
theorem dd_Mo_prewrite_57 : decode bb_Mo_prewrite 57 = .ok (.iconst 0, 1) := by decide +kernel
theorem dd_Mo_prewrite_58 : decode bb_Mo_prewrite 58 = .ok (.invokevirtual 158, 3) := by decide +kernel
theorem dd_Mo_prewrite_61 : decode bb_Mo_prewrite 61 = .ok (.ireturn, 1) := by decide +kernel
theorem dd_Mo_prewrite_62 : decode bb_Mo_prewrite 62 = .ok (.aload_n 0, 1) := by decide +kernel
theorem dd_Mo_prewrite_63 : decode bb_Mo_prewrite 63 = .ok (.getfield 13, 3) := by decide +kernel
theorem dd_Mo_prewrite_66 : decode bb_Mo_prewrite 66 = .ok (.iload_n 2, 1) := by decide +kernel
theorem dd_Mo_prewrite_67 : decode bb_Mo_prewrite 67 = .ok (.iaload, 1) := by decide +kernel
theorem dd_Mo_prewrite_68 : decode bb_Mo_prewrite 68 = .ok (.ifCond .le 43, 3) := by decide +kernel
theorem dd_Mo_prewrite_71 : decode bb_Mo_prewrite 71 = .ok (.aload_n 0, 1) := by decide +kernel
theorem dd_Mo_prewrite_72 : decode bb_Mo_prewrite 72 = .ok (.iload_n 2, 1) := by decide +kernel
theorem dd_Mo_prewrite_73 : decode bb_Mo_prewrite 73 = .ok (.invokevirtual 145, 3) := by decide +kernel
theorem dd_Mo_prewrite_76 : decode bb_Mo_prewrite 76 = .ok (.istore 4, 2) := by decide +kernel
theorem dd_Mo_prewrite_78 : decode bb_Mo_prewrite 78 = .ok (.iload 4, 2) := by decide +kernel
theorem dd_Mo_prewrite_80 : decode bb_Mo_prewrite 80 = .ok (.iconst 1, 1) := by decide +kernel
theorem dd_Mo_prewrite_81 : decode bb_Mo_prewrite 81 = .ok (.if_icmp .eq 8, 3) := by decide +kernel
theorem dd_Mo_prewrite_84 : decode bb_Mo_prewrite 84 = .ok (.iload 4, 2) := by decide +kernel
theorem dd_Mo_prewrite_86 : decode bb_Mo_prewrite 86 = .ok (.ifCond .ne 9, 3) := by decide +kernel
theorem dd_Mo_prewrite_89 : decode bb_Mo_prewrite 89 = .ok (.aload_n 0, 1) := by decide +kernel
theorem dd_Mo_prewrite_90 : decode bb_Mo_prewrite 90 = .ok (.iconst 3, 1) := by decide +kernel
theorem dd_Mo_prewrite_91 : decode bb_Mo_prewrite 91 = .ok (.invokevirtual 134, 3) := by decide +kernel
theorem dd_Mo_prewrite_94 : decode bb_Mo_prewrite 94 = .ok (.ireturn, 1) := by decide +kernel
theorem dd_Mo_prewrite_95 : decode bb_Mo_prewrite 95 = .ok (.aload_n 0, 1) := by decide +kernel
theorem dd_Mo_prewrite_96 : decode bb_Mo_prewrite 96 = .ok (.iload_n 2, 1) := by decide +kernel
theorem dd_Mo_prewrite_97 : decode bb_Mo_prewrite 97 = .ok (.iload_n 3, 1) := by decide +kernel
theorem dd_Mo_prewrite_98 : decode bb_Mo_prewrite 98 = .ok (.invokevirtual 174, 3) := by decide +kernel
theorem dd_Mo_prewrite_101 : decode bb_Mo_prewrite 101 = .ok (.ifCond .eq 10, 3) := by decide +kernel
theorem dd_Mo_prewrite_104 : decode bb_Mo_prewrite 104 = .ok (.aload_n 0, 1) := by decide +kernel
theorem dd_Mo_prewrite_105 : decode bb_Mo_prewrite 105 = .ok (.iload_n 1, 1) := by decide +kernel
theorem dd_Mo_prewrite_106 : decode bb_Mo_prewrite 106 = .ok (.iconst 0, 1) := by decide +kernel
theorem dd_Mo_prewrite_107 : decode bb_Mo_prewrite 107 = .ok (.invokevirtual 158, 3) := by decide +kernel
theorem dd_Mo_prewrite_110 : decode bb_Mo_prewrite 110 = .ok (.ireturn, 1) := by decide +kernel
theorem dd_Mo_prewrite_111 : decode bb_Mo_prewrite 111 = .ok (.aload_n 0, 1) := by decide +kernel
theorem dd_Mo_prewrite_112 : decode bb_Mo_prewrite 112 = .ok (.iload_n 1, 1) := by decide +kernel
theorem dd_Mo_prewrite_113 : decode bb_Mo_prewrite 113 = .ok (.invokevirtual 155, 3) := by decide +kernel
theorem dd_Mo_prewrite_116 : decode bb_Mo_prewrite 116 = .ok (.istore 4, 2) := by decide +kernel
theorem dd_Mo_prewrite_118 : decode bb_Mo_prewrite 118 = .ok (.aload_n 0, 1) := by decide +kernel
theorem dd_Mo_prewrite_119 : decode bb_Mo_prewrite 119 = .ok (.iload_n 1, 1) := by decide +kernel
theorem dd_Mo_prewrite_120 : decode bb_Mo_prewrite 120 = .ok (.iload_n 2, 1) := by decide +kernel
theorem dd_Mo_prewrite_121 : decode bb_Mo_prewrite 121 = .ok (.iload 4, 2) := by decide +kernel
theorem dd_Mo_prewrite_123 : decode bb_Mo_prewrite 123 = .ok (.invokevirtual 177, 3) := by decide +kernel
theorem dd_Mo_prewrite_126 : decode bb_Mo_prewrite 126 = .ok (.ifCond .ne 9, 3) := by decide +kernel
theorem dd_Mo_prewrite_129 : decode bb_Mo_prewrite 129 = .ok (.aload_n 0, 1) := by decide +kernel
theorem dd_Mo_prewrite_130 : decode bb_Mo_prewrite 130 = .ok (.iconst 3, 1) := by decide +kernel
theorem dd_Mo_prewrite_131 : decode bb_Mo_prewrite 131 = .ok (.invokevirtual 134, 3) := by decide +kernel
theorem dd_Mo_prewrite_134 : decode bb_Mo_prewrite 134 = .ok (.ireturn, 1) := by decide +kernel
theorem dd_Mo_prewrite_135 : decode bb_Mo_prewrite 135 = .ok (.aload_n 0, 1) := by decide +kernel
theorem dd_Mo_prewrite_136 : decode bb_Mo_prewrite 136 = .ok (.getfield 84, 3) := by decide +kernel
theorem dd_Mo_prewrite_139 : decode bb_Mo_prewrite 139 = .ok (.bipush 12, 2) := by decide +kernel
theorem dd_Mo_prewrite_141 : decode bb_Mo_prewrite 141 = .ok (.iload_n 1, 1) := by decide +kernel
theorem dd_Mo_prewrite_142 : decode bb_Mo_prewrite 142 = .ok (.imul, 1) := by decide +kernel
theorem dd_Mo_prewrite_143 : decode bb_Mo_prewrite 143 = .ok (.iload_n 2, 1) := by decide +kernel
theorem dd_Mo_prewrite_144 : decode bb_Mo_prewrite 144 = .ok (.iadd, 1) := by decide +kernel
theorem dd_Mo_prewrite_145 : decode bb_Mo_prewrite 145 = .ok (.iconst 1, 1) := by decide +kernel
theorem dd_Mo_prewrite_146 : decode bb_Mo_prewrite 146 = .ok (.bastore, 1) := by decide +kernel
theorem dd_Mo_prewrite_147 : decode bb_Mo_prewrite 147 = .ok (.iconst 1, 1) := by decide +kernel
theorem dd_Mo_prewrite_148 : decode bb_Mo_prewrite 148 = .ok (.ireturn, 1) := by decide +kernel
theorem dd_Mo_decide_0 : decode bb_Mo_decide 0 = .ok (.aload_n 0, 1) := by decide +kernel
theorem dd_Mo_decide_1 : decode bb_Mo_decide 1 = .ok (.iload_n 1, 1) := by decide +kernel
theorem dd_Mo_decide_2 : decode bb_Mo_decide 2 = .ok (.invokevirtual 155, 3) := by decide +kernel
theorem dd_Mo_decide_5 : decode bb_Mo_decide 5 = .ok (.istore_n 2, 1) := by decide +kernel
theorem dd_Mo_decide_6 : decode bb_Mo_decide 6 = .ok (.aload_n 0, 1) := by decide +kernel
theorem dd_Mo_decide_7 : decode bb_Mo_decide 7 = .ok (.getfield 47, 3) := by decide +kernel
theorem dd_Mo_decide_10 : decode bb_Mo_decide 10 = .ok (.iload_n 2, 1) := by decide +kernel
theorem dd_Mo_decide_11 : decode bb_Mo_decide 11 = .ok (.iconst 4, 1) := by decide +kernel
theorem dd_Mo_decide_12 : decode bb_Mo_decide 12 = .ok (.idiv, 1) := by decide +kernel
theorem dd_Mo_decide_13 : decode bb_Mo_decide 13 = .ok (.baload, 1) := by decide +kernel
theorem dd_Mo_decide_14 : decode bb_Mo_decide 14 = .ok (.ifCond .eq 9, 3) := by decide +kernel
theorem dd_Mo_decide_17 : decode bb_Mo_decide 17 = .ok (.aload_n 0, 1) := by decide +kernel
theorem dd_Mo_decide_18 : decode bb_Mo_decide 18 = .ok (.iconst 3, 1) := by decide +kernel
theorem dd_Mo_decide_19 : decode bb_Mo_decide 19 = .ok (.invokevirtual 134, 3) := by decide +kernel
theorem dd_Mo_decide_22 : decode bb_Mo_decide 22 = .ok (.ireturn, 1) := by decide +kernel
theorem dd_Mo_decide_23 : decode bb_Mo_decide 23 = .ok (.aload_n 0, 1) := by decide +kernel
theorem dd_Mo_decide_24 : decode bb_Mo_decide 24 = .ok (.iload_n 2, 1) := by decide +kernel
theorem dd_Mo_decide_25 : decode bb_Mo_decide 25 = .ok (.aload_n 0, 1) := by decide +kernel
theorem dd_Mo_decide_26 : decode bb_Mo_decide 26 = .ok (.getfield 69, 3) := by decide +kernel
theorem dd_Mo_decide_29 : decode bb_Mo_decide 29 = .ok (.iload_n 1, 1) := by decide +kernel
theorem dd_Mo_decide_30 : decode bb_Mo_decide 30 = .ok (.iaload, 1) := by decide +kernel
theorem dd_Mo_decide_31 : decode bb_Mo_decide 31 = .ok (.invokevirtual 113, 3) := by decide +kernel
theorem dd_Mo_decide_34 : decode bb_Mo_decide 34 = .ok (.ifCond .ne 45, 3) := by decide +kernel
theorem dd_Mo_decide_37 : decode bb_Mo_decide 37 = .ok (.aload_n 0, 1) := by decide +kernel
theorem dd_Mo_decide_38 : decode bb_Mo_decide 38 = .ok (.getfield 13, 3) := by decide +kernel
theorem dd_Mo_decide_41 : decode bb_Mo_decide 41 = .ok (.iload_n 2, 1) := by decide +kernel
theorem dd_Mo_decide_42 : decode bb_Mo_decide 42 = .ok (.iaload, 1) := by decide +kernel
theorem dd_Mo_decide_43 : decode bb_Mo_decide 43 = .ok (.aload_n 0, 1) := by decide +kernel
theorem dd_Mo_decide_44 : decode bb_Mo_decide 44 = .ok (.getfield 69, 3) := by decide +kernel
theorem dd_Mo_decide_47 : decode bb_Mo_decide 47 = .ok (.iload_n 1, 1) := by decide +kernel
theorem dd_Mo_decide_48 : decode bb_Mo_decide 48 = .ok (.iaload, 1) := by decide +kernel
theorem dd_Mo_decide_49 : decode bb_Mo_decide 49 = .ok (.if_icmp .eq 10, 3) := by decide +kernel
theorem dd_Mo_decide_52 : decode bb_Mo_decide 52 = .ok (.aload_n 0, 1) := by decide +kernel
theorem dd_Mo_decide_53 : decode bb_Mo_decide 53 = .ok (.iload_n 1, 1) := by decide +kernel
theorem dd_Mo_decide_54 : decode bb_Mo_decide 54 = .ok (.iconst 0, 1) := by decide +kernel
theorem dd_Mo_decide_55 : decode bb_Mo_decide 55 = .ok (.invokevirtual 158, 3) := by decide +kernel
theorem dd_Mo_decide_58 : decode bb_Mo_decide 58 = .ok (.ireturn, 1) := by decide +kernel
theorem dd_Mo_decide_59 : decode bb_Mo_decide 59 = .ok (.aload_n 0, 1) := by decide +kernel
theorem dd_Mo_decide_60 : decode bb_Mo_decide 60 = .ok (.iload_n 2, 1) := by decide +kernel
theorem dd_Mo_decide_61 : decode bb_Mo_decide 61 = .ok (.aload_n 0, 1) := by decide +kernel
theorem dd_Mo_decide_62 : decode bb_Mo_decide 62 = .ok (.getfield 72, 3) := by decide +kernel
theorem dd_Mo_decide_65 : decode bb_Mo_decide 65 = .ok (.iload_n 1, 1) := by decide +kernel
theorem dd_Mo_decide_66 : decode bb_Mo_decide 66 = .ok (.iaload, 1) := by decide +kernel
theorem dd_Mo_decide_67 : decode bb_Mo_decide 67 = .ok (.invokevirtual 117, 3) := by decide +kernel
theorem dd_Mo_decide_70 : decode bb_Mo_decide 70 = .ok (.ifCond .ne 9, 3) := by decide +kernel
theorem dd_Mo_decide_73 : decode bb_Mo_decide 73 = .ok (.aload_n 0, 1) := by decide +kernel
theorem dd_Mo_decide_74 : decode bb_Mo_decide 74 = .ok (.iconst 3, 1) := by decide +kernel
theorem dd_Mo_decide_75 : decode bb_Mo_decide 75 = .ok (.invokevirtual 134, 3) := by decide +kernel
theorem dd_Mo_decide_78 : decode bb_Mo_decide 78 = .ok (.ireturn, 1) := by decide +kernel
theorem dd_Mo_decide_79 : decode bb_Mo_decide 79 = .ok (.aload_n 0, 1) := by decide +kernel
theorem dd_Mo_decide_80 : decode bb_Mo_decide 80 = .ok (.getfield 75, 3) := by decide +kernel
theorem dd_Mo_decide_83 : decode bb_Mo_decide 83 = .ok (.iload_n 1, 1) := by decide +kernel
theorem dd_Mo_decide_84 : decode bb_Mo_decide 84 = .ok (.iconst 1, 1) := by decide +kernel
theorem dd_Mo_decide_85 : decode bb_Mo_decide 85 = .ok (.bastore, 1) := by decide +kernel
theorem dd_Mo_decide_86 : decode bb_Mo_decide 86 = .ok (.aload_n 0, 1) := by decide +kernel
theorem dd_Mo_decide_87 : decode bb_Mo_decide 87 = .ok (.iload_n 1, 1) := by decide +kernel
theorem dd_Mo_decide_88 : decode bb_Mo_decide 88 = .ok (.iconst 1, 1) := by decide +kernel
theorem dd_Mo_decide_89 : decode bb_Mo_decide 89 = .ok (.invokevirtual 161, 3) := by decide +kernel
theorem dd_Mo_decide_92 : decode bb_Mo_decide 92 = .ok (.bipush 12, 2) := by decide +kernel
theorem dd_Mo_decide_94 : decode bb_Mo_decide 94 = .ok (.if_icmp .ne 12, 3) := by decide +kernel
theorem dd_Mo_decide_97 : decode bb_Mo_decide 97 = .ok (.aload_n 0, 1) := by decide +kernel
theorem dd_Mo_decide_98 : decode bb_Mo_decide 98 = .ok (.iload_n 1, 1) := by decide +kernel
theorem dd_Mo_decide_99 : decode bb_Mo_decide 99 = .ok (.iconst 4, 1) := by decide +kernel
theorem dd_Mo_decide_100 : decode bb_Mo_decide 100 = .ok (.invokevirtual 158, 3) := by decide +kernel
theorem dd_Mo_decide_103 : decode bb_Mo_decide 103 = .ok (.goto 4, 3) := by decide +kernel
theorem dd_Mo_decide_106 : decode bb_Mo_decide 106 = .ok (.iconst 3, 1) := by decide +kernel
theorem dd_Mo_decide_107 : decode bb_Mo_decide 107 = .ok (.ireturn, 1) := by decide +kernel
theorem dd_Mo_follow_0 : decode bb_Mo_follow 0 = .ok (.aload_n 0, 1) := by decide +kernel
theorem dd_Mo_follow_1 : decode bb_Mo_follow 1 = .ok (.iload_n 1, 1) := by decide +kernel
theorem dd_Mo_follow_2 : decode bb_Mo_follow 2 = .ok (.iconst 1, 1) := by decide +kernel
theorem dd_Mo_follow_3 : decode bb_Mo_follow 3 = .ok (.invokevirtual 161, 3) := by decide +kernel
theorem dd_Mo_follow_6 : decode bb_Mo_follow 6 = .ok (.istore_n 2, 1) := by decide +kernel
theorem dd_Mo_follow_7 : decode bb_Mo_follow 7 = .ok (.aload_n 0, 1) := by decide +kernel
theorem dd_Mo_follow_8 : decode bb_Mo_follow 8 = .ok (.getfield 47, 3) := by decide +kernel
theorem dd_Mo_follow_11 : decode bb_Mo_follow 11 = .ok (.iload_n 2, 1) := by decide +kernel
theorem dd_Mo_follow_12 : decode bb_Mo_follow 12 = .ok (.iconst 4, 1) := by decide +kernel
theorem dd_Mo_follow_13 : decode bb_Mo_follow 13 = .ok (.idiv, 1) := by decide +kernel
theorem dd_Mo_follow_14 : decode bb_Mo_follow 14 = .ok (.baload, 1) := by decide +kernel
theorem dd_Mo_follow_15 : decode bb_Mo_follow 15 = .ok (.ifCond .eq 9, 3) := by decide +kernel
theorem dd_Mo_follow_18 : decode bb_Mo_follow 18 = .ok (.aload_n 0, 1) := by decide +kernel
theorem dd_Mo_follow_19 : decode bb_Mo_follow 19 = .ok (.iconst 3, 1) := by decide +kernel
theorem dd_Mo_follow_20 : decode bb_Mo_follow 20 = .ok (.invokevirtual 134, 3) := by decide +kernel
theorem dd_Mo_follow_23 : decode bb_Mo_follow 23 = .ok (.ireturn, 1) := by decide +kernel
theorem dd_Mo_follow_24 : decode bb_Mo_follow 24 = .ok (.aload_n 0, 1) := by decide +kernel
theorem dd_Mo_follow_25 : decode bb_Mo_follow 25 = .ok (.getfield 13, 3) := by decide +kernel
theorem dd_Mo_follow_28 : decode bb_Mo_follow 28 = .ok (.iload_n 2, 1) := by decide +kernel
theorem dd_Mo_follow_29 : decode bb_Mo_follow 29 = .ok (.iaload, 1) := by decide +kernel
theorem dd_Mo_follow_30 : decode bb_Mo_follow 30 = .ok (.aload_n 0, 1) := by decide +kernel
theorem dd_Mo_follow_31 : decode bb_Mo_follow 31 = .ok (.getfield 69, 3) := by decide +kernel
theorem dd_Mo_follow_34 : decode bb_Mo_follow 34 = .ok (.iload_n 1, 1) := by decide +kernel
theorem dd_Mo_follow_35 : decode bb_Mo_follow 35 = .ok (.iaload, 1) := by decide +kernel
theorem dd_Mo_follow_36 : decode bb_Mo_follow 36 = .ok (.if_icmp .ne 23, 3) := by decide +kernel
theorem dd_Mo_follow_39 : decode bb_Mo_follow 39 = .ok (.aload_n 0, 1) := by decide +kernel
theorem dd_Mo_follow_40 : decode bb_Mo_follow 40 = .ok (.iload_n 2, 1) := by decide +kernel
theorem dd_Mo_follow_41 : decode bb_Mo_follow 41 = .ok (.aload_n 0, 1) := by decide +kernel
theorem dd_Mo_follow_42 : decode bb_Mo_follow 42 = .ok (.getfield 72, 3) := by decide +kernel
theorem dd_Mo_follow_45 : decode bb_Mo_follow 45 = .ok (.iload_n 1, 1) := by decide +kernel
theorem dd_Mo_follow_46 : decode bb_Mo_follow 46 = .ok (.iaload, 1) := by decide +kernel
theorem dd_Mo_follow_47 : decode bb_Mo_follow 47 = .ok (.invokevirtual 117, 3) := by decide +kernel
theorem dd_Mo_follow_50 : decode bb_Mo_follow 50 = .ok (.ifCond .ne 9, 3) := by decide +kernel
theorem dd_Mo_follow_53 : decode bb_Mo_follow 53 = .ok (.aload_n 0, 1) := by decide +kernel
theorem dd_Mo_follow_54 : decode bb_Mo_follow 54 = .ok (.iconst 3, 1) := by decide +kernel
theorem dd_Mo_follow_55 : decode bb_Mo_follow 55 = .ok (.invokevirtual 134, 3) := by decide +kernel
theorem dd_Mo_follow_58 : decode bb_Mo_follow 58 = .ok (.ireturn, 1) := by decide +kernel
theorem dd_Mo_follow_59 : decode bb_Mo_follow 59 = .ok (.aload_n 0, 1) := by decide +kernel
theorem dd_Mo_follow_60 : decode bb_Mo_follow 60 = .ok (.getfield 87, 3) := by decide +kernel
theorem dd_Mo_follow_63 : decode bb_Mo_follow 63 = .ok (.bipush 12, 2) := by decide +kernel
theorem dd_Mo_follow_65 : decode bb_Mo_follow 65 = .ok (.iload_n 1, 1) := by decide +kernel
theorem dd_Mo_follow_66 : decode bb_Mo_follow 66 = .ok (.imul, 1) := by decide +kernel
theorem dd_Mo_follow_67 : decode bb_Mo_follow 67 = .ok (.iload_n 2, 1) := by decide +kernel
theorem dd_Mo_follow_68 : decode bb_Mo_follow 68 = .ok (.iadd, 1) := by decide +kernel
theorem dd_Mo_follow_69 : decode bb_Mo_follow 69 = .ok (.iconst 1, 1) := by decide +kernel
theorem dd_Mo_follow_70 : decode bb_Mo_follow 70 = .ok (.bastore, 1) := by decide +kernel
theorem dd_Mo_follow_71 : decode bb_Mo_follow 71 = .ok (.aload_n 0, 1) := by decide +kernel
theorem dd_Mo_follow_72 : decode bb_Mo_follow 72 = .ok (.iload_n 1, 1) := by decide +kernel
theorem dd_Mo_follow_73 : decode bb_Mo_follow 73 = .ok (.iconst 1, 1) := by decide +kernel
theorem dd_Mo_follow_74 : decode bb_Mo_follow 74 = .ok (.invokevirtual 161, 3) := by decide +kernel
theorem dd_Mo_follow_77 : decode bb_Mo_follow 77 = .ok (.bipush 12, 2) := by decide +kernel
theorem dd_Mo_follow_79 : decode bb_Mo_follow 79 = .ok (.if_icmp .ne 13, 3) := by decide +kernel
theorem dd_Mo_follow_82 : decode bb_Mo_follow 82 = .ok (.aload_n 0, 1) := by decide +kernel
theorem dd_Mo_follow_83 : decode bb_Mo_follow 83 = .ok (.iload_n 1, 1) := by decide +kernel
theorem dd_Mo_follow_84 : decode bb_Mo_follow 84 = .ok (.bipush 6, 2) := by decide +kernel
theorem dd_Mo_follow_86 : decode bb_Mo_follow 86 = .ok (.invokevirtual 158, 3) := by decide +kernel
theorem dd_Mo_follow_89 : decode bb_Mo_follow 89 = .ok (.goto 4, 3) := by decide +kernel
theorem dd_Mo_follow_92 : decode bb_Mo_follow 92 = .ok (.iconst 5, 1) := by decide +kernel
theorem dd_Mo_follow_93 : decode bb_Mo_follow 93 = .ok (.ireturn, 1) := by decide +kernel
theorem dd_Mo_kill_0 : decode bb_Mo_kill 0 = .ok (.aload_n 0, 1) := by decide +kernel
theorem dd_Mo_kill_1 : decode bb_Mo_kill 1 = .ok (.iconst 0, 1) := by decide +kernel
theorem dd_Mo_kill_2 : decode bb_Mo_kill 2 = .ok (.putfield 93, 3) := by decide +kernel
theorem dd_Mo_kill_5 : decode bb_Mo_kill 5 = .ok (.aload_n 0, 1) := by decide +kernel
theorem dd_Mo_kill_6 : decode bb_Mo_kill 6 = .ok (.iload_n 1, 1) := by decide +kernel
theorem dd_Mo_kill_7 : decode bb_Mo_kill 7 = .ok (.invokevirtual 131, 3) := by decide +kernel
theorem dd_Mo_kill_10 : decode bb_Mo_kill 10 = .ok (.ifCond .eq 12, 3) := by decide +kernel
theorem dd_Mo_kill_13 : decode bb_Mo_kill 13 = .ok (.aload_n 0, 1) := by decide +kernel
theorem dd_Mo_kill_14 : decode bb_Mo_kill 14 = .ok (.getfield 66, 3) := by decide +kernel
theorem dd_Mo_kill_17 : decode bb_Mo_kill 17 = .ok (.iload_n 1, 1) := by decide +kernel
theorem dd_Mo_kill_18 : decode bb_Mo_kill 18 = .ok (.iaload, 1) := by decide +kernel
theorem dd_Mo_kill_19 : decode bb_Mo_kill 19 = .ok (.ifCond .ne 5, 3) := by decide +kernel
theorem dd_Mo_kill_22 : decode bb_Mo_kill 22 = .ok (.iconst 0, 1) := by decide +kernel
theorem dd_Mo_kill_23 : decode bb_Mo_kill 23 = .ok (.ireturn, 1) := by decide +kernel
theorem dd_Mo_kill_24 : decode bb_Mo_kill 24 = .ok (.aload_n 0, 1) := by decide +kernel
theorem dd_Mo_kill_25 : decode bb_Mo_kill 25 = .ok (.getfield 66, 3) := by decide +kernel
theorem dd_Mo_kill_28 : decode bb_Mo_kill 28 = .ok (.iload_n 1, 1) := by decide +kernel
theorem dd_Mo_kill_29 : decode bb_Mo_kill 29 = .ok (.iconst 0, 1) := by decide +kernel
theorem dd_Mo_kill_30 : decode bb_Mo_kill 30 = .ok (.iastore, 1) := by decide +kernel
theorem dd_Mo_kill_31 : decode bb_Mo_kill 31 = .ok (.iconst 1, 1) := by decide +kernel
theorem dd_Mo_kill_32 : decode bb_Mo_kill 32 = .ok (.ireturn, 1) := by decide +kernel
theorem dd_Mo_clear_0 : decode bb_Mo_clear 0 = .ok (.aload_n 0, 1) := by decide +kernel
theorem dd_Mo_clear_1 : decode bb_Mo_clear 1 = .ok (.iconst 0, 1) := by decide +kernel
theorem dd_Mo_clear_2 : decode bb_Mo_clear 2 = .ok (.putfield 93, 3) := by decide +kernel
theorem dd_Mo_clear_5 : decode bb_Mo_clear 5 = .ok (.iload_n 1, 1) := by decide +kernel
theorem dd_Mo_clear_6 : decode bb_Mo_clear 6 = .ok (.invokestatic 142, 3) := by decide +kernel
theorem dd_Mo_clear_9 : decode bb_Mo_clear 9 = .ok (.ifCond .ne 9, 3) := by decide +kernel
theorem dd_Mo_clear_12 : decode bb_Mo_clear 12 = .ok (.aload_n 0, 1) := by decide +kernel
theorem dd_Mo_clear_13 : decode bb_Mo_clear 13 = .ok (.iconst 1, 1) := by decide +kernel
theorem dd_Mo_clear_14 : decode bb_Mo_clear 14 = .ok (.invokevirtual 134, 3) := by decide +kernel
theorem dd_Mo_clear_17 : decode bb_Mo_clear 17 = .ok (.ireturn, 1) := by decide +kernel
theorem dd_Mo_clear_18 : decode bb_Mo_clear 18 = .ok (.aload_n 0, 1) := by decide +kernel
theorem dd_Mo_clear_19 : decode bb_Mo_clear 19 = .ok (.getfield 47, 3) := by decide +kernel
theorem dd_Mo_clear_22 : decode bb_Mo_clear 22 = .ok (.iload_n 1, 1) := by decide +kernel
theorem dd_Mo_clear_23 : decode bb_Mo_clear 23 = .ok (.iconst 4, 1) := by decide +kernel
theorem dd_Mo_clear_24 : decode bb_Mo_clear 24 = .ok (.idiv, 1) := by decide +kernel
theorem dd_Mo_clear_25 : decode bb_Mo_clear 25 = .ok (.baload, 1) := by decide +kernel
theorem dd_Mo_clear_26 : decode bb_Mo_clear 26 = .ok (.ifCond .eq 9, 3) := by decide +kernel
theorem dd_Mo_clear_29 : decode bb_Mo_clear 29 = .ok (.aload_n 0, 1) := by decide +kernel
theorem dd_Mo_clear_30 : decode bb_Mo_clear 30 = .ok (.iconst 2, 1) := by decide +kernel
theorem dd_Mo_clear_31 : decode bb_Mo_clear 31 = .ok (.invokevirtual 134, 3) := by decide +kernel
theorem dd_Mo_clear_34 : decode bb_Mo_clear 34 = .ok (.ireturn, 1) := by decide +kernel
theorem dd_Mo_clear_35 : decode bb_Mo_clear 35 = .ok (.aload_n 0, 1) := by decide +kernel
theorem dd_Mo_clear_36 : decode bb_Mo_clear 36 = .ok (.getfield 13, 3) := by decide +kernel
theorem dd_Mo_clear_39 : decode bb_Mo_clear 39 = .ok (.iload_n 1, 1) := by decide +kernel
theorem dd_Mo_clear_40 : decode bb_Mo_clear 40 = .ok (.iaload, 1) := by decide +kernel
theorem dd_Mo_clear_41 : decode bb_Mo_clear 41 = .ok (.ifCond .ne 5, 3) := by decide +kernel
theorem dd_Mo_clear_44 : decode bb_Mo_clear 44 = .ok (.iconst 0, 1) := by decide +kernel
theorem dd_Mo_clear_45 : decode bb_Mo_clear 45 = .ok (.ireturn, 1) := by decide +kernel
theorem dd_Mo_clear_46 : decode bb_Mo_clear 46 = .ok (.aload_n 0, 1) := by decide +kernel
theorem dd_Mo_clear_47 : decode bb_Mo_clear 47 = .ok (.iload_n 1, 1) := by decide +kernel
theorem dd_Mo_clear_48 : decode bb_Mo_clear 48 = .ok (.invokevirtual 145, 3) := by decide +kernel
theorem dd_Mo_clear_51 : decode bb_Mo_clear 51 = .ok (.istore_n 2, 1) := by decide +kernel
theorem dd_Mo_clear_52 : decode bb_Mo_clear 52 = .ok (.iload_n 2, 1) := by decide +kernel
theorem dd_Mo_clear_53 : decode bb_Mo_clear 53 = .ok (.iconst 1, 1) := by decide +kernel
theorem dd_Mo_clear_54 : decode bb_Mo_clear 54 = .ok (.if_icmp .eq 7, 3) := by decide +kernel
theorem dd_Mo_clear_57 : decode bb_Mo_clear 57 = .ok (.iload_n 2, 1) := by decide +kernel
theorem dd_Mo_clear_58 : decode bb_Mo_clear 58 = .ok (.ifCond .ne 11, 3) := by decide +kernel
theorem dd_Mo_clear_61 : decode bb_Mo_clear 61 = .ok (.aload_n 0, 1) := by decide +kernel
theorem dd_Mo_clear_62 : decode bb_Mo_clear 62 = .ok (.iconst 2, 1) := by decide +kernel
theorem dd_Mo_clear_63 : decode bb_Mo_clear 63 = .ok (.invokevirtual 134, 3) := by decide +kernel
theorem dd_Mo_clear_66 : decode bb_Mo_clear 66 = .ok (.goto 13, 3) := by decide +kernel
theorem dd_Mo_clear_69 : decode bb_Mo_clear 69 = .ok (.iload_n 2, 1) := by decide +kernel
theorem dd_Mo_clear_70 : decode bb_Mo_clear 70 = .ok (.iconst 2, 1) := by decide +kernel
theorem dd_Mo_clear_71 : decode bb_Mo_clear 71 = .ok (.if_icmp .ne 7, 3) := by decide +kernel
theorem dd_Mo_clear_74 : decode bb_Mo_clear 74 = .ok (.iconst 1, 1) := by decide +kernel
theorem dd_Mo_clear_75 : decode bb_Mo_clear 75 = .ok (.goto 4, 3) := by decide +kernel
theorem dd_Mo_clear_78 : decode bb_Mo_clear 78 = .ok (.iconst 2, 1) := by decide +kernel
theorem dd_Mo_clear_79 : decode bb_Mo_clear 79 = .ok (.ireturn, 1) := by decide +kernel
theorem dd_Mo_tick_0 : decode bb_Mo_tick 0 = .ok (.aload_n 0, 1) := by decide +kernel
theorem dd_Mo_tick_1 : decode bb_Mo_tick 1 = .ok (.iconst 0, 1) := by decide +kernel
theorem dd_Mo_tick_2 : decode bb_Mo_tick 2 = .ok (.putfield 93, 3) := by decide +kernel
theorem dd_Mo_tick_5 : decode bb_Mo_tick 5 = .ok (.iload_n 1, 1) := by decide +kernel
theorem dd_Mo_tick_6 : decode bb_Mo_tick 6 = .ok (.iconst 0, 1) := by decide +kernel
theorem dd_Mo_tick_7 : decode bb_Mo_tick 7 = .ok (.bipush 50, 2) := by decide +kernel
theorem dd_Mo_tick_9 : decode bb_Mo_tick 9 = .ok (.invokestatic 127, 3) := by decide +kernel
theorem dd_Mo_tick_12 : decode bb_Mo_tick 12 = .ok (.ifCond .ne 5, 3) := by decide +kernel
theorem dd_Mo_tick_15 : decode bb_Mo_tick 15 = .ok (.iconst (-1), 1) := by decide +kernel
theorem dd_Mo_tick_16 : decode bb_Mo_tick 16 = .ok (.ireturn, 1) := by decide +kernel
theorem dd_Mo_tick_17 : decode bb_Mo_tick 17 = .ok (.aload_n 0, 1) := by decide +kernel
theorem dd_Mo_tick_18 : decode bb_Mo_tick 18 = .ok (.dup, 1) := by decide +kernel
theorem dd_Mo_tick_19 : decode bb_Mo_tick 19 = .ok (.getfield 110, 3) := by decide +kernel
theorem dd_Mo_tick_22 : decode bb_Mo_tick 22 = .ok (.iload_n 1, 1) := by decide +kernel
theorem dd_Mo_tick_23 : decode bb_Mo_tick 23 = .ok (.iadd, 1) := by decide +kernel
theorem dd_Mo_tick_24 : decode bb_Mo_tick 24 = .ok (.putfield 110, 3) := by decide +kernel
theorem dd_Mo_tick_27 : decode bb_Mo_tick 27 = .ok (.aload_n 0, 1) := by decide +kernel
theorem dd_Mo_tick_28 : decode bb_Mo_tick 28 = .ok (.getfield 110, 3) := by decide +kernel
theorem dd_Mo_tick_31 : decode bb_Mo_tick 31 = .ok (.ireturn, 1) := by decide +kernel
theorem dd_Mo_crash_0 : decode bb_Mo_crash 0 = .ok (.aload_n 0, 1) := by decide +kernel
theorem dd_Mo_crash_1 : decode bb_Mo_crash 1 = .ok (.iconst 0, 1) := by decide +kernel
theorem dd_Mo_crash_2 : decode bb_Mo_crash 2 = .ok (.putfield 93, 3) := by decide +kernel
theorem dd_Mo_crash_5 : decode bb_Mo_crash 5 = .ok (.iload_n 1, 1) := by decide +kernel
theorem dd_Mo_crash_6 : decode bb_Mo_crash 6 = .ok (.iconst 0, 1) := by decide +kernel
theorem dd_Mo_crash_7 : decode bb_Mo_crash 7 = .ok (.iconst 2, 1) := by decide +kernel
theorem dd_Mo_crash_8 : decode bb_Mo_crash 8 = .ok (.invokestatic 127, 3) := by decide +kernel
theorem dd_Mo_crash_11 : decode bb_Mo_crash 11 = .ok (.ifCond .eq 12, 3) := by decide +kernel
theorem dd_Mo_crash_14 : decode bb_Mo_crash 14 = .ok (.aload_n 0, 1) := by decide +kernel
theorem dd_Mo_crash_15 : decode bb_Mo_crash 15 = .ok (.getfield 47, 3) := by decide +kernel
theorem dd_Mo_crash_18 : decode bb_Mo_crash 18 = .ok (.iload_n 1, 1) := by decide +kernel
theorem dd_Mo_crash_19 : decode bb_Mo_crash 19 = .ok (.baload, 1) := by decide +kernel
theorem dd_Mo_crash_20 : decode bb_Mo_crash 20 = .ok (.ifCond .eq 5, 3) := by decide +kernel
theorem dd_Mo_crash_23 : decode bb_Mo_crash 23 = .ok (.iconst 0, 1) := by decide +kernel
theorem dd_Mo_crash_24 : decode bb_Mo_crash 24 = .ok (.ireturn, 1) := by decide +kernel
theorem dd_Mo_crash_25 : decode bb_Mo_crash 25 = .ok (.aload_n 0, 1) := by decide +kernel
theorem dd_Mo_crash_26 : decode bb_Mo_crash 26 = .ok (.getfield 47, 3) := by decide +kernel
theorem dd_Mo_crash_29 : decode bb_Mo_crash 29 = .ok (.iload_n 1, 1) := by decide +kernel
theorem dd_Mo_crash_30 : decode bb_Mo_crash 30 = .ok (.iconst 1, 1) := by decide +kernel
theorem dd_Mo_crash_31 : decode bb_Mo_crash 31 = .ok (.bastore, 1) := by decide +kernel
theorem dd_Mo_crash_32 : decode bb_Mo_crash 32 = .ok (.iconst 1, 1) := by decide +kernel
theorem dd_Mo_crash_33 : decode bb_Mo_crash 33 = .ok (.ireturn, 1) := by decide +kernel
theorem dd_Mo_recover_0 : decode bb_Mo_recover 0 = .ok (.aload_n 0, 1) := by decide +kernel
theorem dd_Mo_recover_1 : decode bb_Mo_recover 1 = .ok (.iconst 0, 1) := by decide +kernel
theorem dd_Mo_recover_2 : decode bb_Mo_recover 2 = .ok (.putfield 93, 3) := by decide +kernel
theorem dd_Mo_recover_5 : decode bb_Mo_recover 5 = .ok (.iload_n 1, 1) := by decide +kernel
theorem dd_Mo_recover_6 : decode bb_Mo_recover 6 = .ok (.iconst 0, 1) := by decide +kernel
theorem dd_Mo_recover_7 : decode bb_Mo_recover 7 = .ok (.iconst 2, 1) := by decide +kernel
theorem dd_Mo_recover_8 : decode bb_Mo_recover 8 = .ok (.invokestatic 127, 3) := by decide +kernel
theorem dd_Mo_recover_11 : decode bb_Mo_recover 11 = .ok (.ifCond .eq 12, 3) := by decide +kernel
theorem dd_Mo_recover_14 : decode bb_Mo_recover 14 = .ok (.aload_n 0, 1) := by decide +kernel
theorem dd_Mo_recover_15 : decode bb_Mo_recover 15 = .ok (.getfield 47, 3) := by decide +kernel
theorem dd_Mo_recover_18 : decode bb_Mo_recover 18 = .ok (.iload_n 1, 1) := by decide +kernel
theorem dd_Mo_recover_19 : decode bb_Mo_recover 19 = .ok (.baload, 1) := by decide +kernel
theorem dd_Mo_recover_20 : decode bb_Mo_recover 20 = .ok (.ifCond .ne 5, 3) := by decide +kernel
theorem dd_Mo_recover_23 : decode bb_Mo_recover 23 = .ok (.iconst 0, 1) := by decide +kernel
theorem dd_Mo_recover_24 : decode bb_Mo_recover 24 = .ok (.ireturn, 1) := by decide +kernel
theorem dd_Mo_recover_25 : decode bb_Mo_recover 25 = .ok (.aload_n 0, 1) := by decide +kernel
theorem dd_Mo_recover_26 : decode bb_Mo_recover 26 = .ok (.getfield 47, 3) := by decide +kernel
theorem dd_Mo_recover_29 : decode bb_Mo_recover 29 = .ok (.iload_n 1, 1) := by decide +kernel
theorem dd_Mo_recover_30 : decode bb_Mo_recover 30 = .ok (.iconst 0, 1) := by decide +kernel
theorem dd_Mo_recover_31 : decode bb_Mo_recover 31 = .ok (.bastore, 1) := by decide +kernel
theorem dd_Mo_recover_32 : decode bb_Mo_recover 32 = .ok (.aload_n 0, 1) := by decide +kernel
theorem dd_Mo_recover_33 : decode bb_Mo_recover 33 = .ok (.getfield 60, 3) := by decide +kernel
theorem dd_Mo_recover_36 : decode bb_Mo_recover 36 = .ok (.iload_n 1, 1) := by decide +kernel
theorem dd_Mo_recover_37 : decode bb_Mo_recover 37 = .ok (.iconst 0, 1) := by decide +kernel
theorem dd_Mo_recover_38 : decode bb_Mo_recover 38 = .ok (.iastore, 1) := by decide +kernel
theorem dd_Mo_recover_39 : decode bb_Mo_recover 39 = .ok (.iconst 1, 1) := by decide +kernel
theorem dd_Mo_recover_40 : decode bb_Mo_recover 40 = .ok (.ireturn, 1) := by decide +kernel
theorem dd_Mo_fail_0 : decode bb_Mo_fail 0 = .ok (.aload_n 0, 1) := by decide +kernel
theorem dd_Mo_fail_1 : decode bb_Mo_fail 1 = .ok (.iconst 0, 1) := by decide +kernel
theorem dd_Mo_fail_2 : decode bb_Mo_fail 2 = .ok (.putfield 93, 3) := by decide +kernel
theorem dd_Mo_fail_5 : decode bb_Mo_fail 5 = .ok (.iload_n 1, 1) := by decide +kernel
theorem dd_Mo_fail_6 : decode bb_Mo_fail 6 = .ok (.iconst 0, 1) := by decide +kernel
theorem dd_Mo_fail_7 : decode bb_Mo_fail 7 = .ok (.iconst 2, 1) := by decide +kernel
theorem dd_Mo_fail_8 : decode bb_Mo_fail 8 = .ok (.invokestatic 127, 3) := by decide +kernel
theorem dd_Mo_fail_11 : decode bb_Mo_fail 11 = .ok (.ifCond .eq 13, 3) := by decide +kernel
theorem dd_Mo_fail_14 : decode bb_Mo_fail 14 = .ok (.iload_n 2, 1) := by decide +kernel
theorem dd_Mo_fail_15 : decode bb_Mo_fail 15 = .ok (.iconst 0, 1) := by decide +kernel
theorem dd_Mo_fail_16 : decode bb_Mo_fail 16 = .ok (.bipush 20, 2) := by decide +kernel
theorem dd_Mo_fail_18 : decode bb_Mo_fail 18 = .ok (.invokestatic 127, 3) := by decide +kernel
theorem dd_Mo_fail_21 : decode bb_Mo_fail 21 = .ok (.ifCond .ne 5, 3) := by decide +kernel
theorem dd_Mo_fail_24 : decode bb_Mo_fail 24 = .ok (.iconst 0, 1) := by decide +kernel
theorem dd_Mo_fail_25 : decode bb_Mo_fail 25 = .ok (.ireturn, 1) := by decide +kernel
theorem dd_Mo_fail_26 : decode bb_Mo_fail 26 = .ok (.aload_n 0, 1) := by decide +kernel
theorem dd_Mo_fail_27 : decode bb_Mo_fail 27 = .ok (.getfield 60, 3) := by decide +kernel
theorem dd_Mo_fail_30 : decode bb_Mo_fail 30 = .ok (.iload_n 1, 1) := by decide +kernel
theorem dd_Mo_fail_31 : decode bb_Mo_fail 31 = .ok (.iload_n 2, 1) := by decide +kernel
theorem dd_Mo_fail_32 : decode bb_Mo_fail 32 = .ok (.iastore, 1) := by decide +kernel
theorem dd_Mo_fail_33 : decode bb_Mo_fail 33 = .ok (.aload_n 0, 1) := by decide +kernel
theorem dd_Mo_fail_34 : decode bb_Mo_fail 34 = .ok (.getfield 63, 3) := by decide +kernel
theorem dd_Mo_fail_37 : decode bb_Mo_fail 37 = .ok (.iload_n 1, 1) := by decide +kernel
theorem dd_Mo_fail_38 : decode bb_Mo_fail 38 = .ok (.iload_n 3, 1) := by decide +kernel
theorem dd_Mo_fail_39 : decode bb_Mo_fail 39 = .ok (.bastore, 1) := by decide +kernel
theorem dd_Mo_fail_40 : decode bb_Mo_fail 40 = .ok (.iconst 1, 1) := by decide +kernel
theorem dd_Mo_fail_41 : decode bb_Mo_fail 41 = .ok (.ireturn, 1) := by decide +kernel
theorem dd_Mo_failOracle_0 : decode bb_Mo_failOracle 0 = .ok (.aload_n 0, 1) := by decide +kernel
theorem dd_Mo_failOracle_1 : decode bb_Mo_failOracle 1 = .ok (.iconst 0, 1) := by decide +kernel
theorem dd_Mo_failOracle_2 : decode bb_Mo_failOracle 2 = .ok (.putfield 93, 3) := by decide +kernel
theorem dd_Mo_failOracle_5 : decode bb_Mo_failOracle 5 = .ok (.aload_n 0, 1) := by decide +kernel
theorem dd_Mo_failOracle_6 : decode bb_Mo_failOracle 6 = .ok (.aload_n 0, 1) := by decide +kernel
theorem dd_Mo_failOracle_7 : decode bb_Mo_failOracle 7 = .ok (.getfield 96, 3) := by decide +kernel
theorem dd_Mo_failOracle_10 : decode bb_Mo_failOracle 10 = .ok (.iconst 1, 1) := by decide +kernel
theorem dd_Mo_failOracle_11 : decode bb_Mo_failOracle 11 = .ok (.iadd, 1) := by decide +kernel
theorem dd_Mo_failOracle_12 : decode bb_Mo_failOracle 12 = .ok (.putfield 7, 3) := by decide +kernel
theorem dd_Mo_failOracle_15 : decode bb_Mo_failOracle 15 = .ok (.aload_n 0, 1) := by decide +kernel
theorem dd_Mo_failOracle_16 : decode bb_Mo_failOracle 16 = .ok (.getfield 7, 3) := by decide +kernel
theorem dd_Mo_failOracle_19 : decode bb_Mo_failOracle 19 = .ok (.ireturn, 1) := by decide +kernel
theorem dd_Mo_sweep_0 : decode bb_Mo_sweep 0 = .ok (.aload_n 0, 1) := by decide +kernel
theorem dd_Mo_sweep_1 : decode bb_Mo_sweep 1 = .ok (.iconst 0, 1) := by decide +kernel
theorem dd_Mo_sweep_2 : decode bb_Mo_sweep 2 = .ok (.putfield 93, 3) := by decide +kernel
theorem dd_Mo_sweep_5 : decode bb_Mo_sweep 5 = .ok (.iload_n 1, 1) := by decide +kernel
theorem dd_Mo_sweep_6 : decode bb_Mo_sweep 6 = .ok (.iconst 1, 1) := by decide +kernel
theorem dd_Mo_sweep_7 : decode bb_Mo_sweep 7 = .ok (.if_icmp .lt 15, 3) := by decide +kernel
theorem dd_Mo_sweep_10 : decode bb_Mo_sweep 10 = .ok (.iload_n 1, 1) := by decide +kernel
theorem dd_Mo_sweep_11 : decode bb_Mo_sweep 11 = .ok (.aload_n 0, 1) := by decide +kernel
theorem dd_Mo_sweep_12 : decode bb_Mo_sweep 12 = .ok (.getfield 7, 3) := by decide +kernel
theorem dd_Mo_sweep_15 : decode bb_Mo_sweep 15 = .ok (.if_icmp .gt 7, 3) := by decide +kernel
theorem dd_Mo_sweep_18 : decode bb_Mo_sweep 18 = .ok (.iconst 1, 1) := by decide +kernel
theorem dd_Mo_sweep_19 : decode bb_Mo_sweep 19 = .ok (.goto 4, 3) := by decide +kernel
theorem dd_Mo_sweep_22 : decode bb_Mo_sweep 22 = .ok (.iconst 0, 1) := by decide +kernel
theorem dd_Mo_sweep_23 : decode bb_Mo_sweep 23 = .ok (.istore_n 2, 1) := by decide +kernel
theorem dd_Mo_sweep_24 : decode bb_Mo_sweep 24 = .ok (.iconst 0, 1) := by decide +kernel
theorem dd_Mo_sweep_25 : decode bb_Mo_sweep 25 = .ok (.istore_n 3, 1) := by decide +kernel
theorem dd_Mo_sweep_26 : decode bb_Mo_sweep 26 = .ok (.iload_n 3, 1) := by decide +kernel
theorem dd_Mo_sweep_27 : decode bb_Mo_sweep 27 = .ok (.iconst 3, 1) := by decide +kernel
theorem dd_Mo_sweep_28 : decode bb_Mo_sweep 28 = .ok (.if_icmp .ge 38, 3) := by decide +kernel
theorem dd_Mo_sweep_31 : decode bb_Mo_sweep 31 = .ok (.iload_n 2, 1) := by decide +kernel
theorem dd_Mo_sweep_32 : decode bb_Mo_sweep 32 = .ok (.ifCond .eq 26, 3) := by decide +kernel
theorem dd_Mo_sweep_35 : decode bb_Mo_sweep 35 = .ok (.aload_n 0, 1) := by decide +kernel
theorem dd_Mo_sweep_36 : decode bb_Mo_sweep 36 = .ok (.getfield 47, 3) := by decide +kernel
theorem dd_Mo_sweep_39 : decode bb_Mo_sweep 39 = .ok (.iload_n 3, 1) := by decide +kernel
theorem dd_Mo_sweep_40 : decode bb_Mo_sweep 40 = .ok (.baload, 1) := by decide +kernel
theorem dd_Mo_sweep_41 : decode bb_Mo_sweep 41 = .ok (.ifCond .ne 17, 3) := by decide +kernel
theorem dd_Mo_sweep_44 : decode bb_Mo_sweep 44 = .ok (.iload_n 1, 1) := by decide +kernel
theorem dd_Mo_sweep_45 : decode bb_Mo_sweep 45 = .ok (.aload_n 0, 1) := by decide +kernel
theorem dd_Mo_sweep_46 : decode bb_Mo_sweep 46 = .ok (.getfield 51, 3) := by decide +kernel
theorem dd_Mo_sweep_49 : decode bb_Mo_sweep 49 = .ok (.iload_n 3, 1) := by decide +kernel
theorem dd_Mo_sweep_50 : decode bb_Mo_sweep 50 = .ok (.iaload, 1) := by decide +kernel
theorem dd_Mo_sweep_51 : decode bb_Mo_sweep 51 = .ok (.if_icmp .le 7, 3) := by decide +kernel
theorem dd_Mo_sweep_54 : decode bb_Mo_sweep 54 = .ok (.iconst 1, 1) := by decide +kernel
theorem dd_Mo_sweep_55 : decode bb_Mo_sweep 55 = .ok (.goto 4, 3) := by decide +kernel
theorem dd_Mo_sweep_58 : decode bb_Mo_sweep 58 = .ok (.iconst 0, 1) := by decide +kernel
theorem dd_Mo_sweep_59 : decode bb_Mo_sweep 59 = .ok (.istore_n 2, 1) := by decide +kernel
theorem dd_Mo_sweep_60 : decode bb_Mo_sweep 60 = .ok (.iinc 3 1, 3) := by decide +kernel
theorem dd_Mo_sweep_63 : decode bb_Mo_sweep 63 = .ok (.goto (-37), 3) := by decide +kernel
theorem dd_Mo_sweep_66 : decode bb_Mo_sweep 66 = .ok (.iconst 0, 1) := by decide +kernel
theorem dd_Mo_sweep_67 : decode bb_Mo_sweep 67 = .ok (.istore_n 3, 1) := by decide +kernel
theorem dd_Mo_sweep_68 : decode bb_Mo_sweep 68 = .ok (.iload_n 3, 1) := by decide +kernel
theorem dd_Mo_sweep_69 : decode bb_Mo_sweep 69 = .ok (.bipush 12, 2) := by decide +kernel
theorem dd_Mo_sweep_71 : decode bb_Mo_sweep 71 = .ok (.if_icmp .ge 38, 3) := by decide +kernel
theorem dd_Mo_sweep_74 : decode bb_Mo_sweep 74 = .ok (.iload_n 2, 1) := by decide +kernel
theorem dd_Mo_sweep_75 : decode bb_Mo_sweep 75 = .ok (.ifCond .eq 26, 3) := by decide +kernel
theorem dd_Mo_sweep_78 : decode bb_Mo_sweep 78 = .ok (.aload_n 0, 1) := by decide +kernel
theorem dd_Mo_sweep_79 : decode bb_Mo_sweep 79 = .ok (.getfield 13, 3) := by decide +kernel
theorem dd_Mo_sweep_82 : decode bb_Mo_sweep 82 = .ok (.iload_n 3, 1) := by decide +kernel
theorem dd_Mo_sweep_83 : decode bb_Mo_sweep 83 = .ok (.iaload, 1) := by decide +kernel
theorem dd_Mo_sweep_84 : decode bb_Mo_sweep 84 = .ok (.ifCond .eq 13, 3) := by decide +kernel
theorem dd_Mo_sweep_87 : decode bb_Mo_sweep 87 = .ok (.aload_n 0, 1) := by decide +kernel
theorem dd_Mo_sweep_88 : decode bb_Mo_sweep 88 = .ok (.getfield 13, 3) := by decide +kernel
theorem dd_Mo_sweep_91 : decode bb_Mo_sweep 91 = .ok (.iload_n 3, 1) := by decide +kernel
theorem dd_Mo_sweep_92 : decode bb_Mo_sweep 92 = .ok (.iaload, 1) := by decide +kernel
theorem dd_Mo_sweep_93 : decode bb_Mo_sweep 93 = .ok (.iload_n 1, 1) := by decide +kernel
theorem dd_Mo_sweep_94 : decode bb_Mo_sweep 94 = .ok (.if_icmp .lt 7, 3) := by decide +kernel
theorem dd_Mo_sweep_97 : decode bb_Mo_sweep 97 = .ok (.iconst 1, 1) := by decide +kernel
theorem dd_Mo_sweep_98 : decode bb_Mo_sweep 98 = .ok (.goto 4, 3) := by decide +kernel
theorem dd_Mo_sweep_101 : decode bb_Mo_sweep 101 = .ok (.iconst 0, 1) := by decide +kernel
theorem dd_Mo_sweep_102 : decode bb_Mo_sweep 102 = .ok (.istore_n 2, 1) := by decide +kernel
theorem dd_Mo_sweep_103 : decode bb_Mo_sweep 103 = .ok (.iinc 3 1, 3) := by decide +kernel
theorem dd_Mo_sweep_106 : decode bb_Mo_sweep 106 = .ok (.goto (-38), 3) := by decide +kernel
theorem dd_Mo_sweep_109 : decode bb_Mo_sweep 109 = .ok (.iconst 0, 1) := by decide +kernel
theorem dd_Mo_sweep_110 : decode bb_Mo_sweep 110 = .ok (.istore_n 3, 1) := by decide +kernel
theorem dd_Mo_sweep_111 : decode bb_Mo_sweep 111 = .ok (.iload_n 3, 1) := by decide +kernel
theorem dd_Mo_sweep_112 : decode bb_Mo_sweep 112 = .ok (.iconst 4, 1) := by decide +kernel
theorem dd_Mo_sweep_113 : decode bb_Mo_sweep 113 = .ok (.if_icmp .ge 39, 3) := by decide +kernel
theorem dd_Mo_sweep_116 : decode bb_Mo_sweep 116 = .ok (.iload_n 2, 1) := by decide +kernel
theorem dd_Mo_sweep_117 : decode bb_Mo_sweep 117 = .ok (.ifCond .eq 27, 3) := by decide +kernel
theorem dd_Mo_sweep_120 : decode bb_Mo_sweep 120 = .ok (.aload_n 0, 1) := by decide +kernel
theorem dd_Mo_sweep_121 : decode bb_Mo_sweep 121 = .ok (.getfield 66, 3) := by decide +kernel
theorem dd_Mo_sweep_124 : decode bb_Mo_sweep 124 = .ok (.iload_n 3, 1) := by decide +kernel
theorem dd_Mo_sweep_125 : decode bb_Mo_sweep 125 = .ok (.iaload, 1) := by decide +kernel
theorem dd_Mo_sweep_126 : decode bb_Mo_sweep 126 = .ok (.iconst 2, 1) := by decide +kernel
theorem dd_Mo_sweep_127 : decode bb_Mo_sweep 127 = .ok (.if_icmp .ne 13, 3) := by decide +kernel
theorem dd_Mo_sweep_130 : decode bb_Mo_sweep 130 = .ok (.aload_n 0, 1) := by decide +kernel
theorem dd_Mo_sweep_131 : decode bb_Mo_sweep 131 = .ok (.getfield 69, 3) := by decide +kernel
theorem dd_Mo_sweep_134 : decode bb_Mo_sweep 134 = .ok (.iload_n 3, 1) := by decide +kernel
theorem dd_Mo_sweep_135 : decode bb_Mo_sweep 135 = .ok (.iaload, 1) := by decide +kernel
theorem dd_Mo_sweep_136 : decode bb_Mo_sweep 136 = .ok (.iload_n 1, 1) := by decide +kernel
theorem dd_Mo_sweep_137 : decode bb_Mo_sweep 137 = .ok (.if_icmp .lt 7, 3) := by decide +kernel
theorem dd_Mo_sweep_140 : decode bb_Mo_sweep 140 = .ok (.iconst 1, 1) := by decide +kernel
theorem dd_Mo_sweep_141 : decode bb_Mo_sweep 141 = .ok (.goto 4, 3) := by decide +kernel
theorem dd_Mo_sweep_144 : decode bb_Mo_sweep 144 = .ok (.iconst 0, 1) := by decide +kernel
theorem dd_Mo_sweep_145 : decode bb_Mo_sweep 145 = .ok (.istore_n 2, 1) := by decide +kernel
theorem dd_Mo_sweep_146 : decode bb_Mo_sweep 146 = .ok (.iinc 3 1, 3) := by decide +kernel
theorem dd_Mo_sweep_149 : decode bb_Mo_sweep 149 = .ok (.goto (-38), 3) := by decide +kernel
theorem dd_Mo_sweep_152 : decode bb_Mo_sweep 152 = .ok (.iload_n 2, 1) := by decide +kernel
theorem dd_Mo_sweep_153 : decode bb_Mo_sweep 153 = .ok (.ifCond .ne 5, 3) := by decide +kernel
theorem dd_Mo_sweep_156 : decode bb_Mo_sweep 156 = .ok (.iconst (-1), 1) := by decide +kernel
theorem dd_Mo_sweep_157 : decode bb_Mo_sweep 157 = .ok (.ireturn, 1) := by decide +kernel
theorem dd_Mo_sweep_158 : decode bb_Mo_sweep 158 = .ok (.iconst 0, 1) := by decide +kernel
theorem dd_Mo_sweep_159 : decode bb_Mo_sweep 159 = .ok (.istore_n 3, 1) := by decide +kernel
theorem dd_Mo_sweep_160 : decode bb_Mo_sweep 160 = .ok (.iconst 1, 1) := by decide +kernel
theorem dd_Mo_sweep_161 : decode bb_Mo_sweep 161 = .ok (.istore 4, 2) := by decide +kernel
theorem dd_Mo_sweep_163 : decode bb_Mo_sweep 163 = .ok (.iconst 0, 1) := by decide +kernel
theorem dd_Mo_sweep_164 : decode bb_Mo_sweep 164 = .ok (.istore 5, 2) := by decide +kernel
theorem dd_Mo_sweep_166 : decode bb_Mo_sweep 166 = .ok (.iload 5, 2) := by decide +kernel
theorem dd_Mo_sweep_168 : decode bb_Mo_sweep 168 = .ok (.iconst 3, 1) := by decide +kernel
theorem dd_Mo_sweep_169 : decode bb_Mo_sweep 169 = .ok (.if_icmp .ge 54, 3) := by decide +kernel
theorem dd_Mo_sweep_172 : decode bb_Mo_sweep 172 = .ok (.iload 4, 2) := by decide +kernel
theorem dd_Mo_sweep_174 : decode bb_Mo_sweep 174 = .ok (.ifCond .eq 49, 3) := by decide +kernel
theorem dd_Mo_sweep_177 : decode bb_Mo_sweep 177 = .ok (.aload_n 0, 1) := by decide +kernel
theorem dd_Mo_sweep_178 : decode bb_Mo_sweep 178 = .ok (.iload 5, 2) := by decide +kernel
theorem dd_Mo_sweep_180 : decode bb_Mo_sweep 180 = .ok (.invokevirtual 102, 3) := by decide +kernel
theorem dd_Mo_sweep_183 : decode bb_Mo_sweep 183 = .ok (.istore 6, 2) := by decide +kernel
theorem dd_Mo_sweep_185 : decode bb_Mo_sweep 185 = .ok (.iload 6, 2) := by decide +kernel
theorem dd_Mo_sweep_187 : decode bb_Mo_sweep 187 = .ok (.ifCond .eq 13, 3) := by decide +kernel
theorem dd_Mo_sweep_190 : decode bb_Mo_sweep 190 = .ok (.aload_n 0, 1) := by decide +kernel
theorem dd_Mo_sweep_191 : decode bb_Mo_sweep 191 = .ok (.iload 5, 2) := by decide +kernel
theorem dd_Mo_sweep_193 : decode bb_Mo_sweep 193 = .ok (.iload_n 1, 1) := by decide +kernel
theorem dd_Mo_sweep_194 : decode bb_Mo_sweep 194 = .ok (.invokevirtual 180, 3) := by decide +kernel
theorem dd_Mo_sweep_197 : decode bb_Mo_sweep 197 = .ok (.iinc 3 1, 3) := by decide +kernel
theorem dd_Mo_sweep_200 : decode bb_Mo_sweep 200 = .ok (.aload_n 0, 1) := by decide +kernel
theorem dd_Mo_sweep_201 : decode bb_Mo_sweep 201 = .ok (.getfield 47, 3) := by decide +kernel
theorem dd_Mo_sweep_204 : decode bb_Mo_sweep 204 = .ok (.iload 5, 2) := by decide +kernel
theorem dd_Mo_sweep_206 : decode bb_Mo_sweep 206 = .ok (.baload, 1) := by decide +kernel
theorem dd_Mo_sweep_207 : decode bb_Mo_sweep 207 = .ok (.ifCond .ne 7, 3) := by decide +kernel
theorem dd_Mo_sweep_210 : decode bb_Mo_sweep 210 = .ok (.iconst 1, 1) := by decide +kernel
theorem dd_Mo_sweep_211 : decode bb_Mo_sweep 211 = .ok (.goto 4, 3) := by decide +kernel
theorem dd_Mo_sweep_214 : decode bb_Mo_sweep 214 = .ok (.iconst 0, 1) := by decide +kernel
theorem dd_Mo_sweep_215 : decode bb_Mo_sweep 215 = .ok (.istore 4, 2) := by decide +kernel
theorem dd_Mo_sweep_217 : decode bb_Mo_sweep 217 = .ok (.iinc 5 1, 3) := by decide +kernel
theorem dd_Mo_sweep_220 : decode bb_Mo_sweep 220 = .ok (.goto (-54), 3) := by decide +kernel
theorem dd_Mo_sweep_223 : decode bb_Mo_sweep 223 = .ok (.iload_n 3, 1) := by decide +kernel
theorem dd_Mo_sweep_224 : decode bb_Mo_sweep 224 = .ok (.ireturn, 1) := by decide +kernel
theorem dd_Mo_sweepTablet_0 : decode bb_Mo_sweepTablet 0 = .ok (.aload_n 0, 1) := by decide +kernel
theorem dd_Mo_sweepTablet_1 : decode bb_Mo_sweepTablet 1 = .ok (.getfield 51, 3) := by decide +kernel
theorem dd_Mo_sweepTablet_4 : decode bb_Mo_sweepTablet 4 = .ok (.iload_n 1, 1) := by decide +kernel
theorem dd_Mo_sweepTablet_5 : decode bb_Mo_sweepTablet 5 = .ok (.iload_n 2, 1) := by decide +kernel
theorem dd_Mo_sweepTablet_6 : decode bb_Mo_sweepTablet 6 = .ok (.iastore, 1) := by decide +kernel
theorem dd_Mo_sweepTablet_7 : decode bb_Mo_sweepTablet 7 = .ok (.iconst 4, 1) := by decide +kernel
theorem dd_Mo_sweepTablet_8 : decode bb_Mo_sweepTablet 8 = .ok (.iload_n 1, 1) := by decide +kernel
theorem dd_Mo_sweepTablet_9 : decode bb_Mo_sweepTablet 9 = .ok (.imul, 1) := by decide +kernel
theorem dd_Mo_sweepTablet_10 : decode bb_Mo_sweepTablet 10 = .ok (.istore_n 3, 1) := by decide +kernel
theorem dd_Mo_sweepTablet_11 : decode bb_Mo_sweepTablet 11 = .ok (.iload_n 3, 1) := by decide +kernel
theorem dd_Mo_sweepTablet_12 : decode bb_Mo_sweepTablet 12 = .ok (.iconst 4, 1) := by decide +kernel
theorem dd_Mo_sweepTablet_13 : decode bb_Mo_sweepTablet 13 = .ok (.iload_n 1, 1) := by decide +kernel
theorem dd_Mo_sweepTablet_14 : decode bb_Mo_sweepTablet 14 = .ok (.imul, 1) := by decide +kernel
theorem dd_Mo_sweepTablet_15 : decode bb_Mo_sweepTablet 15 = .ok (.iconst 4, 1) := by decide +kernel
theorem dd_Mo_sweepTablet_16 : decode bb_Mo_sweepTablet 16 = .ok (.iadd, 1) := by decide +kernel
theorem dd_Mo_sweepTablet_17 : decode bb_Mo_sweepTablet 17 = .ok (.if_icmp .ge 96, 3) := by decide +kernel
theorem dd_Mo_sweepTablet_20 : decode bb_Mo_sweepTablet 20 = .ok (.aload_n 0, 1) := by decide +kernel
theorem dd_Mo_sweepTablet_21 : decode bb_Mo_sweepTablet 21 = .ok (.iload_n 3, 1) := by decide +kernel
theorem dd_Mo_sweepTablet_22 : decode bb_Mo_sweepTablet 22 = .ok (.iload_n 2, 1) := by decide +kernel
theorem dd_Mo_sweepTablet_23 : decode bb_Mo_sweepTablet 23 = .ok (.invokevirtual 148, 3) := by decide +kernel
theorem dd_Mo_sweepTablet_26 : decode bb_Mo_sweepTablet 26 = .ok (.istore 4, 2) := by decide +kernel
theorem dd_Mo_sweepTablet_28 : decode bb_Mo_sweepTablet 28 = .ok (.iload 4, 2) := by decide +kernel
theorem dd_Mo_sweepTablet_30 : decode bb_Mo_sweepTablet 30 = .ok (.ifCond .lt 18, 3) := by decide +kernel
theorem dd_Mo_sweepTablet_33 : decode bb_Mo_sweepTablet 33 = .ok (.aload_n 0, 1) := by decide +kernel
theorem dd_Mo_sweepTablet_34 : decode bb_Mo_sweepTablet 34 = .ok (.getfield 41, 3) := by decide +kernel
theorem dd_Mo_sweepTablet_37 : decode bb_Mo_sweepTablet 37 = .ok (.iload 4, 2) := by decide +kernel
theorem dd_Mo_sweepTablet_39 : decode bb_Mo_sweepTablet 39 = .ok (.iaload, 1) := by decide +kernel
theorem dd_Mo_sweepTablet_40 : decode bb_Mo_sweepTablet 40 = .ok (.iconst 2, 1) := by decide +kernel
theorem dd_Mo_sweepTablet_41 : decode bb_Mo_sweepTablet 41 = .ok (.if_icmp .ne 7, 3) := by decide +kernel
theorem dd_Mo_sweepTablet_44 : decode bb_Mo_sweepTablet 44 = .ok (.iconst (-1), 1) := by decide +kernel
theorem dd_Mo_sweepTablet_45 : decode bb_Mo_sweepTablet 45 = .ok (.goto 5, 3) := by decide +kernel
theorem dd_Mo_sweepTablet_48 : decode bb_Mo_sweepTablet 48 = .ok (.iload 4, 2) := by decide +kernel
theorem dd_Mo_sweepTablet_50 : decode bb_Mo_sweepTablet 50 = .ok (.istore 4, 2) := by decide +kernel
theorem dd_Mo_sweepTablet_52 : decode bb_Mo_sweepTablet 52 = .ok (.iconst 0, 1) := by decide +kernel
theorem dd_Mo_sweepTablet_53 : decode bb_Mo_sweepTablet 53 = .ok (.istore 5, 2) := by decide +kernel
theorem dd_Mo_sweepTablet_55 : decode bb_Mo_sweepTablet 55 = .ok (.iload 5, 2) := by decide +kernel
theorem dd_Mo_sweepTablet_57 : decode bb_Mo_sweepTablet 57 = .ok (.aload_n 0, 1) := by decide +kernel
theorem dd_Mo_sweepTablet_58 : decode bb_Mo_sweepTablet 58 = .ok (.getfield 99, 3) := by decide +kernel
theorem dd_Mo_sweepTablet_61 : decode bb_Mo_sweepTablet 61 = .ok (.if_icmp .ge 46, 3) := by decide +kernel
theorem dd_Mo_sweepTablet_64 : decode bb_Mo_sweepTablet 64 = .ok (.aload_n 0, 1) := by decide +kernel
theorem dd_Mo_sweepTablet_65 : decode bb_Mo_sweepTablet 65 = .ok (.getfield 32, 3) := by decide +kernel
theorem dd_Mo_sweepTablet_68 : decode bb_Mo_sweepTablet 68 = .ok (.iload 5, 2) := by decide +kernel
theorem dd_Mo_sweepTablet_70 : decode bb_Mo_sweepTablet 70 = .ok (.iaload, 1) := by decide +kernel
theorem dd_Mo_sweepTablet_71 : decode bb_Mo_sweepTablet 71 = .ok (.iload_n 3, 1) := by decide +kernel
theorem dd_Mo_sweepTablet_72 : decode bb_Mo_sweepTablet 72 = .ok (.if_icmp .ne 29, 3) := by decide +kernel
theorem dd_Mo_sweepTablet_75 : decode bb_Mo_sweepTablet 75 = .ok (.aload_n 0, 1) := by decide +kernel
theorem dd_Mo_sweepTablet_76 : decode bb_Mo_sweepTablet 76 = .ok (.getfield 35, 3) := by decide +kernel
theorem dd_Mo_sweepTablet_79 : decode bb_Mo_sweepTablet 79 = .ok (.iload 5, 2) := by decide +kernel
theorem dd_Mo_sweepTablet_81 : decode bb_Mo_sweepTablet 81 = .ok (.iaload, 1) := by decide +kernel
theorem dd_Mo_sweepTablet_82 : decode bb_Mo_sweepTablet 82 = .ok (.iload_n 2, 1) := by decide +kernel
theorem dd_Mo_sweepTablet_83 : decode bb_Mo_sweepTablet 83 = .ok (.if_icmp .ge 18, 3) := by decide +kernel
theorem dd_Mo_sweepTablet_86 : decode bb_Mo_sweepTablet 86 = .ok (.iload 5, 2) := by decide +kernel
theorem dd_Mo_sweepTablet_88 : decode bb_Mo_sweepTablet 88 = .ok (.iload 4, 2) := by decide +kernel
theorem dd_Mo_sweepTablet_90 : decode bb_Mo_sweepTablet 90 = .ok (.if_icmp .eq 11, 3) := by decide +kernel
theorem dd_Mo_sweepTablet_93 : decode bb_Mo_sweepTablet 93 = .ok (.aload_n 0, 1) := by decide +kernel
theorem dd_Mo_sweepTablet_94 : decode bb_Mo_sweepTablet 94 = .ok (.getfield 41, 3) := by decide +kernel
theorem dd_Mo_sweepTablet_97 : decode bb_Mo_sweepTablet 97 = .ok (.iload 5, 2) := by decide +kernel
theorem dd_Mo_sweepTablet_99 : decode bb_Mo_sweepTablet 99 = .ok (.iconst 0, 1) := by decide +kernel
theorem dd_Mo_sweepTablet_100 : decode bb_Mo_sweepTablet 100 = .ok (.iastore, 1) := by decide +kernel
theorem dd_Mo_sweepTablet_101 : decode bb_Mo_sweepTablet 101 = .ok (.iinc 5 1, 3) := by decide +kernel
theorem dd_Mo_sweepTablet_104 : decode bb_Mo_sweepTablet 104 = .ok (.goto (-49), 3) := by decide +kernel
theorem dd_Mo_sweepTablet_107 : decode bb_Mo_sweepTablet 107 = .ok (.iinc 3 1, 3) := by decide +kernel
theorem dd_Mo_sweepTablet_110 : decode bb_Mo_sweepTablet 110 = .ok (.goto (-99), 3) := by decide +kernel
theorem dd_Mo_sweepTablet_113 : decode bb_Mo_sweepTablet 113 = .ok (.return_, 1) := by decide +kernel
theorem dd_Mo_transaction_0 : decode bb_Mo_transaction 0 = .ok (.aload_n 0, 1) := by decide +kernel
theorem dd_Mo_transaction_1 : decode bb_Mo_transaction 1 = .ok (.iconst 0, 1) := by decide +kernel
theorem dd_Mo_transaction_2 : decode bb_Mo_transaction 2 = .ok (.putfield 93, 3) := by decide +kernel
theorem dd_Mo_transaction_5 : decode bb_Mo_transaction 5 = .ok (.aload_n 0, 1) := by decide +kernel
theorem dd_Mo_transaction_6 : decode bb_Mo_transaction 6 = .ok (.iload_n 1, 1) := by decide +kernel
theorem dd_Mo_transaction_7 : decode bb_Mo_transaction 7 = .ok (.invokevirtual 131, 3) := by decide +kernel
theorem dd_Mo_transaction_10 : decode bb_Mo_transaction 10 = .ok (.ifCond .eq 12, 3) := by decide +kernel
theorem dd_Mo_transaction_13 : decode bb_Mo_transaction 13 = .ok (.iload_n 2, 1) := by decide +kernel
theorem dd_Mo_transaction_14 : decode bb_Mo_transaction 14 = .ok (.iconst 0, 1) := by decide +kernel
theorem dd_Mo_transaction_15 : decode bb_Mo_transaction 15 = .ok (.iconst 5, 1) := by decide +kernel
theorem dd_Mo_transaction_16 : decode bb_Mo_transaction 16 = .ok (.invokestatic 127, 3) := by decide +kernel
theorem dd_Mo_transaction_19 : decode bb_Mo_transaction 19 = .ok (.ifCond .ne 5, 3) := by decide +kernel
theorem dd_Mo_transaction_22 : decode bb_Mo_transaction 22 = .ok (.iconst (-1), 1) := by decide +kernel
theorem dd_Mo_transaction_23 : decode bb_Mo_transaction 23 = .ok (.ireturn, 1) := by decide +kernel
theorem dd_Mo_transaction_24 : decode bb_Mo_transaction 24 = .ok (.aload_n 0, 1) := by decide +kernel
theorem dd_Mo_transaction_25 : decode bb_Mo_transaction 25 = .ok (.getfield 66, 3) := by decide +kernel
theorem dd_Mo_transaction_28 : decode bb_Mo_transaction 28 = .ok (.iload_n 1, 1) := by decide +kernel
theorem dd_Mo_transaction_29 : decode bb_Mo_transaction 29 = .ok (.iaload, 1) := by decide +kernel
theorem dd_Mo_transaction_30 : decode bb_Mo_transaction 30 = .ok (.ifCond .ne 5, 3) := by decide +kernel
theorem dd_Mo_transaction_33 : decode bb_Mo_transaction 33 = .ok (.iconst 0, 1) := by decide +kernel
theorem dd_Mo_transaction_34 : decode bb_Mo_transaction 34 = .ok (.ireturn, 1) := by decide +kernel
theorem dd_Mo_transaction_35 : decode bb_Mo_transaction 35 = .ok (.iconst 0, 1) := by decide +kernel
theorem dd_Mo_transaction_36 : decode bb_Mo_transaction 36 = .ok (.istore_n 3, 1) := by decide +kernel
theorem dd_Mo_transaction_37 : decode bb_Mo_transaction 37 = .ok (.iconst 0, 1) := by decide +kernel
theorem dd_Mo_transaction_38 : decode bb_Mo_transaction 38 = .ok (.istore 4, 2) := by decide +kernel
theorem dd_Mo_transaction_40 : decode bb_Mo_transaction 40 = .ok (.iload 4, 2) := by decide +kernel
theorem dd_Mo_transaction_42 : decode bb_Mo_transaction 42 = .ok (.bipush 12, 2) := by decide +kernel
theorem dd_Mo_transaction_44 : decode bb_Mo_transaction 44 = .ok (.if_icmp .ge 53, 3) := by decide +kernel
theorem dd_Mo_transaction_47 : decode bb_Mo_transaction 47 = .ok (.bipush 12, 2) := by decide +kernel
theorem dd_Mo_transaction_49 : decode bb_Mo_transaction 49 = .ok (.iload_n 1, 1) := by decide +kernel
theorem dd_Mo_transaction_50 : decode bb_Mo_transaction 50 = .ok (.imul, 1) := by decide +kernel
theorem dd_Mo_transaction_51 : decode bb_Mo_transaction 51 = .ok (.iload 4, 2) := by decide +kernel
theorem dd_Mo_transaction_53 : decode bb_Mo_transaction 53 = .ok (.iadd, 1) := by decide +kernel
theorem dd_Mo_transaction_54 : decode bb_Mo_transaction 54 = .ok (.istore 5, 2) := by decide +kernel
theorem dd_Mo_transaction_56 : decode bb_Mo_transaction 56 = .ok (.iload_n 2, 1) := by decide +kernel
theorem dd_Mo_transaction_57 : decode bb_Mo_transaction 57 = .ok (.iconst 3, 1) := by decide +kernel
theorem dd_Mo_transaction_58 : decode bb_Mo_transaction 58 = .ok (.if_icmp .ne 16, 3) := by decide +kernel
theorem dd_Mo_transaction_61 : decode bb_Mo_transaction 61 = .ok (.aload_n 0, 1) := by decide +kernel
theorem dd_Mo_transaction_62 : decode bb_Mo_transaction 62 = .ok (.getfield 78, 3) := by decide +kernel
theorem dd_Mo_transaction_65 : decode bb_Mo_transaction 65 = .ok (.iload 5, 2) := by decide +kernel
theorem dd_Mo_transaction_67 : decode bb_Mo_transaction 67 = .ok (.iaload, 1) := by decide +kernel
theorem dd_Mo_transaction_68 : decode bb_Mo_transaction 68 = .ok (.ifCond .le 23, 3) := by decide +kernel
theorem dd_Mo_transaction_71 : decode bb_Mo_transaction 71 = .ok (.goto 13, 3) := by decide +kernel
theorem dd_Mo_transaction_74 : decode bb_Mo_transaction 74 = .ok (.aload_n 0, 1) := by decide +kernel
theorem dd_Mo_transaction_75 : decode bb_Mo_transaction 75 = .ok (.getfield 84, 3) := by decide +kernel
theorem dd_Mo_transaction_78 : decode bb_Mo_transaction 78 = .ok (.iload 5, 2) := by decide +kernel
theorem dd_Mo_transaction_80 : decode bb_Mo_transaction 80 = .ok (.baload, 1) := by decide +kernel
theorem dd_Mo_transaction_81 : decode bb_Mo_transaction 81 = .ok (.ifCond .eq 10, 3) := by decide +kernel
theorem dd_Mo_transaction_84 : decode bb_Mo_transaction 84 = .ok (.iload_n 3, 1) := by decide +kernel
theorem dd_Mo_transaction_85 : decode bb_Mo_transaction 85 = .ok (.iconst 1, 1) := by decide +kernel
theorem dd_Mo_transaction_86 : decode bb_Mo_transaction 86 = .ok (.iload 4, 2) := by decide +kernel
theorem dd_Mo_transaction_88 : decode bb_Mo_transaction 88 = .ok (.ishl, 1) := by decide +kernel
theorem dd_Mo_transaction_89 : decode bb_Mo_transaction 89 = .ok (.iadd, 1) := by decide +kernel
theorem dd_Mo_transaction_90 : decode bb_Mo_transaction 90 = .ok (.istore_n 3, 1) := by decide +kernel
theorem dd_Mo_transaction_91 : decode bb_Mo_transaction 91 = .ok (.iinc 4 1, 3) := by decide +kernel
theorem dd_Mo_transaction_94 : decode bb_Mo_transaction 94 = .ok (.goto (-54), 3) := by decide +kernel
theorem dd_Mo_transaction_97 : decode bb_Mo_transaction 97 = .ok (.iload_n 2, 1) := by decide +kernel
theorem dd_Mo_transaction_98 : decode bb_Mo_transaction 98 = .ok (.ifCond .ne 12, 3) := by decide +kernel
theorem dd_Mo_transaction_101 : decode bb_Mo_transaction 101 = .ok (.aload_n 0, 1) := by decide +kernel
theorem dd_Mo_transaction_102 : decode bb_Mo_transaction 102 = .ok (.getfield 66, 3) := by decide +kernel
theorem dd_Mo_transaction_105 : decode bb_Mo_transaction 105 = .ok (.iload_n 1, 1) := by decide +kernel
theorem dd_Mo_transaction_106 : decode bb_Mo_transaction 106 = .ok (.iaload, 1) := by decide +kernel
theorem dd_Mo_transaction_107 : decode bb_Mo_transaction 107 = .ok (.goto 54, 3) := by decide +kernel
theorem dd_Mo_transaction_110 : decode bb_Mo_transaction 110 = .ok (.iload_n 2, 1) := by decide +kernel
theorem dd_Mo_transaction_111 : decode bb_Mo_transaction 111 = .ok (.iconst 1, 1) := by decide +kernel
theorem dd_Mo_transaction_112 : decode bb_Mo_transaction 112 = .ok (.if_icmp .ne 12, 3) := by decide +kernel
theorem dd_Mo_transaction_115 : decode bb_Mo_transaction 115 = .ok (.aload_n 0, 1) := by decide +kernel
theorem dd_Mo_transaction_116 : decode bb_Mo_transaction 116 = .ok (.getfield 69, 3) := by decide +kernel
theorem dd_Mo_transaction_119 : decode bb_Mo_transaction 119 = .ok (.iload_n 1, 1) := by decide +kernel
theorem dd_Mo_transaction_120 : decode bb_Mo_transaction 120 = .ok (.iaload, 1) := by decide +kernel
theorem dd_Mo_transaction_121 : decode bb_Mo_transaction 121 = .ok (.goto 40, 3) := by decide +kernel
theorem dd_Mo_transaction_124 : decode bb_Mo_transaction 124 = .ok (.iload_n 2, 1) := by decide +kernel
theorem dd_Mo_transaction_125 : decode bb_Mo_transaction 125 = .ok (.iconst 2, 1) := by decide +kernel
theorem dd_Mo_transaction_126 : decode bb_Mo_transaction 126 = .ok (.if_icmp .ne 12, 3) := by decide +kernel
theorem dd_Mo_transaction_129 : decode bb_Mo_transaction 129 = .ok (.aload_n 0, 1) := by decide +kernel
theorem dd_Mo_transaction_130 : decode bb_Mo_transaction 130 = .ok (.getfield 72, 3) := by decide +kernel
theorem dd_Mo_transaction_133 : decode bb_Mo_transaction 133 = .ok (.iload_n 1, 1) := by decide +kernel
theorem dd_Mo_transaction_134 : decode bb_Mo_transaction 134 = .ok (.iaload, 1) := by decide +kernel
theorem dd_Mo_transaction_135 : decode bb_Mo_transaction 135 = .ok (.goto 26, 3) := by decide +kernel
theorem dd_Mo_transaction_138 : decode bb_Mo_transaction 138 = .ok (.iload_n 2, 1) := by decide +kernel
theorem dd_Mo_transaction_139 : decode bb_Mo_transaction 139 = .ok (.iconst 5, 1) := by decide +kernel
theorem dd_Mo_transaction_140 : decode bb_Mo_transaction 140 = .ok (.if_icmp .ge 7, 3) := by decide +kernel
theorem dd_Mo_transaction_143 : decode bb_Mo_transaction 143 = .ok (.iload_n 3, 1) := by decide +kernel
theorem dd_Mo_transaction_144 : decode bb_Mo_transaction 144 = .ok (.goto 17, 3) := by decide +kernel
theorem dd_Mo_transaction_147 : decode bb_Mo_transaction 147 = .ok (.aload_n 0, 1) := by decide +kernel
theorem dd_Mo_transaction_148 : decode bb_Mo_transaction 148 = .ok (.getfield 75, 3) := by decide +kernel
theorem dd_Mo_transaction_151 : decode bb_Mo_transaction 151 = .ok (.iload_n 1, 1) := by decide +kernel
theorem dd_Mo_transaction_152 : decode bb_Mo_transaction 152 = .ok (.baload, 1) := by decide +kernel
theorem dd_Mo_transaction_153 : decode bb_Mo_transaction 153 = .ok (.ifCond .eq 7, 3) := by decide +kernel
theorem dd_Mo_transaction_156 : decode bb_Mo_transaction 156 = .ok (.iconst 1, 1) := by decide +kernel
theorem dd_Mo_transaction_157 : decode bb_Mo_transaction 157 = .ok (.goto 4, 3) := by decide +kernel
theorem dd_Mo_transaction_160 : decode bb_Mo_transaction 160 = .ok (.iconst 0, 1) := by decide +kernel
theorem dd_Mo_transaction_161 : decode bb_Mo_transaction 161 = .ok (.ireturn, 1) := by decide +kernel
theorem dd_Mo_lock_0 : decode bb_Mo_lock 0 = .ok (.aload_n 0, 1) := by decide +kernel
theorem dd_Mo_lock_1 : decode bb_Mo_lock 1 = .ok (.iconst 0, 1) := by decide +kernel
theorem dd_Mo_lock_2 : decode bb_Mo_lock 2 = .ok (.putfield 93, 3) := by decide +kernel
theorem dd_Mo_lock_5 : decode bb_Mo_lock 5 = .ok (.iload_n 1, 1) := by decide +kernel
theorem dd_Mo_lock_6 : decode bb_Mo_lock 6 = .ok (.invokestatic 142, 3) := by decide +kernel
theorem dd_Mo_lock_9 : decode bb_Mo_lock 9 = .ok (.ifCond .eq 32, 3) := by decide +kernel
theorem dd_Mo_lock_12 : decode bb_Mo_lock 12 = .ok (.iload_n 2, 1) := by decide +kernel
theorem dd_Mo_lock_13 : decode bb_Mo_lock 13 = .ok (.iconst 0, 1) := by decide +kernel
theorem dd_Mo_lock_14 : decode bb_Mo_lock 14 = .ok (.iconst 5, 1) := by decide +kernel
theorem dd_Mo_lock_15 : decode bb_Mo_lock 15 = .ok (.invokestatic 127, 3) := by decide +kernel
theorem dd_Mo_lock_18 : decode bb_Mo_lock 18 = .ok (.ifCond .eq 23, 3) := by decide +kernel
theorem dd_Mo_lock_21 : decode bb_Mo_lock 21 = .ok (.aload_n 0, 1) := by decide +kernel
theorem dd_Mo_lock_22 : decode bb_Mo_lock 22 = .ok (.getfield 13, 3) := by decide +kernel
theorem dd_Mo_lock_25 : decode bb_Mo_lock 25 = .ok (.iload_n 1, 1) := by decide +kernel
theorem dd_Mo_lock_26 : decode bb_Mo_lock 26 = .ok (.iaload, 1) := by decide +kernel
theorem dd_Mo_lock_27 : decode bb_Mo_lock 27 = .ok (.ifCond .eq 14, 3) := by decide +kernel
theorem dd_Mo_lock_30 : decode bb_Mo_lock 30 = .ok (.aload_n 0, 1) := by decide +kernel
theorem dd_Mo_lock_31 : decode bb_Mo_lock 31 = .ok (.getfield 47, 3) := by decide +kernel
theorem dd_Mo_lock_34 : decode bb_Mo_lock 34 = .ok (.iload_n 1, 1) := by decide +kernel
theorem dd_Mo_lock_35 : decode bb_Mo_lock 35 = .ok (.iconst 4, 1) := by decide +kernel
theorem dd_Mo_lock_36 : decode bb_Mo_lock 36 = .ok (.idiv, 1) := by decide +kernel
theorem dd_Mo_lock_37 : decode bb_Mo_lock 37 = .ok (.baload, 1) := by decide +kernel
theorem dd_Mo_lock_38 : decode bb_Mo_lock 38 = .ok (.ifCond .eq 5, 3) := by decide +kernel
theorem dd_Mo_lock_41 : decode bb_Mo_lock 41 = .ok (.iconst (-1), 1) := by decide +kernel
theorem dd_Mo_lock_42 : decode bb_Mo_lock 42 = .ok (.ireturn, 1) := by decide +kernel
theorem dd_Mo_lock_43 : decode bb_Mo_lock 43 = .ok (.aload_n 0, 1) := by decide +kernel
theorem dd_Mo_lock_44 : decode bb_Mo_lock 44 = .ok (.iload_n 1, 1) := by decide +kernel
theorem dd_Mo_lock_45 : decode bb_Mo_lock 45 = .ok (.invokevirtual 121, 3) := by decide +kernel
theorem dd_Mo_lock_48 : decode bb_Mo_lock 48 = .ok (.istore_n 3, 1) := by decide +kernel
theorem dd_Mo_lock_49 : decode bb_Mo_lock 49 = .ok (.iload_n 2, 1) := by decide +kernel
theorem dd_Mo_lock_50 : decode bb_Mo_lock 50 = .ok (.iconst 3, 1) := by decide +kernel
theorem dd_Mo_lock_51 : decode bb_Mo_lock 51 = .ok (.if_icmp .ge 37, 3) := by decide +kernel
theorem dd_Mo_lock_54 : decode bb_Mo_lock 54 = .ok (.iload_n 2, 1) := by decide +kernel
theorem dd_Mo_lock_55 : decode bb_Mo_lock 55 = .ok (.ifCond .ne 12, 3) := by decide +kernel
theorem dd_Mo_lock_58 : decode bb_Mo_lock 58 = .ok (.aload_n 0, 1) := by decide +kernel
theorem dd_Mo_lock_59 : decode bb_Mo_lock 59 = .ok (.getfield 13, 3) := by decide +kernel
theorem dd_Mo_lock_62 : decode bb_Mo_lock 62 = .ok (.iload_n 1, 1) := by decide +kernel
theorem dd_Mo_lock_63 : decode bb_Mo_lock 63 = .ok (.iaload, 1) := by decide +kernel
theorem dd_Mo_lock_64 : decode bb_Mo_lock 64 = .ok (.goto 23, 3) := by decide +kernel
theorem dd_Mo_lock_67 : decode bb_Mo_lock 67 = .ok (.iload_n 2, 1) := by decide +kernel
theorem dd_Mo_lock_68 : decode bb_Mo_lock 68 = .ok (.iconst 1, 1) := by decide +kernel
theorem dd_Mo_lock_69 : decode bb_Mo_lock 69 = .ok (.if_icmp .ne 12, 3) := by decide +kernel
theorem dd_Mo_lock_72 : decode bb_Mo_lock 72 = .ok (.aload_n 0, 1) := by decide +kernel
theorem dd_Mo_lock_73 : decode bb_Mo_lock 73 = .ok (.getfield 17, 3) := by decide +kernel
theorem dd_Mo_lock_76 : decode bb_Mo_lock 76 = .ok (.iload_n 1, 1) := by decide +kernel
theorem dd_Mo_lock_77 : decode bb_Mo_lock 77 = .ok (.iaload, 1) := by decide +kernel
theorem dd_Mo_lock_78 : decode bb_Mo_lock 78 = .ok (.goto 9, 3) := by decide +kernel
theorem dd_Mo_lock_81 : decode bb_Mo_lock 81 = .ok (.aload_n 0, 1) := by decide +kernel
theorem dd_Mo_lock_82 : decode bb_Mo_lock 82 = .ok (.getfield 20, 3) := by decide +kernel
theorem dd_Mo_lock_85 : decode bb_Mo_lock 85 = .ok (.iload_n 1, 1) := by decide +kernel
theorem dd_Mo_lock_86 : decode bb_Mo_lock 86 = .ok (.iaload, 1) := by decide +kernel
theorem dd_Mo_lock_87 : decode bb_Mo_lock 87 = .ok (.ireturn, 1) := by decide +kernel
theorem dd_Mo_lock_88 : decode bb_Mo_lock 88 = .ok (.iload_n 2, 1) := by decide +kernel
theorem dd_Mo_lock_89 : decode bb_Mo_lock 89 = .ok (.iconst 3, 1) := by decide +kernel
theorem dd_Mo_lock_90 : decode bb_Mo_lock 90 = .ok (.if_icmp .ne 12, 3) := by decide +kernel
theorem dd_Mo_lock_93 : decode bb_Mo_lock 93 = .ok (.aload_n 0, 1) := by decide +kernel
theorem dd_Mo_lock_94 : decode bb_Mo_lock 94 = .ok (.getfield 23, 3) := by decide +kernel
theorem dd_Mo_lock_97 : decode bb_Mo_lock 97 = .ok (.iload_n 1, 1) := by decide +kernel
theorem dd_Mo_lock_98 : decode bb_Mo_lock 98 = .ok (.iaload, 1) := by decide +kernel
theorem dd_Mo_lock_99 : decode bb_Mo_lock 99 = .ok (.goto 40, 3) := by decide +kernel
theorem dd_Mo_lock_102 : decode bb_Mo_lock 102 = .ok (.iload_n 2, 1) := by decide +kernel
theorem dd_Mo_lock_103 : decode bb_Mo_lock 103 = .ok (.iconst 4, 1) := by decide +kernel
theorem dd_Mo_lock_104 : decode bb_Mo_lock 104 = .ok (.if_icmp .ne 15, 3) := by decide +kernel
theorem dd_Mo_lock_107 : decode bb_Mo_lock 107 = .ok (.iload_n 3, 1) := by decide +kernel
theorem dd_Mo_lock_108 : decode bb_Mo_lock 108 = .ok (.ifCond .eq 7, 3) := by decide +kernel
theorem dd_Mo_lock_111 : decode bb_Mo_lock 111 = .ok (.iconst 1, 1) := by decide +kernel
theorem dd_Mo_lock_112 : decode bb_Mo_lock 112 = .ok (.goto 27, 3) := by decide +kernel
theorem dd_Mo_lock_115 : decode bb_Mo_lock 115 = .ok (.iconst 0, 1) := by decide +kernel
theorem dd_Mo_lock_116 : decode bb_Mo_lock 116 = .ok (.goto 23, 3) := by decide +kernel
theorem dd_Mo_lock_119 : decode bb_Mo_lock 119 = .ok (.aload_n 0, 1) := by decide +kernel
theorem dd_Mo_lock_120 : decode bb_Mo_lock 120 = .ok (.getfield 26, 3) := by decide +kernel
theorem dd_Mo_lock_123 : decode bb_Mo_lock 123 = .ok (.iload_n 1, 1) := by decide +kernel
theorem dd_Mo_lock_124 : decode bb_Mo_lock 124 = .ok (.iaload, 1) := by decide +kernel
theorem dd_Mo_lock_125 : decode bb_Mo_lock 125 = .ok (.iconst 1, 1) := by decide +kernel
theorem dd_Mo_lock_126 : decode bb_Mo_lock 126 = .ok (.if_icmp .ne 12, 3) := by decide +kernel
theorem dd_Mo_lock_129 : decode bb_Mo_lock 129 = .ok (.aload_n 0, 1) := by decide +kernel
theorem dd_Mo_lock_130 : decode bb_Mo_lock 130 = .ok (.getfield 29, 3) := by decide +kernel
theorem dd_Mo_lock_133 : decode bb_Mo_lock 133 = .ok (.iload_n 1, 1) := by decide +kernel
theorem dd_Mo_lock_134 : decode bb_Mo_lock 134 = .ok (.iaload, 1) := by decide +kernel
theorem dd_Mo_lock_135 : decode bb_Mo_lock 135 = .ok (.goto 4, 3) := by decide +kernel
theorem dd_Mo_lock_138 : decode bb_Mo_lock 138 = .ok (.iconst 0, 1) := by decide +kernel
theorem dd_Mo_lock_139 : decode bb_Mo_lock 139 = .ok (.ireturn, 1) := by decide +kernel
theorem dd_Mo_record_0 : decode bb_Mo_record 0 = .ok (.aload_n 0, 1) := by decide +kernel
theorem dd_Mo_record_1 : decode bb_Mo_record 1 = .ok (.iconst 0, 1) := by decide +kernel
theorem dd_Mo_record_2 : decode bb_Mo_record 2 = .ok (.putfield 93, 3) := by decide +kernel
theorem dd_Mo_record_5 : decode bb_Mo_record 5 = .ok (.iload_n 1, 1) := by decide +kernel
theorem dd_Mo_record_6 : decode bb_Mo_record 6 = .ok (.invokestatic 142, 3) := by decide +kernel
theorem dd_Mo_record_9 : decode bb_Mo_record 9 = .ok (.ifCond .eq 27, 3) := by decide +kernel
theorem dd_Mo_record_12 : decode bb_Mo_record 12 = .ok (.iload_n 2, 1) := by decide +kernel
theorem dd_Mo_record_13 : decode bb_Mo_record 13 = .ok (.ifCond .lt 23, 3) := by decide +kernel
theorem dd_Mo_record_16 : decode bb_Mo_record 16 = .ok (.iload_n 3, 1) := by decide +kernel
theorem dd_Mo_record_17 : decode bb_Mo_record 17 = .ok (.iconst 0, 1) := by decide +kernel
theorem dd_Mo_record_18 : decode bb_Mo_record 18 = .ok (.iconst 3, 1) := by decide +kernel
theorem dd_Mo_record_19 : decode bb_Mo_record 19 = .ok (.invokestatic 127, 3) := by decide +kernel
theorem dd_Mo_record_22 : decode bb_Mo_record 22 = .ok (.ifCond .eq 14, 3) := by decide +kernel
theorem dd_Mo_record_25 : decode bb_Mo_record 25 = .ok (.aload_n 0, 1) := by decide +kernel
theorem dd_Mo_record_26 : decode bb_Mo_record 26 = .ok (.getfield 47, 3) := by decide +kernel
theorem dd_Mo_record_29 : decode bb_Mo_record 29 = .ok (.iload_n 1, 1) := by decide +kernel
theorem dd_Mo_record_30 : decode bb_Mo_record 30 = .ok (.iconst 4, 1) := by decide +kernel
theorem dd_Mo_record_31 : decode bb_Mo_record 31 = .ok (.idiv, 1) := by decide +kernel
theorem dd_Mo_record_32 : decode bb_Mo_record 32 = .ok (.baload, 1) := by decide +kernel
theorem dd_Mo_record_33 : decode bb_Mo_record 33 = .ok (.ifCond .eq 5, 3) := by decide +kernel
theorem dd_Mo_record_36 : decode bb_Mo_record 36 = .ok (.iconst (-1), 1) := by decide +kernel
theorem dd_Mo_record_37 : decode bb_Mo_record 37 = .ok (.ireturn, 1) := by decide +kernel
theorem dd_Mo_record_38 : decode bb_Mo_record 38 = .ok (.ldc 184, 2) := by decide +kernel
theorem dd_Mo_record_40 : decode bb_Mo_record 40 = .ok (.istore 4, 2) := by decide +kernel
theorem dd_Mo_record_42 : decode bb_Mo_record 42 = .ok (.iconst (-1), 1) := by decide +kernel
theorem dd_Mo_record_43 : decode bb_Mo_record 43 = .ok (.istore 5, 2) := by decide +kernel
theorem dd_Mo_record_45 : decode bb_Mo_record 45 = .ok (.iconst 0, 1) := by decide +kernel
theorem dd_Mo_record_46 : decode bb_Mo_record 46 = .ok (.istore 6, 2) := by decide +kernel
theorem dd_Mo_record_48 : decode bb_Mo_record 48 = .ok (.iload 6, 2) := by decide +kernel
theorem dd_Mo_record_50 : decode bb_Mo_record 50 = .ok (.iload_n 2, 1) := by decide +kernel
theorem dd_Mo_record_51 : decode bb_Mo_record 51 = .ok (.if_icmp .gt 134, 3) := by decide +kernel
theorem dd_Mo_record_54 : decode bb_Mo_record 54 = .ok (.iload 6, 2) := by decide +kernel
theorem dd_Mo_record_56 : decode bb_Mo_record 56 = .ok (.ifCond .eq 8, 3) := by decide +kernel
theorem dd_Mo_record_59 : decode bb_Mo_record 59 = .ok (.iload 5, 2) := by decide +kernel
theorem dd_Mo_record_61 : decode bb_Mo_record 61 = .ok (.ifCond .lt 124, 3) := by decide +kernel
theorem dd_Mo_record_64 : decode bb_Mo_record 64 = .ok (.iconst (-1), 1) := by decide +kernel
theorem dd_Mo_record_65 : decode bb_Mo_record 65 = .ok (.istore 5, 2) := by decide +kernel
theorem dd_Mo_record_67 : decode bb_Mo_record 67 = .ok (.iconst 0, 1) := by decide +kernel
theorem dd_Mo_record_68 : decode bb_Mo_record 68 = .ok (.istore 7, 2) := by decide +kernel
theorem dd_Mo_record_70 : decode bb_Mo_record 70 = .ok (.iload 7, 2) := by decide +kernel
theorem dd_Mo_record_72 : decode bb_Mo_record 72 = .ok (.aload_n 0, 1) := by decide +kernel
theorem dd_Mo_record_73 : decode bb_Mo_record 73 = .ok (.getfield 99, 3) := by decide +kernel
theorem dd_Mo_record_76 : decode bb_Mo_record 76 = .ok (.if_icmp .ge 85, 3) := by decide +kernel
theorem dd_Mo_record_79 : decode bb_Mo_record 79 = .ok (.aload_n 0, 1) := by decide +kernel
theorem dd_Mo_record_80 : decode bb_Mo_record 80 = .ok (.getfield 32, 3) := by decide +kernel
theorem dd_Mo_record_83 : decode bb_Mo_record 83 = .ok (.iload 7, 2) := by decide +kernel
theorem dd_Mo_record_85 : decode bb_Mo_record 85 = .ok (.iaload, 1) := by decide +kernel
theorem dd_Mo_record_86 : decode bb_Mo_record 86 = .ok (.iload_n 1, 1) := by decide +kernel
theorem dd_Mo_record_87 : decode bb_Mo_record 87 = .ok (.if_icmp .ne 29, 3) := by decide +kernel
theorem dd_Mo_record_90 : decode bb_Mo_record 90 = .ok (.aload_n 0, 1) := by decide +kernel
theorem dd_Mo_record_91 : decode bb_Mo_record 91 = .ok (.getfield 41, 3) := by decide +kernel
theorem dd_Mo_record_94 : decode bb_Mo_record 94 = .ok (.iload 7, 2) := by decide +kernel
theorem dd_Mo_record_96 : decode bb_Mo_record 96 = .ok (.iaload, 1) := by decide +kernel
theorem dd_Mo_record_97 : decode bb_Mo_record 97 = .ok (.ifCond .le 19, 3) := by decide +kernel
theorem dd_Mo_record_100 : decode bb_Mo_record 100 = .ok (.aload_n 0, 1) := by decide +kernel
theorem dd_Mo_record_101 : decode bb_Mo_record 101 = .ok (.getfield 35, 3) := by decide +kernel
theorem dd_Mo_record_104 : decode bb_Mo_record 104 = .ok (.iload 7, 2) := by decide +kernel
theorem dd_Mo_record_106 : decode bb_Mo_record 106 = .ok (.iaload, 1) := by decide +kernel
theorem dd_Mo_record_107 : decode bb_Mo_record 107 = .ok (.iload 4, 2) := by decide +kernel
theorem dd_Mo_record_109 : decode bb_Mo_record 109 = .ok (.if_icmp .ge 7, 3) := by decide +kernel
theorem dd_Mo_record_112 : decode bb_Mo_record 112 = .ok (.iconst 1, 1) := by decide +kernel
theorem dd_Mo_record_113 : decode bb_Mo_record 113 = .ok (.goto 4, 3) := by decide +kernel
theorem dd_Mo_record_116 : decode bb_Mo_record 116 = .ok (.iconst 0, 1) := by decide +kernel
theorem dd_Mo_record_117 : decode bb_Mo_record 117 = .ok (.istore 8, 2) := by decide +kernel
theorem dd_Mo_record_119 : decode bb_Mo_record 119 = .ok (.iload 8, 2) := by decide +kernel
theorem dd_Mo_record_121 : decode bb_Mo_record 121 = .ok (.ifCond .eq 30, 3) := by decide +kernel
theorem dd_Mo_record_124 : decode bb_Mo_record 124 = .ok (.iload 5, 2) := by decide +kernel
theorem dd_Mo_record_126 : decode bb_Mo_record 126 = .ok (.ifCond .lt 20, 3) := by decide +kernel
theorem dd_Mo_record_129 : decode bb_Mo_record 129 = .ok (.aload_n 0, 1) := by decide +kernel
theorem dd_Mo_record_130 : decode bb_Mo_record 130 = .ok (.getfield 35, 3) := by decide +kernel
theorem dd_Mo_record_133 : decode bb_Mo_record 133 = .ok (.iload 7, 2) := by decide +kernel
theorem dd_Mo_record_135 : decode bb_Mo_record 135 = .ok (.iaload, 1) := by decide +kernel
theorem dd_Mo_record_136 : decode bb_Mo_record 136 = .ok (.aload_n 0, 1) := by decide +kernel
theorem dd_Mo_record_137 : decode bb_Mo_record 137 = .ok (.getfield 35, 3) := by decide +kernel
theorem dd_Mo_record_140 : decode bb_Mo_record 140 = .ok (.iload 5, 2) := by decide +kernel
theorem dd_Mo_record_142 : decode bb_Mo_record 142 = .ok (.iaload, 1) := by decide +kernel
theorem dd_Mo_record_143 : decode bb_Mo_record 143 = .ok (.if_icmp .le 8, 3) := by decide +kernel
theorem dd_Mo_record_146 : decode bb_Mo_record 146 = .ok (.iload 7, 2) := by decide +kernel
theorem dd_Mo_record_148 : decode bb_Mo_record 148 = .ok (.goto 5, 3) := by decide +kernel
theorem dd_Mo_record_151 : decode bb_Mo_record 151 = .ok (.iload 5, 2) := by decide +kernel
theorem dd_Mo_record_153 : decode bb_Mo_record 153 = .ok (.istore 5, 2) := by decide +kernel
theorem dd_Mo_record_155 : decode bb_Mo_record 155 = .ok (.iinc 7 1, 3) := by decide +kernel
theorem dd_Mo_record_158 : decode bb_Mo_record 158 = .ok (.goto (-88), 3) := by decide +kernel
theorem dd_Mo_record_161 : decode bb_Mo_record 161 = .ok (.iload 5, 2) := by decide +kernel
theorem dd_Mo_record_163 : decode bb_Mo_record 163 = .ok (.ifCond .ge 7, 3) := by decide +kernel
theorem dd_Mo_record_166 : decode bb_Mo_record 166 = .ok (.iconst 0, 1) := by decide +kernel
theorem dd_Mo_record_167 : decode bb_Mo_record 167 = .ok (.goto 10, 3) := by decide +kernel
theorem dd_Mo_record_170 : decode bb_Mo_record 170 = .ok (.aload_n 0, 1) := by decide +kernel
theorem dd_Mo_record_171 : decode bb_Mo_record 171 = .ok (.getfield 35, 3) := by decide +kernel
theorem dd_Mo_record_174 : decode bb_Mo_record 174 = .ok (.iload 5, 2) := by decide +kernel
theorem dd_Mo_record_176 : decode bb_Mo_record 176 = .ok (.iaload, 1) := by decide +kernel
theorem dd_Mo_record_177 : decode bb_Mo_record 177 = .ok (.istore 4, 2) := by decide +kernel
theorem dd_Mo_record_179 : decode bb_Mo_record 179 = .ok (.iinc 6 1, 3) := by decide +kernel
theorem dd_Mo_record_182 : decode bb_Mo_record 182 = .ok (.goto (-134), 3) := by decide +kernel
theorem dd_Mo_record_185 : decode bb_Mo_record 185 = .ok (.iload 5, 2) := by decide +kernel
theorem dd_Mo_record_187 : decode bb_Mo_record 187 = .ok (.ifCond .ge 5, 3) := by decide +kernel
theorem dd_Mo_record_190 : decode bb_Mo_record 190 = .ok (.iconst (-1), 1) := by decide +kernel
theorem dd_Mo_record_191 : decode bb_Mo_record 191 = .ok (.ireturn, 1) := by decide +kernel
theorem dd_Mo_record_192 : decode bb_Mo_record 192 = .ok (.iload_n 3, 1) := by decide +kernel
theorem dd_Mo_record_193 : decode bb_Mo_record 193 = .ok (.ifCond .ne 13, 3) := by decide +kernel
theorem dd_Mo_record_196 : decode bb_Mo_record 196 = .ok (.aload_n 0, 1) := by decide +kernel
theorem dd_Mo_record_197 : decode bb_Mo_record 197 = .ok (.getfield 35, 3) := by decide +kernel
theorem dd_Mo_record_200 : decode bb_Mo_record 200 = .ok (.iload 5, 2) := by decide +kernel
theorem dd_Mo_record_202 : decode bb_Mo_record 202 = .ok (.iaload, 1) := by decide +kernel
theorem dd_Mo_record_203 : decode bb_Mo_record 203 = .ok (.goto 55, 3) := by decide +kernel
theorem dd_Mo_record_206 : decode bb_Mo_record 206 = .ok (.iload_n 3, 1) := by decide +kernel
theorem dd_Mo_record_207 : decode bb_Mo_record 207 = .ok (.iconst 1, 1) := by decide +kernel
theorem dd_Mo_record_208 : decode bb_Mo_record 208 = .ok (.if_icmp .ne 13, 3) := by decide +kernel
theorem dd_Mo_record_211 : decode bb_Mo_record 211 = .ok (.aload_n 0, 1) := by decide +kernel
theorem dd_Mo_record_212 : decode bb_Mo_record 212 = .ok (.getfield 38, 3) := by decide +kernel
theorem dd_Mo_record_215 : decode bb_Mo_record 215 = .ok (.iload 5, 2) := by decide +kernel
theorem dd_Mo_record_217 : decode bb_Mo_record 217 = .ok (.iaload, 1) := by decide +kernel
theorem dd_Mo_record_218 : decode bb_Mo_record 218 = .ok (.goto 40, 3) := by decide +kernel
theorem dd_Mo_record_221 : decode bb_Mo_record 221 = .ok (.iload_n 3, 1) := by decide +kernel
theorem dd_Mo_record_222 : decode bb_Mo_record 222 = .ok (.iconst 2, 1) := by decide +kernel
theorem dd_Mo_record_223 : decode bb_Mo_record 223 = .ok (.if_icmp .ne 13, 3) := by decide +kernel
theorem dd_Mo_record_226 : decode bb_Mo_record 226 = .ok (.aload_n 0, 1) := by decide +kernel
theorem dd_Mo_record_227 : decode bb_Mo_record 227 = .ok (.getfield 41, 3) := by decide +kernel
theorem dd_Mo_record_230 : decode bb_Mo_record 230 = .ok (.iload 5, 2) := by decide +kernel
theorem dd_Mo_record_232 : decode bb_Mo_record 232 = .ok (.iaload, 1) := by decide +kernel
theorem dd_Mo_record_233 : decode bb_Mo_record 233 = .ok (.goto 25, 3) := by decide +kernel
theorem dd_Mo_record_236 : decode bb_Mo_record 236 = .ok (.aload_n 0, 1) := by decide +kernel
theorem dd_Mo_record_237 : decode bb_Mo_record 237 = .ok (.getfield 41, 3) := by decide +kernel
theorem dd_Mo_record_240 : decode bb_Mo_record 240 = .ok (.iload 5, 2) := by decide +kernel
theorem dd_Mo_record_242 : decode bb_Mo_record 242 = .ok (.iaload, 1) := by decide +kernel
theorem dd_Mo_record_243 : decode bb_Mo_record 243 = .ok (.iconst 1, 1) := by decide +kernel
theorem dd_Mo_record_244 : decode bb_Mo_record 244 = .ok (.if_icmp .ne 13, 3) := by decide +kernel
theorem dd_Mo_record_247 : decode bb_Mo_record 247 = .ok (.aload_n 0, 1) := by decide +kernel
theorem dd_Mo_record_248 : decode bb_Mo_record 248 = .ok (.getfield 44, 3) := by decide +kernel
theorem dd_Mo_record_251 : decode bb_Mo_record 251 = .ok (.iload 5, 2) := by decide +kernel
theorem dd_Mo_record_253 : decode bb_Mo_record 253 = .ok (.iaload, 1) := by decide +kernel
theorem dd_Mo_record_254 : decode bb_Mo_record 254 = .ok (.goto 4, 3) := by decide +kernel
theorem dd_Mo_record_257 : decode bb_Mo_record 257 = .ok (.iconst 0, 1) := by decide +kernel
theorem dd_Mo_record_258 : decode bb_Mo_record 258 = .ok (.ireturn, 1) := by decide +kernel
theorem dd_Mo_tablet_0 : decode bb_Mo_tablet 0 = .ok (.aload_n 0, 1) := by decide +kernel
theorem dd_Mo_tablet_1 : decode bb_Mo_tablet 1 = .ok (.iconst 0, 1) := by decide +kernel
theorem dd_Mo_tablet_2 : decode bb_Mo_tablet 2 = .ok (.putfield 93, 3) := by decide +kernel
theorem dd_Mo_tablet_5 : decode bb_Mo_tablet 5 = .ok (.iload_n 1, 1) := by decide +kernel
theorem dd_Mo_tablet_6 : decode bb_Mo_tablet 6 = .ok (.iconst 0, 1) := by decide +kernel
theorem dd_Mo_tablet_7 : decode bb_Mo_tablet 7 = .ok (.iconst 2, 1) := by decide +kernel
theorem dd_Mo_tablet_8 : decode bb_Mo_tablet 8 = .ok (.invokestatic 127, 3) := by decide +kernel
theorem dd_Mo_tablet_11 : decode bb_Mo_tablet 11 = .ok (.ifCond .eq 12, 3) := by decide +kernel
theorem dd_Mo_tablet_14 : decode bb_Mo_tablet 14 = .ok (.iload_n 2, 1) := by decide +kernel
theorem dd_Mo_tablet_15 : decode bb_Mo_tablet 15 = .ok (.iconst 0, 1) := by decide +kernel
theorem dd_Mo_tablet_16 : decode bb_Mo_tablet 16 = .ok (.iconst 2, 1) := by decide +kernel
theorem dd_Mo_tablet_17 : decode bb_Mo_tablet 17 = .ok (.invokestatic 127, 3) := by decide +kernel
theorem dd_Mo_tablet_20 : decode bb_Mo_tablet 20 = .ok (.ifCond .ne 5, 3) := by decide +kernel
theorem dd_Mo_tablet_23 : decode bb_Mo_tablet 23 = .ok (.iconst (-1), 1) := by decide +kernel
theorem dd_Mo_tablet_24 : decode bb_Mo_tablet 24 = .ok (.ireturn, 1) := by decide +kernel
theorem dd_Mo_tablet_25 : decode bb_Mo_tablet 25 = .ok (.iload_n 2, 1) := by decide +kernel
theorem dd_Mo_tablet_26 : decode bb_Mo_tablet 26 = .ok (.ifCond .ne 12, 3) := by decide +kernel
theorem dd_Mo_tablet_29 : decode bb_Mo_tablet 29 = .ok (.aload_n 0, 1) := by decide +kernel
theorem dd_Mo_tablet_30 : decode bb_Mo_tablet 30 = .ok (.getfield 54, 3) := by decide +kernel
theorem dd_Mo_tablet_33 : decode bb_Mo_tablet 33 = .ok (.iload_n 1, 1) := by decide +kernel
theorem dd_Mo_tablet_34 : decode bb_Mo_tablet 34 = .ok (.iaload, 1) := by decide +kernel
theorem dd_Mo_tablet_35 : decode bb_Mo_tablet 35 = .ok (.goto 36, 3) := by decide +kernel
theorem dd_Mo_tablet_38 : decode bb_Mo_tablet 38 = .ok (.iload_n 2, 1) := by decide +kernel
theorem dd_Mo_tablet_39 : decode bb_Mo_tablet 39 = .ok (.iconst 2, 1) := by decide +kernel
theorem dd_Mo_tablet_40 : decode bb_Mo_tablet 40 = .ok (.if_icmp .ne 12, 3) := by decide +kernel
theorem dd_Mo_tablet_43 : decode bb_Mo_tablet 43 = .ok (.aload_n 0, 1) := by decide +kernel
theorem dd_Mo_tablet_44 : decode bb_Mo_tablet 44 = .ok (.getfield 57, 3) := by decide +kernel
theorem dd_Mo_tablet_47 : decode bb_Mo_tablet 47 = .ok (.iload_n 1, 1) := by decide +kernel
theorem dd_Mo_tablet_48 : decode bb_Mo_tablet 48 = .ok (.iaload, 1) := by decide +kernel
theorem dd_Mo_tablet_49 : decode bb_Mo_tablet 49 = .ok (.goto 22, 3) := by decide +kernel
theorem dd_Mo_tablet_52 : decode bb_Mo_tablet 52 = .ok (.aload_n 0, 1) := by decide +kernel
theorem dd_Mo_tablet_53 : decode bb_Mo_tablet 53 = .ok (.getfield 47, 3) := by decide +kernel
theorem dd_Mo_tablet_56 : decode bb_Mo_tablet 56 = .ok (.iload_n 1, 1) := by decide +kernel
theorem dd_Mo_tablet_57 : decode bb_Mo_tablet 57 = .ok (.baload, 1) := by decide +kernel
theorem dd_Mo_tablet_58 : decode bb_Mo_tablet 58 = .ok (.ifCond .eq 7, 3) := by decide +kernel
theorem dd_Mo_tablet_61 : decode bb_Mo_tablet 61 = .ok (.iconst (-1), 1) := by decide +kernel
theorem dd_Mo_tablet_62 : decode bb_Mo_tablet 62 = .ok (.goto 9, 3) := by decide +kernel
theorem dd_Mo_tablet_65 : decode bb_Mo_tablet 65 = .ok (.aload_n 0, 1) := by decide +kernel
theorem dd_Mo_tablet_66 : decode bb_Mo_tablet 66 = .ok (.getfield 51, 3) := by decide +kernel
theorem dd_Mo_tablet_69 : decode bb_Mo_tablet 69 = .ok (.iload_n 1, 1) := by decide +kernel
theorem dd_Mo_tablet_70 : decode bb_Mo_tablet 70 = .ok (.iaload, 1) := by decide +kernel
theorem dd_Mo_tablet_71 : decode bb_Mo_tablet 71 = .ok (.ireturn, 1) := by decide +kernel
theorem dd_Mo_oracle_0 : decode bb_Mo_oracle 0 = .ok (.aload_n 0, 1) := by decide +kernel
theorem dd_Mo_oracle_1 : decode bb_Mo_oracle 1 = .ok (.iconst 0, 1) := by decide +kernel
theorem dd_Mo_oracle_2 : decode bb_Mo_oracle 2 = .ok (.putfield 93, 3) := by decide +kernel
theorem dd_Mo_oracle_5 : decode bb_Mo_oracle 5 = .ok (.iload_n 1, 1) := by decide +kernel
theorem dd_Mo_oracle_6 : decode bb_Mo_oracle 6 = .ok (.ifCond .ne 10, 3) := by decide +kernel
theorem dd_Mo_oracle_9 : decode bb_Mo_oracle 9 = .ok (.aload_n 0, 1) := by decide +kernel
theorem dd_Mo_oracle_10 : decode bb_Mo_oracle 10 = .ok (.getfield 7, 3) := by decide +kernel
theorem dd_Mo_oracle_13 : decode bb_Mo_oracle 13 = .ok (.goto 28, 3) := by decide +kernel
theorem dd_Mo_oracle_16 : decode bb_Mo_oracle 16 = .ok (.iload_n 1, 1) := by decide +kernel
theorem dd_Mo_oracle_17 : decode bb_Mo_oracle 17 = .ok (.iconst 1, 1) := by decide +kernel
theorem dd_Mo_oracle_18 : decode bb_Mo_oracle 18 = .ok (.if_icmp .ne 10, 3) := by decide +kernel
theorem dd_Mo_oracle_21 : decode bb_Mo_oracle 21 = .ok (.aload_n 0, 1) := by decide +kernel
theorem dd_Mo_oracle_22 : decode bb_Mo_oracle 22 = .ok (.getfield 96, 3) := by decide +kernel
theorem dd_Mo_oracle_25 : decode bb_Mo_oracle 25 = .ok (.goto 16, 3) := by decide +kernel
theorem dd_Mo_oracle_28 : decode bb_Mo_oracle 28 = .ok (.iload_n 1, 1) := by decide +kernel
theorem dd_Mo_oracle_29 : decode bb_Mo_oracle 29 = .ok (.iconst 2, 1) := by decide +kernel
theorem dd_Mo_oracle_30 : decode bb_Mo_oracle 30 = .ok (.if_icmp .ne 10, 3) := by decide +kernel
theorem dd_Mo_oracle_33 : decode bb_Mo_oracle 33 = .ok (.aload_n 0, 1) := by decide +kernel
theorem dd_Mo_oracle_34 : decode bb_Mo_oracle 34 = .ok (.getfield 110, 3) := by decide +kernel
theorem dd_Mo_oracle_37 : decode bb_Mo_oracle 37 = .ok (.goto 4, 3) := by decide +kernel
theorem dd_Mo_oracle_40 : decode bb_Mo_oracle 40 = .ok (.iconst (-1), 1) := by decide +kernel
theorem dd_Mo_oracle_41 : decode bb_Mo_oracle 41 = .ok (.ireturn, 1) := by decide +kernel
