theorem dX5_init_0 : decode cX5_init 0 = .ok (.aload_n 0, 1) := by decide +kernel
theorem dX5_init_1 : decode cX5_init 1 = .ok (.invokespecial 1, 3) := by decide +kernel
theorem dX5_init_4 : decode cX5_init 4 = .ok (.aload_n 0, 1) := by decide +kernel
theorem dX5_init_5 : decode cX5_init 5 = .ok (.iconst 2, 1) := by decide +kernel
theorem dX5_init_6 : decode cX5_init 6 = .ok (.putfield 7, 3) := by decide +kernel
theorem dX5_init_9 : decode cX5_init 9 = .ok (.aload_n 0, 1) := by decide +kernel
theorem dX5_init_10 : decode cX5_init 10 = .ok (.iconst 3, 1) := by decide +kernel
theorem dX5_init_11 : decode cX5_init 11 = .ok (.putfield 13, 3) := by decide +kernel
theorem dX5_init_14 : decode cX5_init 14 = .ok (.aload_n 0, 1) := by decide +kernel
theorem dX5_init_15 : decode cX5_init 15 = .ok (.bipush 11, 2) := by decide +kernel
theorem dX5_init_17 : decode cX5_init 17 = .ok (.newarray .int, 2) := by decide +kernel
theorem dX5_init_19 : decode cX5_init 19 = .ok (.putfield 16, 3) := by decide +kernel
theorem dX5_init_22 : decode cX5_init 22 = .ok (.aload_n 0, 1) := by decide +kernel
theorem dX5_init_23 : decode cX5_init 23 = .ok (.sipush (-400), 3) := by decide +kernel
theorem dX5_init_26 : decode cX5_init 26 = .ok (.putfield 20, 3) := by decide +kernel
theorem dX5_init_29 : decode cX5_init 29 = .ok (.aload_n 0, 1) := by decide +kernel
theorem dX5_init_30 : decode cX5_init 30 = .ok (.bipush 100, 2) := by decide +kernel
theorem dX5_init_32 : decode cX5_init 32 = .ok (.putfield 23, 3) := by decide +kernel
theorem dX5_init_35 : decode cX5_init 35 = .ok (.aload_n 0, 1) := by decide +kernel
theorem dX5_init_36 : decode cX5_init 36 = .ok (.bipush 48, 2) := by decide +kernel
theorem dX5_init_38 : decode cX5_init 38 = .ok (.newarray .int, 2) := by decide +kernel
theorem dX5_init_40 : decode cX5_init 40 = .ok (.putfield 26, 3) := by decide +kernel
theorem dX5_init_43 : decode cX5_init 43 = .ok (.aload_n 0, 1) := by decide +kernel
theorem dX5_init_44 : decode cX5_init 44 = .ok (.bipush 48, 2) := by decide +kernel
theorem dX5_init_46 : decode cX5_init 46 = .ok (.newarray .int, 2) := by decide +kernel
theorem dX5_init_48 : decode cX5_init 48 = .ok (.putfield 29, 3) := by decide +kernel
theorem dX5_init_51 : decode cX5_init 51 = .ok (.aload_n 0, 1) := by decide +kernel
theorem dX5_init_52 : decode cX5_init 52 = .ok (.bipush 48, 2) := by decide +kernel
theorem dX5_init_54 : decode cX5_init 54 = .ok (.newarray .int, 2) := by decide +kernel
theorem dX5_init_56 : decode cX5_init 56 = .ok (.putfield 32, 3) := by decide +kernel
theorem dX5_init_59 : decode cX5_init 59 = .ok (.aload_n 0, 1) := by decide +kernel
theorem dX5_init_60 : decode cX5_init 60 = .ok (.bipush 48, 2) := by decide +kernel
theorem dX5_init_62 : decode cX5_init 62 = .ok (.newarray .int, 2) := by decide +kernel
theorem dX5_init_64 : decode cX5_init 64 = .ok (.putfield 35, 3) := by decide +kernel
theorem dX5_init_67 : decode cX5_init 67 = .ok (.aload_n 0, 1) := by decide +kernel
theorem dX5_init_68 : decode cX5_init 68 = .ok (.bipush 48, 2) := by decide +kernel
theorem dX5_init_70 : decode cX5_init 70 = .ok (.newarray .int, 2) := by decide +kernel
theorem dX5_init_72 : decode cX5_init 72 = .ok (.putfield 38, 3) := by decide +kernel
theorem dX5_init_75 : decode cX5_init 75 = .ok (.aload_n 0, 1) := by decide +kernel
theorem dX5_init_76 : decode cX5_init 76 = .ok (.iconst 2, 1) := by decide +kernel
theorem dX5_init_77 : decode cX5_init 77 = .ok (.newarray .int, 2) := by decide +kernel
theorem dX5_init_79 : decode cX5_init 79 = .ok (.putfield 41, 3) := by decide +kernel
theorem dX5_init_82 : decode cX5_init 82 = .ok (.aload_n 0, 1) := by decide +kernel
theorem dX5_init_83 : decode cX5_init 83 = .ok (.iconst 2, 1) := by decide +kernel
theorem dX5_init_84 : decode cX5_init 84 = .ok (.newarray .int, 2) := by decide +kernel
theorem dX5_init_86 : decode cX5_init 86 = .ok (.putfield 44, 3) := by decide +kernel
theorem dX5_init_89 : decode cX5_init 89 = .ok (.aload_n 0, 1) := by decide +kernel
theorem dX5_init_90 : decode cX5_init 90 = .ok (.iconst 2, 1) := by decide +kernel
theorem dX5_init_91 : decode cX5_init 91 = .ok (.newarray .int, 2) := by decide +kernel
theorem dX5_init_93 : decode cX5_init 93 = .ok (.putfield 47, 3) := by decide +kernel
theorem dX5_init_96 : decode cX5_init 96 = .ok (.aload_n 0, 1) := by decide +kernel
theorem dX5_init_97 : decode cX5_init 97 = .ok (.iconst 2, 1) := by decide +kernel
theorem dX5_init_98 : decode cX5_init 98 = .ok (.newarray .int, 2) := by decide +kernel
theorem dX5_init_100 : decode cX5_init 100 = .ok (.putfield 50, 3) := by decide +kernel
theorem dX5_init_103 : decode cX5_init 103 = .ok (.aload_n 0, 1) := by decide +kernel
theorem dX5_init_104 : decode cX5_init 104 = .ok (.iconst 2, 1) := by decide +kernel
theorem dX5_init_105 : decode cX5_init 105 = .ok (.newarray .int, 2) := by decide +kernel
theorem dX5_init_107 : decode cX5_init 107 = .ok (.putfield 53, 3) := by decide +kernel
theorem dX5_init_110 : decode cX5_init 110 = .ok (.aload_n 0, 1) := by decide +kernel
theorem dX5_init_111 : decode cX5_init 111 = .ok (.sipush 2001, 3) := by decide +kernel
theorem dX5_init_114 : decode cX5_init 114 = .ok (.newarray .int, 2) := by decide +kernel
theorem dX5_init_116 : decode cX5_init 116 = .ok (.putfield 56, 3) := by decide +kernel
theorem dX5_init_119 : decode cX5_init 119 = .ok (.aload_n 0, 1) := by decide +kernel
theorem dX5_init_120 : decode cX5_init 120 = .ok (.sipush 2001, 3) := by decide +kernel
theorem dX5_init_123 : decode cX5_init 123 = .ok (.newarray .int, 2) := by decide +kernel
theorem dX5_init_125 : decode cX5_init 125 = .ok (.putfield 59, 3) := by decide +kernel
theorem dX5_init_128 : decode cX5_init 128 = .ok (.aload_n 0, 1) := by decide +kernel
theorem dX5_init_129 : decode cX5_init 129 = .ok (.sipush 2001, 3) := by decide +kernel
theorem dX5_init_132 : decode cX5_init 132 = .ok (.newarray .int, 2) := by decide +kernel
theorem dX5_init_134 : decode cX5_init 134 = .ok (.putfield 62, 3) := by decide +kernel
theorem dX5_init_137 : decode cX5_init 137 = .ok (.aload_n 0, 1) := by decide +kernel
theorem dX5_init_138 : decode cX5_init 138 = .ok (.iconst 5, 1) := by decide +kernel
theorem dX5_init_139 : decode cX5_init 139 = .ok (.newarray .int, 2) := by decide +kernel
theorem dX5_init_141 : decode cX5_init 141 = .ok (.putfield 65, 3) := by decide +kernel
theorem dX5_init_144 : decode cX5_init 144 = .ok (.aload_n 0, 1) := by decide +kernel
theorem dX5_init_145 : decode cX5_init 145 = .ok (.getfield 16, 3) := by decide +kernel
theorem dX5_init_148 : decode cX5_init 148 = .ok (.iconst 0, 1) := by decide +kernel
theorem dX5_init_149 : decode cX5_init 149 = .ok (.sipush 1000, 3) := by decide +kernel
theorem dX5_init_152 : decode cX5_init 152 = .ok (.iastore, 1) := by decide +kernel
theorem dX5_init_153 : decode cX5_init 153 = .ok (.aload_n 0, 1) := by decide +kernel
theorem dX5_init_154 : decode cX5_init 154 = .ok (.getfield 16, 3) := by decide +kernel
theorem dX5_init_157 : decode cX5_init 157 = .ok (.iconst 1, 1) := by decide +kernel
theorem dX5_init_158 : decode cX5_init 158 = .ok (.bipush 10, 2) := by decide +kernel
theorem dX5_init_160 : decode cX5_init 160 = .ok (.iastore, 1) := by decide +kernel
theorem dX5_init_161 : decode cX5_init 161 = .ok (.aload_n 0, 1) := by decide +kernel
theorem dX5_init_162 : decode cX5_init 162 = .ok (.getfield 16, 3) := by decide +kernel
theorem dX5_init_165 : decode cX5_init 165 = .ok (.iconst 2, 1) := by decide +kernel
theorem dX5_init_166 : decode cX5_init 166 = .ok (.iconst 3, 1) := by decide +kernel
theorem dX5_init_167 : decode cX5_init 167 = .ok (.iastore, 1) := by decide +kernel
theorem dX5_init_168 : decode cX5_init 168 = .ok (.aload_n 0, 1) := by decide +kernel
theorem dX5_init_169 : decode cX5_init 169 = .ok (.getfield 16, 3) := by decide +kernel
theorem dX5_init_172 : decode cX5_init 172 = .ok (.iconst 3, 1) := by decide +kernel
theorem dX5_init_173 : decode cX5_init 173 = .ok (.bipush 20, 2) := by decide +kernel
theorem dX5_init_175 : decode cX5_init 175 = .ok (.iastore, 1) := by decide +kernel
theorem dX5_init_176 : decode cX5_init 176 = .ok (.aload_n 0, 1) := by decide +kernel
theorem dX5_init_177 : decode cX5_init 177 = .ok (.getfield 16, 3) := by decide +kernel
theorem dX5_init_180 : decode cX5_init 180 = .ok (.iconst 4, 1) := by decide +kernel
theorem dX5_init_181 : decode cX5_init 181 = .ok (.bipush 100, 2) := by decide +kernel
theorem dX5_init_183 : decode cX5_init 183 = .ok (.iastore, 1) := by decide +kernel
theorem dX5_init_184 : decode cX5_init 184 = .ok (.aload_n 0, 1) := by decide +kernel
theorem dX5_init_185 : decode cX5_init 185 = .ok (.getfield 16, 3) := by decide +kernel
theorem dX5_init_188 : decode cX5_init 188 = .ok (.iconst 5, 1) := by decide +kernel
theorem dX5_init_189 : decode cX5_init 189 = .ok (.iconst 5, 1) := by decide +kernel
theorem dX5_init_190 : decode cX5_init 190 = .ok (.iastore, 1) := by decide +kernel
theorem dX5_init_191 : decode cX5_init 191 = .ok (.aload_n 0, 1) := by decide +kernel
theorem dX5_init_192 : decode cX5_init 192 = .ok (.getfield 16, 3) := by decide +kernel
theorem dX5_init_195 : decode cX5_init 195 = .ok (.bipush 6, 2) := by decide +kernel
theorem dX5_init_197 : decode cX5_init 197 = .ok (.sipush (-200), 3) := by decide +kernel
theorem dX5_init_200 : decode cX5_init 200 = .ok (.iastore, 1) := by decide +kernel
theorem dX5_init_201 : decode cX5_init 201 = .ok (.aload_n 0, 1) := by decide +kernel
theorem dX5_init_202 : decode cX5_init 202 = .ok (.getfield 16, 3) := by decide +kernel
theorem dX5_init_205 : decode cX5_init 205 = .ok (.bipush 7, 2) := by decide +kernel
theorem dX5_init_207 : decode cX5_init 207 = .ok (.sipush 300, 3) := by decide +kernel
theorem dX5_init_210 : decode cX5_init 210 = .ok (.iastore, 1) := by decide +kernel
theorem dX5_init_211 : decode cX5_init 211 = .ok (.aload_n 0, 1) := by decide +kernel
theorem dX5_init_212 : decode cX5_init 212 = .ok (.getfield 16, 3) := by decide +kernel
theorem dX5_init_215 : decode cX5_init 215 = .ok (.bipush 8, 2) := by decide +kernel
theorem dX5_init_217 : decode cX5_init 217 = .ok (.iconst 5, 1) := by decide +kernel
theorem dX5_init_218 : decode cX5_init 218 = .ok (.iastore, 1) := by decide +kernel
theorem dX5_init_219 : decode cX5_init 219 = .ok (.aload_n 0, 1) := by decide +kernel
theorem dX5_init_220 : decode cX5_init 220 = .ok (.getfield 16, 3) := by decide +kernel
theorem dX5_init_223 : decode cX5_init 223 = .ok (.bipush 9, 2) := by decide +kernel
theorem dX5_init_225 : decode cX5_init 225 = .ok (.bipush 20, 2) := by decide +kernel
theorem dX5_init_227 : decode cX5_init 227 = .ok (.iastore, 1) := by decide +kernel
theorem dX5_init_228 : decode cX5_init 228 = .ok (.aload_n 0, 1) := by decide +kernel
theorem dX5_init_229 : decode cX5_init 229 = .ok (.getfield 16, 3) := by decide +kernel
theorem dX5_init_232 : decode cX5_init 232 = .ok (.bipush 10, 2) := by decide +kernel
theorem dX5_init_234 : decode cX5_init 234 = .ok (.bipush 10, 2) := by decide +kernel
theorem dX5_init_236 : decode cX5_init 236 = .ok (.iastore, 1) := by decide +kernel
theorem dX5_init_237 : decode cX5_init 237 = .ok (.return_, 1) := by decide +kernel
theorem dX5_in_0 : decode cX5_in 0 = .ok (.lload_n 0, 1) := by decide +kernel
theorem dX5_in_1 : decode cX5_in 1 = .ok (.lload_n 2, 1) := by decide +kernel
theorem dX5_in_2 : decode cX5_in 2 = .ok (.lcmp, 1) := by decide +kernel
theorem dX5_in_3 : decode cX5_in 3 = .ok (.ifCond .lt 14, 3) := by decide +kernel
theorem dX5_in_6 : decode cX5_in 6 = .ok (.lload_n 0, 1) := by decide +kernel
theorem dX5_in_7 : decode cX5_in 7 = .ok (.lload 4, 2) := by decide +kernel
theorem dX5_in_9 : decode cX5_in 9 = .ok (.lcmp, 1) := by decide +kernel
theorem dX5_in_10 : decode cX5_in 10 = .ok (.ifCond .gt 7, 3) := by decide +kernel
theorem dX5_in_13 : decode cX5_in 13 = .ok (.iconst 1, 1) := by decide +kernel
theorem dX5_in_14 : decode cX5_in 14 = .ok (.goto 4, 3) := by decide +kernel
theorem dX5_in_17 : decode cX5_in 17 = .ok (.iconst 0, 1) := by decide +kernel
theorem dX5_in_18 : decode cX5_in 18 = .ok (.ireturn, 1) := by decide +kernel
theorem dX5_vials_0 : decode cX5_vials 0 = .ok (.aload_n 0, 1) := by decide +kernel
theorem dX5_vials_1 : decode cX5_vials 1 = .ok (.getfield 7, 3) := by decide +kernel
theorem dX5_vials_4 : decode cX5_vials 4 = .ok (.aload_n 0, 1) := by decide +kernel
theorem dX5_vials_5 : decode cX5_vials 5 = .ok (.getfield 13, 3) := by decide +kernel
theorem dX5_vials_8 : decode cX5_vials 8 = .ok (.imul, 1) := by decide +kernel
theorem dX5_vials_9 : decode cX5_vials 9 = .ok (.ireturn, 1) := by decide +kernel
theorem dX5_shelf_0 : decode cX5_shelf 0 = .ok (.iload_n 1, 1) := by decide +kernel
theorem dX5_shelf_1 : decode cX5_shelf 1 = .ok (.i2l, 1) := by decide +kernel
theorem dX5_shelf_2 : decode cX5_shelf 2 = .ok (.lconst 1, 1) := by decide +kernel
theorem dX5_shelf_3 : decode cX5_shelf 3 = .ok (.ldc2_w 68, 3) := by decide +kernel
theorem dX5_shelf_6 : decode cX5_shelf 6 = .ok (.invokestatic 70, 3) := by decide +kernel
theorem dX5_shelf_9 : decode cX5_shelf 9 = .ok (.ifCond .eq 15, 3) := by decide +kernel
theorem dX5_shelf_12 : decode cX5_shelf 12 = .ok (.iload_n 2, 1) := by decide +kernel
theorem dX5_shelf_13 : decode cX5_shelf 13 = .ok (.i2l, 1) := by decide +kernel
theorem dX5_shelf_14 : decode cX5_shelf 14 = .ok (.lconst 1, 1) := by decide +kernel
theorem dX5_shelf_15 : decode cX5_shelf 15 = .ok (.ldc2_w 74, 3) := by decide +kernel
theorem dX5_shelf_18 : decode cX5_shelf 18 = .ok (.invokestatic 70, 3) := by decide +kernel
theorem dX5_shelf_21 : decode cX5_shelf 21 = .ok (.ifCond .ne 6, 3) := by decide +kernel
theorem dX5_shelf_24 : decode cX5_shelf 24 = .ok (.bipush (-2), 2) := by decide +kernel
theorem dX5_shelf_26 : decode cX5_shelf 26 = .ok (.ireturn, 1) := by decide +kernel
theorem dX5_shelf_27 : decode cX5_shelf 27 = .ok (.aload_n 0, 1) := by decide +kernel
theorem dX5_shelf_28 : decode cX5_shelf 28 = .ok (.getfield 76, 3) := by decide +kernel
theorem dX5_shelf_31 : decode cX5_shelf 31 = .ok (.ifCond .eq 6, 3) := by decide +kernel
theorem dX5_shelf_34 : decode cX5_shelf 34 = .ok (.bipush (-3), 2) := by decide +kernel
theorem dX5_shelf_36 : decode cX5_shelf 36 = .ok (.ireturn, 1) := by decide +kernel
theorem dX5_shelf_37 : decode cX5_shelf 37 = .ok (.aload_n 0, 1) := by decide +kernel
theorem dX5_shelf_38 : decode cX5_shelf 38 = .ok (.iload_n 1, 1) := by decide +kernel
theorem dX5_shelf_39 : decode cX5_shelf 39 = .ok (.putfield 7, 3) := by decide +kernel
theorem dX5_shelf_42 : decode cX5_shelf 42 = .ok (.aload_n 0, 1) := by decide +kernel
theorem dX5_shelf_43 : decode cX5_shelf 43 = .ok (.iload_n 2, 1) := by decide +kernel
theorem dX5_shelf_44 : decode cX5_shelf 44 = .ok (.putfield 13, 3) := by decide +kernel
theorem dX5_shelf_47 : decode cX5_shelf 47 = .ok (.aload_n 0, 1) := by decide +kernel
theorem dX5_shelf_48 : decode cX5_shelf 48 = .ok (.invokevirtual 80, 3) := by decide +kernel
theorem dX5_shelf_51 : decode cX5_shelf 51 = .ok (.ireturn, 1) := by decide +kernel
theorem dX5_leastOf_0 : decode cX5_leastOf 0 = .ok (.iload_n 0, 1) := by decide +kernel
theorem dX5_leastOf_1 : decode cX5_leastOf 1 = .ok (.tableswitch 57 0 6 #[43, 57, 53, 57, 46, 55, 49], 43) := by decide +kernel
theorem dX5_leastOf_44 : decode cX5_leastOf 44 = .ok (.bipush 100, 2) := by decide +kernel
theorem dX5_leastOf_46 : decode cX5_leastOf 46 = .ok (.ireturn, 1) := by decide +kernel
theorem dX5_leastOf_47 : decode cX5_leastOf 47 = .ok (.bipush 10, 2) := by decide +kernel
theorem dX5_leastOf_49 : decode cX5_leastOf 49 = .ok (.ireturn, 1) := by decide +kernel
theorem dX5_leastOf_50 : decode cX5_leastOf 50 = .ok (.sipush (-600), 3) := by decide +kernel
theorem dX5_leastOf_53 : decode cX5_leastOf 53 = .ok (.ireturn, 1) := by decide +kernel
theorem dX5_leastOf_54 : decode cX5_leastOf 54 = .ok (.iconst 0, 1) := by decide +kernel
theorem dX5_leastOf_55 : decode cX5_leastOf 55 = .ok (.ireturn, 1) := by decide +kernel
theorem dX5_leastOf_56 : decode cX5_leastOf 56 = .ok (.iconst 0, 1) := by decide +kernel
theorem dX5_leastOf_57 : decode cX5_leastOf 57 = .ok (.ireturn, 1) := by decide +kernel
theorem dX5_leastOf_58 : decode cX5_leastOf 58 = .ok (.iconst 1, 1) := by decide +kernel
theorem dX5_leastOf_59 : decode cX5_leastOf 59 = .ok (.ireturn, 1) := by decide +kernel
theorem dX5_mostOf_0 : decode cX5_mostOf 0 = .ok (.iload_n 0, 1) := by decide +kernel
theorem dX5_mostOf_1 : decode cX5_mostOf 1 = .ok (.tableswitch 84 0 10 #[59, 84, 84, 84, 63, 84, 67, 69, 73, 76, 80], 59) := by decide +kernel
theorem dX5_mostOf_60 : decode cX5_mostOf 60 = .ok (.sipush 5000, 3) := by decide +kernel
theorem dX5_mostOf_63 : decode cX5_mostOf 63 = .ok (.ireturn, 1) := by decide +kernel
theorem dX5_mostOf_64 : decode cX5_mostOf 64 = .ok (.sipush 1000, 3) := by decide +kernel
theorem dX5_mostOf_67 : decode cX5_mostOf 67 = .ok (.ireturn, 1) := by decide +kernel
theorem dX5_mostOf_68 : decode cX5_mostOf 68 = .ok (.iconst 0, 1) := by decide +kernel
theorem dX5_mostOf_69 : decode cX5_mostOf 69 = .ok (.ireturn, 1) := by decide +kernel
theorem dX5_mostOf_70 : decode cX5_mostOf 70 = .ok (.sipush 10000, 3) := by decide +kernel
theorem dX5_mostOf_73 : decode cX5_mostOf 73 = .ok (.ireturn, 1) := by decide +kernel
theorem dX5_mostOf_74 : decode cX5_mostOf 74 = .ok (.bipush 100, 2) := by decide +kernel
theorem dX5_mostOf_76 : decode cX5_mostOf 76 = .ok (.ireturn, 1) := by decide +kernel
theorem dX5_mostOf_77 : decode cX5_mostOf 77 = .ok (.sipush 500, 3) := by decide +kernel
theorem dX5_mostOf_80 : decode cX5_mostOf 80 = .ok (.ireturn, 1) := by decide +kernel
theorem dX5_mostOf_81 : decode cX5_mostOf 81 = .ok (.sipush 1000, 3) := by decide +kernel
theorem dX5_mostOf_84 : decode cX5_mostOf 84 = .ok (.ireturn, 1) := by decide +kernel
theorem dX5_mostOf_85 : decode cX5_mostOf 85 = .ok (.bipush 50, 2) := by decide +kernel
theorem dX5_mostOf_87 : decode cX5_mostOf 87 = .ok (.ireturn, 1) := by decide +kernel
theorem dX5_rule_0 : decode cX5_rule 0 = .ok (.iload_n 1, 1) := by decide +kernel
theorem dX5_rule_1 : decode cX5_rule 1 = .ok (.i2l, 1) := by decide +kernel
theorem dX5_rule_2 : decode cX5_rule 2 = .ok (.lconst 0, 1) := by decide +kernel
theorem dX5_rule_3 : decode cX5_rule 3 = .ok (.ldc2_w 84, 3) := by decide +kernel
theorem dX5_rule_6 : decode cX5_rule 6 = .ok (.invokestatic 70, 3) := by decide +kernel
theorem dX5_rule_9 : decode cX5_rule 9 = .ok (.ifCond .ne 7, 3) := by decide +kernel
theorem dX5_rule_12 : decode cX5_rule 12 = .ok (.sipush (-10001), 3) := by decide +kernel
theorem dX5_rule_15 : decode cX5_rule 15 = .ok (.ireturn, 1) := by decide +kernel
theorem dX5_rule_16 : decode cX5_rule 16 = .ok (.iload_n 2, 1) := by decide +kernel
theorem dX5_rule_17 : decode cX5_rule 17 = .ok (.i2l, 1) := by decide +kernel
theorem dX5_rule_18 : decode cX5_rule 18 = .ok (.iload_n 1, 1) := by decide +kernel
theorem dX5_rule_19 : decode cX5_rule 19 = .ok (.invokestatic 86, 3) := by decide +kernel
theorem dX5_rule_22 : decode cX5_rule 22 = .ok (.i2l, 1) := by decide +kernel
theorem dX5_rule_23 : decode cX5_rule 23 = .ok (.iload_n 1, 1) := by decide +kernel
theorem dX5_rule_24 : decode cX5_rule 24 = .ok (.invokestatic 90, 3) := by decide +kernel
theorem dX5_rule_27 : decode cX5_rule 27 = .ok (.i2l, 1) := by decide +kernel
theorem dX5_rule_28 : decode cX5_rule 28 = .ok (.invokestatic 70, 3) := by decide +kernel
theorem dX5_rule_31 : decode cX5_rule 31 = .ok (.ifCond .ne 7, 3) := by decide +kernel
theorem dX5_rule_34 : decode cX5_rule 34 = .ok (.sipush (-10002), 3) := by decide +kernel
theorem dX5_rule_37 : decode cX5_rule 37 = .ok (.ireturn, 1) := by decide +kernel
theorem dX5_rule_38 : decode cX5_rule 38 = .ok (.aload_n 0, 1) := by decide +kernel
theorem dX5_rule_39 : decode cX5_rule 39 = .ok (.getfield 76, 3) := by decide +kernel
theorem dX5_rule_42 : decode cX5_rule 42 = .ok (.ifCond .eq 7, 3) := by decide +kernel
theorem dX5_rule_45 : decode cX5_rule 45 = .ok (.sipush (-10003), 3) := by decide +kernel
theorem dX5_rule_48 : decode cX5_rule 48 = .ok (.ireturn, 1) := by decide +kernel
theorem dX5_rule_49 : decode cX5_rule 49 = .ok (.aload_n 0, 1) := by decide +kernel
theorem dX5_rule_50 : decode cX5_rule 50 = .ok (.getfield 16, 3) := by decide +kernel
theorem dX5_rule_53 : decode cX5_rule 53 = .ok (.iload_n 1, 1) := by decide +kernel
theorem dX5_rule_54 : decode cX5_rule 54 = .ok (.iaload, 1) := by decide +kernel
theorem dX5_rule_55 : decode cX5_rule 55 = .ok (.istore_n 3, 1) := by decide +kernel
theorem dX5_rule_56 : decode cX5_rule 56 = .ok (.aload_n 0, 1) := by decide +kernel
theorem dX5_rule_57 : decode cX5_rule 57 = .ok (.getfield 16, 3) := by decide +kernel
theorem dX5_rule_60 : decode cX5_rule 60 = .ok (.iload_n 1, 1) := by decide +kernel
theorem dX5_rule_61 : decode cX5_rule 61 = .ok (.iload_n 2, 1) := by decide +kernel
theorem dX5_rule_62 : decode cX5_rule 62 = .ok (.iastore, 1) := by decide +kernel
theorem dX5_rule_63 : decode cX5_rule 63 = .ok (.iload_n 3, 1) := by decide +kernel
theorem dX5_rule_64 : decode cX5_rule 64 = .ok (.ireturn, 1) := by decide +kernel
theorem dX5_bend_0 : decode cX5_bend 0 = .ok (.iload_n 0, 1) := by decide +kernel
theorem dX5_bend_1 : decode cX5_bend 1 = .ok (.iconst 2, 1) := by decide +kernel
theorem dX5_bend_2 : decode cX5_bend 2 = .ok (.iadd, 1) := by decide +kernel
theorem dX5_bend_3 : decode cX5_bend 3 = .ok (.iload_n 0, 1) := by decide +kernel
theorem dX5_bend_4 : decode cX5_bend 4 = .ok (.iconst 2, 1) := by decide +kernel
theorem dX5_bend_5 : decode cX5_bend 5 = .ok (.iadd, 1) := by decide +kernel
theorem dX5_bend_6 : decode cX5_bend 6 = .ok (.imul, 1) := by decide +kernel
theorem dX5_bend_7 : decode cX5_bend 7 = .ok (.iload_n 0, 1) := by decide +kernel
theorem dX5_bend_8 : decode cX5_bend 8 = .ok (.iconst 2, 1) := by decide +kernel
theorem dX5_bend_9 : decode cX5_bend 9 = .ok (.iadd, 1) := by decide +kernel
theorem dX5_bend_10 : decode cX5_bend 10 = .ok (.imul, 1) := by decide +kernel
theorem dX5_bend_11 : decode cX5_bend 11 = .ok (.bipush 20, 2) := by decide +kernel
theorem dX5_bend_13 : decode cX5_bend 13 = .ok (.idiv, 1) := by decide +kernel
theorem dX5_bend_14 : decode cX5_bend 14 = .ok (.ireturn, 1) := by decide +kernel
theorem dX5_vapourAt_0 : decode cX5_vapourAt 0 = .ok (.iload_n 0, 1) := by decide +kernel
theorem dX5_vapourAt_1 : decode cX5_vapourAt 1 = .ok (.sipush (-600), 3) := by decide +kernel
theorem dX5_vapourAt_4 : decode cX5_vapourAt 4 = .ok (.isub, 1) := by decide +kernel
theorem dX5_vapourAt_5 : decode cX5_vapourAt 5 = .ok (.bipush 10, 2) := by decide +kernel
theorem dX5_vapourAt_7 : decode cX5_vapourAt 7 = .ok (.idiv, 1) := by decide +kernel
theorem dX5_vapourAt_8 : decode cX5_vapourAt 8 = .ok (.istore_n 1, 1) := by decide +kernel
theorem dX5_vapourAt_9 : decode cX5_vapourAt 9 = .ok (.iload_n 0, 1) := by decide +kernel
theorem dX5_vapourAt_10 : decode cX5_vapourAt 10 = .ok (.sipush (-600), 3) := by decide +kernel
theorem dX5_vapourAt_13 : decode cX5_vapourAt 13 = .ok (.isub, 1) := by decide +kernel
theorem dX5_vapourAt_14 : decode cX5_vapourAt 14 = .ok (.bipush 10, 2) := by decide +kernel
theorem dX5_vapourAt_16 : decode cX5_vapourAt 16 = .ok (.irem, 1) := by decide +kernel
theorem dX5_vapourAt_17 : decode cX5_vapourAt 17 = .ok (.istore_n 2, 1) := by decide +kernel
theorem dX5_vapourAt_18 : decode cX5_vapourAt 18 = .ok (.iload_n 1, 1) := by decide +kernel
theorem dX5_vapourAt_19 : decode cX5_vapourAt 19 = .ok (.invokestatic 93, 3) := by decide +kernel
theorem dX5_vapourAt_22 : decode cX5_vapourAt 22 = .ok (.bipush 10, 2) := by decide +kernel
theorem dX5_vapourAt_24 : decode cX5_vapourAt 24 = .ok (.iload_n 2, 1) := by decide +kernel
theorem dX5_vapourAt_25 : decode cX5_vapourAt 25 = .ok (.isub, 1) := by decide +kernel
theorem dX5_vapourAt_26 : decode cX5_vapourAt 26 = .ok (.imul, 1) := by decide +kernel
theorem dX5_vapourAt_27 : decode cX5_vapourAt 27 = .ok (.iload_n 1, 1) := by decide +kernel
theorem dX5_vapourAt_28 : decode cX5_vapourAt 28 = .ok (.iconst 1, 1) := by decide +kernel
theorem dX5_vapourAt_29 : decode cX5_vapourAt 29 = .ok (.iadd, 1) := by decide +kernel
theorem dX5_vapourAt_30 : decode cX5_vapourAt 30 = .ok (.invokestatic 93, 3) := by decide +kernel
theorem dX5_vapourAt_33 : decode cX5_vapourAt 33 = .ok (.iload_n 2, 1) := by decide +kernel
theorem dX5_vapourAt_34 : decode cX5_vapourAt 34 = .ok (.imul, 1) := by decide +kernel
theorem dX5_vapourAt_35 : decode cX5_vapourAt 35 = .ok (.iadd, 1) := by decide +kernel
theorem dX5_vapourAt_36 : decode cX5_vapourAt 36 = .ok (.bipush 10, 2) := by decide +kernel
theorem dX5_vapourAt_38 : decode cX5_vapourAt 38 = .ok (.idiv, 1) := by decide +kernel
theorem dX5_vapourAt_39 : decode cX5_vapourAt 39 = .ok (.ireturn, 1) := by decide +kernel
theorem dX5_vapour_0 : decode cX5_vapour 0 = .ok (.iload_n 1, 1) := by decide +kernel
theorem dX5_vapour_1 : decode cX5_vapour 1 = .ok (.i2l, 1) := by decide +kernel
theorem dX5_vapour_2 : decode cX5_vapour 2 = .ok (.ldc2_w 96, 3) := by decide +kernel
theorem dX5_vapour_5 : decode cX5_vapour 5 = .ok (.lconst 0, 1) := by decide +kernel
theorem dX5_vapour_6 : decode cX5_vapour 6 = .ok (.invokestatic 70, 3) := by decide +kernel
theorem dX5_vapour_9 : decode cX5_vapour 9 = .ok (.ifCond .eq 10, 3) := by decide +kernel
theorem dX5_vapour_12 : decode cX5_vapour 12 = .ok (.iload_n 1, 1) := by decide +kernel
theorem dX5_vapour_13 : decode cX5_vapour 13 = .ok (.invokestatic 98, 3) := by decide +kernel
theorem dX5_vapour_16 : decode cX5_vapour 16 = .ok (.goto 5, 3) := by decide +kernel
theorem dX5_vapour_19 : decode cX5_vapour 19 = .ok (.bipush (-2), 2) := by decide +kernel
theorem dX5_vapour_21 : decode cX5_vapour 21 = .ok (.ireturn, 1) := by decide +kernel
theorem dX5_steamAt_0 : decode cX5_steamAt 0 = .ok (.iload_n 1, 1) := by decide +kernel
theorem dX5_steamAt_1 : decode cX5_steamAt 1 = .ok (.invokestatic 98, 3) := by decide +kernel
theorem dX5_steamAt_4 : decode cX5_steamAt 4 = .ok (.iload_n 3, 1) := by decide +kernel
theorem dX5_steamAt_5 : decode cX5_steamAt 5 = .ok (.isub, 1) := by decide +kernel
theorem dX5_steamAt_6 : decode cX5_steamAt 6 = .ok (.istore 4, 2) := by decide +kernel
theorem dX5_steamAt_8 : decode cX5_steamAt 8 = .ok (.iload 4, 2) := by decide +kernel
theorem dX5_steamAt_10 : decode cX5_steamAt 10 = .ok (.ifCond .ge 7, 3) := by decide +kernel
theorem dX5_steamAt_13 : decode cX5_steamAt 13 = .ok (.iconst 0, 1) := by decide +kernel
theorem dX5_steamAt_14 : decode cX5_steamAt 14 = .ok (.goto 24, 3) := by decide +kernel
theorem dX5_steamAt_17 : decode cX5_steamAt 17 = .ok (.iload 4, 2) := by decide +kernel
theorem dX5_steamAt_19 : decode cX5_steamAt 19 = .ok (.bipush 10, 2) := by decide +kernel
theorem dX5_steamAt_21 : decode cX5_steamAt 21 = .ok (.imul, 1) := by decide +kernel
theorem dX5_steamAt_22 : decode cX5_steamAt 22 = .ok (.aload_n 0, 1) := by decide +kernel
theorem dX5_steamAt_23 : decode cX5_steamAt 23 = .ok (.getfield 16, 3) := by decide +kernel
theorem dX5_steamAt_26 : decode cX5_steamAt 26 = .ok (.iconst 4, 1) := by decide +kernel
theorem dX5_steamAt_27 : decode cX5_steamAt 27 = .ok (.iaload, 1) := by decide +kernel
theorem dX5_steamAt_28 : decode cX5_steamAt 28 = .ok (.aload_n 0, 1) := by decide +kernel
theorem dX5_steamAt_29 : decode cX5_steamAt 29 = .ok (.getfield 16, 3) := by decide +kernel
theorem dX5_steamAt_32 : decode cX5_steamAt 32 = .ok (.iconst 5, 1) := by decide +kernel
theorem dX5_steamAt_33 : decode cX5_steamAt 33 = .ok (.iaload, 1) := by decide +kernel
theorem dX5_steamAt_34 : decode cX5_steamAt 34 = .ok (.iload_n 2, 1) := by decide +kernel
theorem dX5_steamAt_35 : decode cX5_steamAt 35 = .ok (.imul, 1) := by decide +kernel
theorem dX5_steamAt_36 : decode cX5_steamAt 36 = .ok (.iadd, 1) := by decide +kernel
theorem dX5_steamAt_37 : decode cX5_steamAt 37 = .ok (.idiv, 1) := by decide +kernel
theorem dX5_steamAt_38 : decode cX5_steamAt 38 = .ok (.ireturn, 1) := by decide +kernel
theorem dX5_steam_0 : decode cX5_steam 0 = .ok (.iload_n 1, 1) := by decide +kernel
theorem dX5_steam_1 : decode cX5_steam 1 = .ok (.i2l, 1) := by decide +kernel
theorem dX5_steam_2 : decode cX5_steam 2 = .ok (.ldc2_w 96, 3) := by decide +kernel
theorem dX5_steam_5 : decode cX5_steam 5 = .ok (.lconst 0, 1) := by decide +kernel
theorem dX5_steam_6 : decode cX5_steam 6 = .ok (.invokestatic 70, 3) := by decide +kernel
theorem dX5_steam_9 : decode cX5_steam 9 = .ok (.ifCond .eq 37, 3) := by decide +kernel
theorem dX5_steam_12 : decode cX5_steam 12 = .ok (.iload_n 2, 1) := by decide +kernel
theorem dX5_steam_13 : decode cX5_steam 13 = .ok (.i2l, 1) := by decide +kernel
theorem dX5_steam_14 : decode cX5_steam 14 = .ok (.lconst 0, 1) := by decide +kernel
theorem dX5_steam_15 : decode cX5_steam 15 = .ok (.ldc2_w 101, 3) := by decide +kernel
theorem dX5_steam_18 : decode cX5_steam 18 = .ok (.invokestatic 70, 3) := by decide +kernel
theorem dX5_steam_21 : decode cX5_steam 21 = .ok (.ifCond .eq 25, 3) := by decide +kernel
theorem dX5_steam_24 : decode cX5_steam 24 = .ok (.iload_n 3, 1) := by decide +kernel
theorem dX5_steam_25 : decode cX5_steam 25 = .ok (.i2l, 1) := by decide +kernel
theorem dX5_steam_26 : decode cX5_steam 26 = .ok (.lconst 0, 1) := by decide +kernel
theorem dX5_steam_27 : decode cX5_steam 27 = .ok (.ldc2_w 103, 3) := by decide +kernel
theorem dX5_steam_30 : decode cX5_steam 30 = .ok (.invokestatic 70, 3) := by decide +kernel
theorem dX5_steam_33 : decode cX5_steam 33 = .ok (.ifCond .eq 13, 3) := by decide +kernel
theorem dX5_steam_36 : decode cX5_steam 36 = .ok (.aload_n 0, 1) := by decide +kernel
theorem dX5_steam_37 : decode cX5_steam 37 = .ok (.iload_n 1, 1) := by decide +kernel
theorem dX5_steam_38 : decode cX5_steam 38 = .ok (.iload_n 2, 1) := by decide +kernel
theorem dX5_steam_39 : decode cX5_steam 39 = .ok (.iload_n 3, 1) := by decide +kernel
theorem dX5_steam_40 : decode cX5_steam 40 = .ok (.invokevirtual 105, 3) := by decide +kernel
theorem dX5_steam_43 : decode cX5_steam 43 = .ok (.goto 5, 3) := by decide +kernel
theorem dX5_steam_46 : decode cX5_steam 46 = .ok (.bipush (-2), 2) := by decide +kernel
theorem dX5_steam_48 : decode cX5_steam 48 = .ok (.ireturn, 1) := by decide +kernel
theorem dX5_isRim_0 : decode cX5_isRim 0 = .ok (.iload_n 1, 1) := by decide +kernel
theorem dX5_isRim_1 : decode cX5_isRim 1 = .ok (.aload_n 0, 1) := by decide +kernel
theorem dX5_isRim_2 : decode cX5_isRim 2 = .ok (.getfield 13, 3) := by decide +kernel
theorem dX5_isRim_5 : decode cX5_isRim 5 = .ok (.idiv, 1) := by decide +kernel
theorem dX5_isRim_6 : decode cX5_isRim 6 = .ok (.istore_n 2, 1) := by decide +kernel
theorem dX5_isRim_7 : decode cX5_isRim 7 = .ok (.iload_n 1, 1) := by decide +kernel
theorem dX5_isRim_8 : decode cX5_isRim 8 = .ok (.aload_n 0, 1) := by decide +kernel
theorem dX5_isRim_9 : decode cX5_isRim 9 = .ok (.getfield 13, 3) := by decide +kernel
theorem dX5_isRim_12 : decode cX5_isRim 12 = .ok (.irem, 1) := by decide +kernel
theorem dX5_isRim_13 : decode cX5_isRim 13 = .ok (.istore_n 3, 1) := by decide +kernel
theorem dX5_isRim_14 : decode cX5_isRim 14 = .ok (.iload_n 2, 1) := by decide +kernel
theorem dX5_isRim_15 : decode cX5_isRim 15 = .ok (.ifCond .eq 27, 3) := by decide +kernel
theorem dX5_isRim_18 : decode cX5_isRim 18 = .ok (.iload_n 3, 1) := by decide +kernel
theorem dX5_isRim_19 : decode cX5_isRim 19 = .ok (.ifCond .eq 23, 3) := by decide +kernel
theorem dX5_isRim_22 : decode cX5_isRim 22 = .ok (.iload_n 2, 1) := by decide +kernel
theorem dX5_isRim_23 : decode cX5_isRim 23 = .ok (.aload_n 0, 1) := by decide +kernel
theorem dX5_isRim_24 : decode cX5_isRim 24 = .ok (.getfield 7, 3) := by decide +kernel
theorem dX5_isRim_27 : decode cX5_isRim 27 = .ok (.iconst 1, 1) := by decide +kernel
theorem dX5_isRim_28 : decode cX5_isRim 28 = .ok (.isub, 1) := by decide +kernel
theorem dX5_isRim_29 : decode cX5_isRim 29 = .ok (.if_icmp .eq 13, 3) := by decide +kernel
theorem dX5_isRim_32 : decode cX5_isRim 32 = .ok (.iload_n 3, 1) := by decide +kernel
theorem dX5_isRim_33 : decode cX5_isRim 33 = .ok (.aload_n 0, 1) := by decide +kernel
theorem dX5_isRim_34 : decode cX5_isRim 34 = .ok (.getfield 13, 3) := by decide +kernel
theorem dX5_isRim_37 : decode cX5_isRim 37 = .ok (.iconst 1, 1) := by decide +kernel
theorem dX5_isRim_38 : decode cX5_isRim 38 = .ok (.isub, 1) := by decide +kernel
theorem dX5_isRim_39 : decode cX5_isRim 39 = .ok (.if_icmp .ne 7, 3) := by decide +kernel
theorem dX5_isRim_42 : decode cX5_isRim 42 = .ok (.iconst 1, 1) := by decide +kernel
theorem dX5_isRim_43 : decode cX5_isRim 43 = .ok (.goto 4, 3) := by decide +kernel
theorem dX5_isRim_46 : decode cX5_isRim 46 = .ok (.iconst 0, 1) := by decide +kernel
theorem dX5_isRim_47 : decode cX5_isRim 47 = .ok (.ireturn, 1) := by decide +kernel
theorem dX5_rim_0 : decode cX5_rim 0 = .ok (.iload_n 1, 1) := by decide +kernel
theorem dX5_rim_1 : decode cX5_rim 1 = .ok (.i2l, 1) := by decide +kernel
theorem dX5_rim_2 : decode cX5_rim 2 = .ok (.lconst 0, 1) := by decide +kernel
theorem dX5_rim_3 : decode cX5_rim 3 = .ok (.aload_n 0, 1) := by decide +kernel
theorem dX5_rim_4 : decode cX5_rim 4 = .ok (.invokevirtual 80, 3) := by decide +kernel
theorem dX5_rim_7 : decode cX5_rim 7 = .ok (.iconst 1, 1) := by decide +kernel
theorem dX5_rim_8 : decode cX5_rim 8 = .ok (.isub, 1) := by decide +kernel
theorem dX5_rim_9 : decode cX5_rim 9 = .ok (.i2l, 1) := by decide +kernel
theorem dX5_rim_10 : decode cX5_rim 10 = .ok (.invokestatic 70, 3) := by decide +kernel
theorem dX5_rim_13 : decode cX5_rim 13 = .ok (.ifCond .ne 7, 3) := by decide +kernel
theorem dX5_rim_16 : decode cX5_rim 16 = .ok (.iconst (-1), 1) := by decide +kernel
theorem dX5_rim_17 : decode cX5_rim 17 = .ok (.goto 16, 3) := by decide +kernel
theorem dX5_rim_20 : decode cX5_rim 20 = .ok (.aload_n 0, 1) := by decide +kernel
theorem dX5_rim_21 : decode cX5_rim 21 = .ok (.iload_n 1, 1) := by decide +kernel
theorem dX5_rim_22 : decode cX5_rim 22 = .ok (.invokevirtual 109, 3) := by decide +kernel
theorem dX5_rim_25 : decode cX5_rim 25 = .ok (.ifCond .eq 7, 3) := by decide +kernel
theorem dX5_rim_28 : decode cX5_rim 28 = .ok (.iconst 1, 1) := by decide +kernel
theorem dX5_rim_29 : decode cX5_rim 29 = .ok (.goto 4, 3) := by decide +kernel
theorem dX5_rim_32 : decode cX5_rim 32 = .ok (.iconst 0, 1) := by decide +kernel
theorem dX5_rim_33 : decode cX5_rim 33 = .ok (.ireturn, 1) := by decide +kernel
theorem dX5_fill_0 : decode cX5_fill 0 = .ok (.bipush 24, 2) := by decide +kernel
theorem dX5_fill_2 : decode cX5_fill 2 = .ok (.iload_n 1, 1) := by decide +kernel
theorem dX5_fill_3 : decode cX5_fill 3 = .ok (.imul, 1) := by decide +kernel
theorem dX5_fill_4 : decode cX5_fill 4 = .ok (.istore_n 3, 1) := by decide +kernel
theorem dX5_fill_5 : decode cX5_fill 5 = .ok (.iload_n 3, 1) := by decide +kernel
theorem dX5_fill_6 : decode cX5_fill 6 = .ok (.bipush 24, 2) := by decide +kernel
theorem dX5_fill_8 : decode cX5_fill 8 = .ok (.iload_n 1, 1) := by decide +kernel
theorem dX5_fill_9 : decode cX5_fill 9 = .ok (.imul, 1) := by decide +kernel
theorem dX5_fill_10 : decode cX5_fill 10 = .ok (.bipush 24, 2) := by decide +kernel
theorem dX5_fill_12 : decode cX5_fill 12 = .ok (.iadd, 1) := by decide +kernel
theorem dX5_fill_13 : decode cX5_fill 13 = .ok (.if_icmp .ge 52, 3) := by decide +kernel
theorem dX5_fill_16 : decode cX5_fill 16 = .ok (.aload_n 0, 1) := by decide +kernel
theorem dX5_fill_17 : decode cX5_fill 17 = .ok (.getfield 26, 3) := by decide +kernel
theorem dX5_fill_20 : decode cX5_fill 20 = .ok (.iload_n 3, 1) := by decide +kernel
theorem dX5_fill_21 : decode cX5_fill 21 = .ok (.aload_n 0, 1) := by decide +kernel
theorem dX5_fill_22 : decode cX5_fill 22 = .ok (.getfield 16, 3) := by decide +kernel
theorem dX5_fill_25 : decode cX5_fill 25 = .ok (.iconst 0, 1) := by decide +kernel
theorem dX5_fill_26 : decode cX5_fill 26 = .ok (.iaload, 1) := by decide +kernel
theorem dX5_fill_27 : decode cX5_fill 27 = .ok (.iastore, 1) := by decide +kernel
theorem dX5_fill_28 : decode cX5_fill 28 = .ok (.aload_n 0, 1) := by decide +kernel
theorem dX5_fill_29 : decode cX5_fill 29 = .ok (.getfield 29, 3) := by decide +kernel
theorem dX5_fill_32 : decode cX5_fill 32 = .ok (.iload_n 3, 1) := by decide +kernel
theorem dX5_fill_33 : decode cX5_fill 33 = .ok (.bipush (-6), 2) := by decide +kernel
theorem dX5_fill_35 : decode cX5_fill 35 = .ok (.iastore, 1) := by decide +kernel
theorem dX5_fill_36 : decode cX5_fill 36 = .ok (.aload_n 0, 1) := by decide +kernel
theorem dX5_fill_37 : decode cX5_fill 37 = .ok (.getfield 32, 3) := by decide +kernel
theorem dX5_fill_40 : decode cX5_fill 40 = .ok (.iload_n 3, 1) := by decide +kernel
theorem dX5_fill_41 : decode cX5_fill 41 = .ok (.iconst 0, 1) := by decide +kernel
theorem dX5_fill_42 : decode cX5_fill 42 = .ok (.iastore, 1) := by decide +kernel
theorem dX5_fill_43 : decode cX5_fill 43 = .ok (.aload_n 0, 1) := by decide +kernel
theorem dX5_fill_44 : decode cX5_fill 44 = .ok (.getfield 35, 3) := by decide +kernel
theorem dX5_fill_47 : decode cX5_fill 47 = .ok (.iload_n 3, 1) := by decide +kernel
theorem dX5_fill_48 : decode cX5_fill 48 = .ok (.bipush (-6), 2) := by decide +kernel
theorem dX5_fill_50 : decode cX5_fill 50 = .ok (.iastore, 1) := by decide +kernel
theorem dX5_fill_51 : decode cX5_fill 51 = .ok (.aload_n 0, 1) := by decide +kernel
theorem dX5_fill_52 : decode cX5_fill 52 = .ok (.getfield 38, 3) := by decide +kernel
theorem dX5_fill_55 : decode cX5_fill 55 = .ok (.iload_n 3, 1) := by decide +kernel
theorem dX5_fill_56 : decode cX5_fill 56 = .ok (.bipush (-6), 2) := by decide +kernel
theorem dX5_fill_58 : decode cX5_fill 58 = .ok (.iastore, 1) := by decide +kernel
theorem dX5_fill_59 : decode cX5_fill 59 = .ok (.iinc 3 1, 3) := by decide +kernel
theorem dX5_fill_62 : decode cX5_fill 62 = .ok (.goto (-57), 3) := by decide +kernel
theorem dX5_fill_65 : decode cX5_fill 65 = .ok (.aload_n 0, 1) := by decide +kernel
theorem dX5_fill_66 : decode cX5_fill 66 = .ok (.getfield 41, 3) := by decide +kernel
theorem dX5_fill_69 : decode cX5_fill 69 = .ok (.iload_n 1, 1) := by decide +kernel
theorem dX5_fill_70 : decode cX5_fill 70 = .ok (.iconst 0, 1) := by decide +kernel
theorem dX5_fill_71 : decode cX5_fill 71 = .ok (.iastore, 1) := by decide +kernel
theorem dX5_fill_72 : decode cX5_fill 72 = .ok (.aload_n 0, 1) := by decide +kernel
theorem dX5_fill_73 : decode cX5_fill 73 = .ok (.getfield 44, 3) := by decide +kernel
theorem dX5_fill_76 : decode cX5_fill 76 = .ok (.iload_n 1, 1) := by decide +kernel
theorem dX5_fill_77 : decode cX5_fill 77 = .ok (.iload_n 2, 1) := by decide +kernel
theorem dX5_fill_78 : decode cX5_fill 78 = .ok (.iastore, 1) := by decide +kernel
theorem dX5_fill_79 : decode cX5_fill 79 = .ok (.aload_n 0, 1) := by decide +kernel
theorem dX5_fill_80 : decode cX5_fill 80 = .ok (.getfield 47, 3) := by decide +kernel
theorem dX5_fill_83 : decode cX5_fill 83 = .ok (.iload_n 1, 1) := by decide +kernel
theorem dX5_fill_84 : decode cX5_fill 84 = .ok (.iload_n 2, 1) := by decide +kernel
theorem dX5_fill_85 : decode cX5_fill 85 = .ok (.iastore, 1) := by decide +kernel
theorem dX5_fill_86 : decode cX5_fill 86 = .ok (.aload_n 0, 1) := by decide +kernel
theorem dX5_fill_87 : decode cX5_fill 87 = .ok (.getfield 50, 3) := by decide +kernel
theorem dX5_fill_90 : decode cX5_fill 90 = .ok (.iload_n 1, 1) := by decide +kernel
theorem dX5_fill_91 : decode cX5_fill 91 = .ok (.iconst 0, 1) := by decide +kernel
theorem dX5_fill_92 : decode cX5_fill 92 = .ok (.iastore, 1) := by decide +kernel
theorem dX5_fill_93 : decode cX5_fill 93 = .ok (.aload_n 0, 1) := by decide +kernel
theorem dX5_fill_94 : decode cX5_fill 94 = .ok (.getfield 53, 3) := by decide +kernel
theorem dX5_fill_97 : decode cX5_fill 97 = .ok (.iload_n 1, 1) := by decide +kernel
theorem dX5_fill_98 : decode cX5_fill 98 = .ok (.iconst 0, 1) := by decide +kernel
theorem dX5_fill_99 : decode cX5_fill 99 = .ok (.iastore, 1) := by decide +kernel
theorem dX5_fill_100 : decode cX5_fill 100 = .ok (.return_, 1) := by decide +kernel
theorem dX5_holds_0 : decode cX5_holds 0 = .ok (.bipush 100, 2) := by decide +kernel
theorem dX5_holds_2 : decode cX5_holds 2 = .ok (.aload_n 0, 1) := by decide +kernel
theorem dX5_holds_3 : decode cX5_holds 3 = .ok (.getfield 16, 3) := by decide +kernel
theorem dX5_holds_6 : decode cX5_holds 6 = .ok (.iconst 0, 1) := by decide +kernel
theorem dX5_holds_7 : decode cX5_holds 7 = .ok (.iaload, 1) := by decide +kernel
theorem dX5_holds_8 : decode cX5_holds 8 = .ok (.aload_n 0, 1) := by decide +kernel
theorem dX5_holds_9 : decode cX5_holds 9 = .ok (.getfield 26, 3) := by decide +kernel
theorem dX5_holds_12 : decode cX5_holds 12 = .ok (.bipush 24, 2) := by decide +kernel
theorem dX5_holds_14 : decode cX5_holds 14 = .ok (.iload_n 1, 1) := by decide +kernel
theorem dX5_holds_15 : decode cX5_holds 15 = .ok (.imul, 1) := by decide +kernel
theorem dX5_holds_16 : decode cX5_holds 16 = .ok (.iload_n 2, 1) := by decide +kernel
theorem dX5_holds_17 : decode cX5_holds 17 = .ok (.iadd, 1) := by decide +kernel
theorem dX5_holds_18 : decode cX5_holds 18 = .ok (.iaload, 1) := by decide +kernel
theorem dX5_holds_19 : decode cX5_holds 19 = .ok (.isub, 1) := by decide +kernel
theorem dX5_holds_20 : decode cX5_holds 20 = .ok (.imul, 1) := by decide +kernel
theorem dX5_holds_21 : decode cX5_holds 21 = .ok (.aload_n 0, 1) := by decide +kernel
theorem dX5_holds_22 : decode cX5_holds 22 = .ok (.getfield 16, 3) := by decide +kernel
theorem dX5_holds_25 : decode cX5_holds 25 = .ok (.iconst 0, 1) := by decide +kernel
theorem dX5_holds_26 : decode cX5_holds 26 = .ok (.iaload, 1) := by decide +kernel
theorem dX5_holds_27 : decode cX5_holds 27 = .ok (.idiv, 1) := by decide +kernel
theorem dX5_holds_28 : decode cX5_holds 28 = .ok (.istore 5, 2) := by decide +kernel
theorem dX5_holds_30 : decode cX5_holds 30 = .ok (.aload_n 0, 1) := by decide +kernel
theorem dX5_holds_31 : decode cX5_holds 31 = .ok (.getfield 16, 3) := by decide +kernel
theorem dX5_holds_34 : decode cX5_holds 34 = .ok (.iconst 1, 1) := by decide +kernel
theorem dX5_holds_35 : decode cX5_holds 35 = .ok (.iaload, 1) := by decide +kernel
theorem dX5_holds_36 : decode cX5_holds 36 = .ok (.aload_n 0, 1) := by decide +kernel
theorem dX5_holds_37 : decode cX5_holds 37 = .ok (.iload_n 2, 1) := by decide +kernel
theorem dX5_holds_38 : decode cX5_holds 38 = .ok (.invokevirtual 109, 3) := by decide +kernel
theorem dX5_holds_41 : decode cX5_holds 41 = .ok (.ifCond .eq 12, 3) := by decide +kernel
theorem dX5_holds_44 : decode cX5_holds 44 = .ok (.aload_n 0, 1) := by decide +kernel
theorem dX5_holds_45 : decode cX5_holds 45 = .ok (.getfield 16, 3) := by decide +kernel
theorem dX5_holds_48 : decode cX5_holds 48 = .ok (.iconst 2, 1) := by decide +kernel
theorem dX5_holds_49 : decode cX5_holds 49 = .ok (.iaload, 1) := by decide +kernel
theorem dX5_holds_50 : decode cX5_holds 50 = .ok (.goto 4, 3) := by decide +kernel
theorem dX5_holds_53 : decode cX5_holds 53 = .ok (.iconst 0, 1) := by decide +kernel
theorem dX5_holds_54 : decode cX5_holds 54 = .ok (.iadd, 1) := by decide +kernel
theorem dX5_holds_55 : decode cX5_holds 55 = .ok (.istore 6, 2) := by decide +kernel
theorem dX5_holds_57 : decode cX5_holds 57 = .ok (.aload_n 0, 1) := by decide +kernel
theorem dX5_holds_58 : decode cX5_holds 58 = .ok (.iload_n 3, 1) := by decide +kernel
theorem dX5_holds_59 : decode cX5_holds 59 = .ok (.iload 5, 2) := by decide +kernel
theorem dX5_holds_61 : decode cX5_holds 61 = .ok (.aload_n 0, 1) := by decide +kernel
theorem dX5_holds_62 : decode cX5_holds 62 = .ok (.getfield 44, 3) := by decide +kernel
theorem dX5_holds_65 : decode cX5_holds 65 = .ok (.iload_n 1, 1) := by decide +kernel
theorem dX5_holds_66 : decode cX5_holds 66 = .ok (.iaload, 1) := by decide +kernel
theorem dX5_holds_67 : decode cX5_holds 67 = .ok (.invokevirtual 105, 3) := by decide +kernel
theorem dX5_holds_70 : decode cX5_holds 70 = .ok (.aload_n 0, 1) := by decide +kernel
theorem dX5_holds_71 : decode cX5_holds 71 = .ok (.getfield 16, 3) := by decide +kernel
theorem dX5_holds_74 : decode cX5_holds 74 = .ok (.iconst 3, 1) := by decide +kernel
theorem dX5_holds_75 : decode cX5_holds 75 = .ok (.iaload, 1) := by decide +kernel
theorem dX5_holds_76 : decode cX5_holds 76 = .ok (.imul, 1) := by decide +kernel
theorem dX5_holds_77 : decode cX5_holds 77 = .ok (.iload 6, 2) := by decide +kernel
theorem dX5_holds_79 : decode cX5_holds 79 = .ok (.iload 4, 2) := by decide +kernel
theorem dX5_holds_81 : decode cX5_holds 81 = .ok (.iload_n 3, 1) := by decide +kernel
theorem dX5_holds_82 : decode cX5_holds 82 = .ok (.isub, 1) := by decide +kernel
theorem dX5_holds_83 : decode cX5_holds 83 = .ok (.imul, 1) := by decide +kernel
theorem dX5_holds_84 : decode cX5_holds 84 = .ok (.bipush 10, 2) := by decide +kernel
theorem dX5_holds_86 : decode cX5_holds 86 = .ok (.idiv, 1) := by decide +kernel
theorem dX5_holds_87 : decode cX5_holds 87 = .ok (.if_icmp .gt 7, 3) := by decide +kernel
theorem dX5_holds_90 : decode cX5_holds 90 = .ok (.iconst 1, 1) := by decide +kernel
theorem dX5_holds_91 : decode cX5_holds 91 = .ok (.goto 4, 3) := by decide +kernel
theorem dX5_holds_94 : decode cX5_holds 94 = .ok (.iconst 0, 1) := by decide +kernel
theorem dX5_holds_95 : decode cX5_holds 95 = .ok (.ireturn, 1) := by decide +kernel
theorem dX5_warmthOf_0 : decode cX5_warmthOf 0 = .ok (.sipush (-600), 3) := by decide +kernel
theorem dX5_warmthOf_3 : decode cX5_warmthOf 3 = .ok (.istore 4, 2) := by decide +kernel
theorem dX5_warmthOf_5 : decode cX5_warmthOf 5 = .ok (.iconst 0, 1) := by decide +kernel
theorem dX5_warmthOf_6 : decode cX5_warmthOf 6 = .ok (.istore 5, 2) := by decide +kernel
theorem dX5_warmthOf_8 : decode cX5_warmthOf 8 = .ok (.iload 4, 2) := by decide +kernel
theorem dX5_warmthOf_10 : decode cX5_warmthOf 10 = .ok (.iload 5, 2) := by decide +kernel
theorem dX5_warmthOf_12 : decode cX5_warmthOf 12 = .ok (.if_icmp .ge 45, 3) := by decide +kernel
theorem dX5_warmthOf_15 : decode cX5_warmthOf 15 = .ok (.iload 4, 2) := by decide +kernel
theorem dX5_warmthOf_17 : decode cX5_warmthOf 17 = .ok (.iload 5, 2) := by decide +kernel
theorem dX5_warmthOf_19 : decode cX5_warmthOf 19 = .ok (.iload 4, 2) := by decide +kernel
theorem dX5_warmthOf_21 : decode cX5_warmthOf 21 = .ok (.isub, 1) := by decide +kernel
theorem dX5_warmthOf_22 : decode cX5_warmthOf 22 = .ok (.iconst 1, 1) := by decide +kernel
theorem dX5_warmthOf_23 : decode cX5_warmthOf 23 = .ok (.iadd, 1) := by decide +kernel
theorem dX5_warmthOf_24 : decode cX5_warmthOf 24 = .ok (.iconst 2, 1) := by decide +kernel
theorem dX5_warmthOf_25 : decode cX5_warmthOf 25 = .ok (.idiv, 1) := by decide +kernel
theorem dX5_warmthOf_26 : decode cX5_warmthOf 26 = .ok (.iadd, 1) := by decide +kernel
theorem dX5_warmthOf_27 : decode cX5_warmthOf 27 = .ok (.istore 6, 2) := by decide +kernel
theorem dX5_warmthOf_29 : decode cX5_warmthOf 29 = .ok (.aload_n 0, 1) := by decide +kernel
theorem dX5_warmthOf_30 : decode cX5_warmthOf 30 = .ok (.iload_n 1, 1) := by decide +kernel
theorem dX5_warmthOf_31 : decode cX5_warmthOf 31 = .ok (.iload_n 2, 1) := by decide +kernel
theorem dX5_warmthOf_32 : decode cX5_warmthOf 32 = .ok (.iload 6, 2) := by decide +kernel
theorem dX5_warmthOf_34 : decode cX5_warmthOf 34 = .ok (.iload_n 3, 1) := by decide +kernel
theorem dX5_warmthOf_35 : decode cX5_warmthOf 35 = .ok (.invokevirtual 113, 3) := by decide +kernel
theorem dX5_warmthOf_38 : decode cX5_warmthOf 38 = .ok (.ifCond .eq 10, 3) := by decide +kernel
theorem dX5_warmthOf_41 : decode cX5_warmthOf 41 = .ok (.iload 6, 2) := by decide +kernel
theorem dX5_warmthOf_43 : decode cX5_warmthOf 43 = .ok (.istore 4, 2) := by decide +kernel
theorem dX5_warmthOf_45 : decode cX5_warmthOf 45 = .ok (.goto 9, 3) := by decide +kernel
theorem dX5_warmthOf_48 : decode cX5_warmthOf 48 = .ok (.iload 6, 2) := by decide +kernel
theorem dX5_warmthOf_50 : decode cX5_warmthOf 50 = .ok (.iconst 1, 1) := by decide +kernel
theorem dX5_warmthOf_51 : decode cX5_warmthOf 51 = .ok (.isub, 1) := by decide +kernel
theorem dX5_warmthOf_52 : decode cX5_warmthOf 52 = .ok (.istore 5, 2) := by decide +kernel
theorem dX5_warmthOf_54 : decode cX5_warmthOf 54 = .ok (.goto (-46), 3) := by decide +kernel
theorem dX5_warmthOf_57 : decode cX5_warmthOf 57 = .ok (.iload 4, 2) := by decide +kernel
theorem dX5_warmthOf_59 : decode cX5_warmthOf 59 = .ok (.ireturn, 1) := by decide +kernel
theorem dX5_goOn_0 : decode cX5_goOn 0 = .ok (.iconst 0, 1) := by decide +kernel
theorem dX5_goOn_1 : decode cX5_goOn 1 = .ok (.istore 4, 2) := by decide +kernel
theorem dX5_goOn_3 : decode cX5_goOn 3 = .ok (.iconst 0, 1) := by decide +kernel
theorem dX5_goOn_4 : decode cX5_goOn 4 = .ok (.istore 5, 2) := by decide +kernel
theorem dX5_goOn_6 : decode cX5_goOn 6 = .ok (.iload 5, 2) := by decide +kernel
theorem dX5_goOn_8 : decode cX5_goOn 8 = .ok (.aload_n 0, 1) := by decide +kernel
theorem dX5_goOn_9 : decode cX5_goOn 9 = .ok (.invokevirtual 80, 3) := by decide +kernel
theorem dX5_goOn_12 : decode cX5_goOn 12 = .ok (.if_icmp .ge 240, 3) := by decide +kernel
theorem dX5_goOn_15 : decode cX5_goOn 15 = .ok (.bipush 24, 2) := by decide +kernel
theorem dX5_goOn_17 : decode cX5_goOn 17 = .ok (.iload_n 1, 1) := by decide +kernel
theorem dX5_goOn_18 : decode cX5_goOn 18 = .ok (.imul, 1) := by decide +kernel
theorem dX5_goOn_19 : decode cX5_goOn 19 = .ok (.iload 5, 2) := by decide +kernel
theorem dX5_goOn_21 : decode cX5_goOn 21 = .ok (.iadd, 1) := by decide +kernel
theorem dX5_goOn_22 : decode cX5_goOn 22 = .ok (.istore 6, 2) := by decide +kernel
theorem dX5_goOn_24 : decode cX5_goOn 24 = .ok (.aload_n 0, 1) := by decide +kernel
theorem dX5_goOn_25 : decode cX5_goOn 25 = .ok (.getfield 26, 3) := by decide +kernel
theorem dX5_goOn_28 : decode cX5_goOn 28 = .ok (.iload 6, 2) := by decide +kernel
theorem dX5_goOn_30 : decode cX5_goOn 30 = .ok (.iaload, 1) := by decide +kernel
theorem dX5_goOn_31 : decode cX5_goOn 31 = .ok (.ifCond .ne 22, 3) := by decide +kernel
theorem dX5_goOn_34 : decode cX5_goOn 34 = .ok (.aload_n 0, 1) := by decide +kernel
theorem dX5_goOn_35 : decode cX5_goOn 35 = .ok (.getfield 29, 3) := by decide +kernel
theorem dX5_goOn_38 : decode cX5_goOn 38 = .ok (.iload 6, 2) := by decide +kernel
theorem dX5_goOn_40 : decode cX5_goOn 40 = .ok (.iload_n 2, 1) := by decide +kernel
theorem dX5_goOn_41 : decode cX5_goOn 41 = .ok (.iastore, 1) := by decide +kernel
theorem dX5_goOn_42 : decode cX5_goOn 42 = .ok (.aload_n 0, 1) := by decide +kernel
theorem dX5_goOn_43 : decode cX5_goOn 43 = .ok (.getfield 32, 3) := by decide +kernel
theorem dX5_goOn_46 : decode cX5_goOn 46 = .ok (.iload 6, 2) := by decide +kernel
theorem dX5_goOn_48 : decode cX5_goOn 48 = .ok (.iconst 0, 1) := by decide +kernel
theorem dX5_goOn_49 : decode cX5_goOn 49 = .ok (.iastore, 1) := by decide +kernel
theorem dX5_goOn_50 : decode cX5_goOn 50 = .ok (.goto 196, 3) := by decide +kernel
theorem dX5_goOn_53 : decode cX5_goOn 53 = .ok (.aload_n 0, 1) := by decide +kernel
theorem dX5_goOn_54 : decode cX5_goOn 54 = .ok (.iload_n 1, 1) := by decide +kernel
theorem dX5_goOn_55 : decode cX5_goOn 55 = .ok (.iload 5, 2) := by decide +kernel
theorem dX5_goOn_57 : decode cX5_goOn 57 = .ok (.iload_n 2, 1) := by decide +kernel
theorem dX5_goOn_58 : decode cX5_goOn 58 = .ok (.invokevirtual 117, 3) := by decide +kernel
theorem dX5_goOn_61 : decode cX5_goOn 61 = .ok (.istore 7, 2) := by decide +kernel
theorem dX5_goOn_63 : decode cX5_goOn 63 = .ok (.bipush 100, 2) := by decide +kernel
theorem dX5_goOn_65 : decode cX5_goOn 65 = .ok (.aload_n 0, 1) := by decide +kernel
theorem dX5_goOn_66 : decode cX5_goOn 66 = .ok (.getfield 16, 3) := by decide +kernel
theorem dX5_goOn_69 : decode cX5_goOn 69 = .ok (.iconst 0, 1) := by decide +kernel
theorem dX5_goOn_70 : decode cX5_goOn 70 = .ok (.iaload, 1) := by decide +kernel
theorem dX5_goOn_71 : decode cX5_goOn 71 = .ok (.aload_n 0, 1) := by decide +kernel
theorem dX5_goOn_72 : decode cX5_goOn 72 = .ok (.getfield 26, 3) := by decide +kernel
theorem dX5_goOn_75 : decode cX5_goOn 75 = .ok (.iload 6, 2) := by decide +kernel
theorem dX5_goOn_77 : decode cX5_goOn 77 = .ok (.iaload, 1) := by decide +kernel
theorem dX5_goOn_78 : decode cX5_goOn 78 = .ok (.isub, 1) := by decide +kernel
theorem dX5_goOn_79 : decode cX5_goOn 79 = .ok (.imul, 1) := by decide +kernel
theorem dX5_goOn_80 : decode cX5_goOn 80 = .ok (.aload_n 0, 1) := by decide +kernel
theorem dX5_goOn_81 : decode cX5_goOn 81 = .ok (.getfield 16, 3) := by decide +kernel
theorem dX5_goOn_84 : decode cX5_goOn 84 = .ok (.iconst 0, 1) := by decide +kernel
theorem dX5_goOn_85 : decode cX5_goOn 85 = .ok (.iaload, 1) := by decide +kernel
theorem dX5_goOn_86 : decode cX5_goOn 86 = .ok (.idiv, 1) := by decide +kernel
theorem dX5_goOn_87 : decode cX5_goOn 87 = .ok (.istore 8, 2) := by decide +kernel
theorem dX5_goOn_89 : decode cX5_goOn 89 = .ok (.aload_n 0, 1) := by decide +kernel
theorem dX5_goOn_90 : decode cX5_goOn 90 = .ok (.iload 7, 2) := by decide +kernel
theorem dX5_goOn_92 : decode cX5_goOn 92 = .ok (.iload 8, 2) := by decide +kernel
theorem dX5_goOn_94 : decode cX5_goOn 94 = .ok (.aload_n 0, 1) := by decide +kernel
theorem dX5_goOn_95 : decode cX5_goOn 95 = .ok (.getfield 44, 3) := by decide +kernel
theorem dX5_goOn_98 : decode cX5_goOn 98 = .ok (.iload_n 1, 1) := by decide +kernel
theorem dX5_goOn_99 : decode cX5_goOn 99 = .ok (.iaload, 1) := by decide +kernel
theorem dX5_goOn_100 : decode cX5_goOn 100 = .ok (.invokevirtual 105, 3) := by decide +kernel
theorem dX5_goOn_103 : decode cX5_goOn 103 = .ok (.istore 9, 2) := by decide +kernel
theorem dX5_goOn_105 : decode cX5_goOn 105 = .ok (.iload 9, 2) := by decide +kernel
theorem dX5_goOn_107 : decode cX5_goOn 107 = .ok (.aload_n 0, 1) := by decide +kernel
theorem dX5_goOn_108 : decode cX5_goOn 108 = .ok (.getfield 26, 3) := by decide +kernel
theorem dX5_goOn_111 : decode cX5_goOn 111 = .ok (.iload 6, 2) := by decide +kernel
theorem dX5_goOn_113 : decode cX5_goOn 113 = .ok (.iaload, 1) := by decide +kernel
theorem dX5_goOn_114 : decode cX5_goOn 114 = .ok (.if_icmp .ge 8, 3) := by decide +kernel
theorem dX5_goOn_117 : decode cX5_goOn 117 = .ok (.iload 9, 2) := by decide +kernel
theorem dX5_goOn_119 : decode cX5_goOn 119 = .ok (.goto 10, 3) := by decide +kernel
theorem dX5_goOn_122 : decode cX5_goOn 122 = .ok (.aload_n 0, 1) := by decide +kernel
theorem dX5_goOn_123 : decode cX5_goOn 123 = .ok (.getfield 26, 3) := by decide +kernel
theorem dX5_goOn_126 : decode cX5_goOn 126 = .ok (.iload 6, 2) := by decide +kernel
theorem dX5_goOn_128 : decode cX5_goOn 128 = .ok (.iaload, 1) := by decide +kernel
theorem dX5_goOn_129 : decode cX5_goOn 129 = .ok (.istore 9, 2) := by decide +kernel
theorem dX5_goOn_131 : decode cX5_goOn 131 = .ok (.aload_n 0, 1) := by decide +kernel
theorem dX5_goOn_132 : decode cX5_goOn 132 = .ok (.getfield 29, 3) := by decide +kernel
theorem dX5_goOn_135 : decode cX5_goOn 135 = .ok (.iload 6, 2) := by decide +kernel
theorem dX5_goOn_137 : decode cX5_goOn 137 = .ok (.iload 7, 2) := by decide +kernel
theorem dX5_goOn_139 : decode cX5_goOn 139 = .ok (.iastore, 1) := by decide +kernel
theorem dX5_goOn_140 : decode cX5_goOn 140 = .ok (.aload_n 0, 1) := by decide +kernel
theorem dX5_goOn_141 : decode cX5_goOn 141 = .ok (.getfield 32, 3) := by decide +kernel
theorem dX5_goOn_144 : decode cX5_goOn 144 = .ok (.iload 6, 2) := by decide +kernel
theorem dX5_goOn_146 : decode cX5_goOn 146 = .ok (.iload 9, 2) := by decide +kernel
theorem dX5_goOn_148 : decode cX5_goOn 148 = .ok (.iastore, 1) := by decide +kernel
theorem dX5_goOn_149 : decode cX5_goOn 149 = .ok (.aload_n 0, 1) := by decide +kernel
theorem dX5_goOn_150 : decode cX5_goOn 150 = .ok (.getfield 26, 3) := by decide +kernel
theorem dX5_goOn_153 : decode cX5_goOn 153 = .ok (.iload 6, 2) := by decide +kernel
theorem dX5_goOn_155 : decode cX5_goOn 155 = .ok (.dup2, 1) := by decide +kernel
theorem dX5_goOn_156 : decode cX5_goOn 156 = .ok (.iaload, 1) := by decide +kernel
theorem dX5_goOn_157 : decode cX5_goOn 157 = .ok (.iload 9, 2) := by decide +kernel
theorem dX5_goOn_159 : decode cX5_goOn 159 = .ok (.isub, 1) := by decide +kernel
theorem dX5_goOn_160 : decode cX5_goOn 160 = .ok (.iastore, 1) := by decide +kernel
theorem dX5_goOn_161 : decode cX5_goOn 161 = .ok (.iload 4, 2) := by decide +kernel
theorem dX5_goOn_163 : decode cX5_goOn 163 = .ok (.iload 9, 2) := by decide +kernel
theorem dX5_goOn_165 : decode cX5_goOn 165 = .ok (.iadd, 1) := by decide +kernel
theorem dX5_goOn_166 : decode cX5_goOn 166 = .ok (.istore 4, 2) := by decide +kernel
theorem dX5_goOn_168 : decode cX5_goOn 168 = .ok (.aload_n 0, 1) := by decide +kernel
theorem dX5_goOn_169 : decode cX5_goOn 169 = .ok (.getfield 35, 3) := by decide +kernel
theorem dX5_goOn_172 : decode cX5_goOn 172 = .ok (.iload 6, 2) := by decide +kernel
theorem dX5_goOn_174 : decode cX5_goOn 174 = .ok (.iload 7, 2) := by decide +kernel
theorem dX5_goOn_176 : decode cX5_goOn 176 = .ok (.aload_n 0, 1) := by decide +kernel
theorem dX5_goOn_177 : decode cX5_goOn 177 = .ok (.getfield 16, 3) := by decide +kernel
theorem dX5_goOn_180 : decode cX5_goOn 180 = .ok (.bipush 6, 2) := by decide +kernel
theorem dX5_goOn_182 : decode cX5_goOn 182 = .ok (.iaload, 1) := by decide +kernel
theorem dX5_goOn_183 : decode cX5_goOn 183 = .ok (.if_icmp .le 22, 3) := by decide +kernel
theorem dX5_goOn_186 : decode cX5_goOn 186 = .ok (.aload_n 0, 1) := by decide +kernel
theorem dX5_goOn_187 : decode cX5_goOn 187 = .ok (.getfield 35, 3) := by decide +kernel
theorem dX5_goOn_190 : decode cX5_goOn 190 = .ok (.iload 6, 2) := by decide +kernel
theorem dX5_goOn_192 : decode cX5_goOn 192 = .ok (.iaload, 1) := by decide +kernel
theorem dX5_goOn_193 : decode cX5_goOn 193 = .ok (.ifCond .ge 12, 3) := by decide +kernel
theorem dX5_goOn_196 : decode cX5_goOn 196 = .ok (.aload_n 0, 1) := by decide +kernel
theorem dX5_goOn_197 : decode cX5_goOn 197 = .ok (.getfield 41, 3) := by decide +kernel
theorem dX5_goOn_200 : decode cX5_goOn 200 = .ok (.iload_n 1, 1) := by decide +kernel
theorem dX5_goOn_201 : decode cX5_goOn 201 = .ok (.iaload, 1) := by decide +kernel
theorem dX5_goOn_202 : decode cX5_goOn 202 = .ok (.goto 10, 3) := by decide +kernel
theorem dX5_goOn_205 : decode cX5_goOn 205 = .ok (.aload_n 0, 1) := by decide +kernel
theorem dX5_goOn_206 : decode cX5_goOn 206 = .ok (.getfield 35, 3) := by decide +kernel
theorem dX5_goOn_209 : decode cX5_goOn 209 = .ok (.iload 6, 2) := by decide +kernel
theorem dX5_goOn_211 : decode cX5_goOn 211 = .ok (.iaload, 1) := by decide +kernel
theorem dX5_goOn_212 : decode cX5_goOn 212 = .ok (.iastore, 1) := by decide +kernel
theorem dX5_goOn_213 : decode cX5_goOn 213 = .ok (.aload_n 0, 1) := by decide +kernel
theorem dX5_goOn_214 : decode cX5_goOn 214 = .ok (.getfield 38, 3) := by decide +kernel
theorem dX5_goOn_217 : decode cX5_goOn 217 = .ok (.iload 6, 2) := by decide +kernel
theorem dX5_goOn_219 : decode cX5_goOn 219 = .ok (.aload_n 0, 1) := by decide +kernel
theorem dX5_goOn_220 : decode cX5_goOn 220 = .ok (.getfield 26, 3) := by decide +kernel
theorem dX5_goOn_223 : decode cX5_goOn 223 = .ok (.iload 6, 2) := by decide +kernel
theorem dX5_goOn_225 : decode cX5_goOn 225 = .ok (.iaload, 1) := by decide +kernel
theorem dX5_goOn_226 : decode cX5_goOn 226 = .ok (.ifCond .ne 12, 3) := by decide +kernel
theorem dX5_goOn_229 : decode cX5_goOn 229 = .ok (.aload_n 0, 1) := by decide +kernel
theorem dX5_goOn_230 : decode cX5_goOn 230 = .ok (.getfield 41, 3) := by decide +kernel
theorem dX5_goOn_233 : decode cX5_goOn 233 = .ok (.iload_n 1, 1) := by decide +kernel
theorem dX5_goOn_234 : decode cX5_goOn 234 = .ok (.iaload, 1) := by decide +kernel
theorem dX5_goOn_235 : decode cX5_goOn 235 = .ok (.goto 10, 3) := by decide +kernel
theorem dX5_goOn_238 : decode cX5_goOn 238 = .ok (.aload_n 0, 1) := by decide +kernel
theorem dX5_goOn_239 : decode cX5_goOn 239 = .ok (.getfield 38, 3) := by decide +kernel
theorem dX5_goOn_242 : decode cX5_goOn 242 = .ok (.iload 6, 2) := by decide +kernel
theorem dX5_goOn_244 : decode cX5_goOn 244 = .ok (.iaload, 1) := by decide +kernel
theorem dX5_goOn_245 : decode cX5_goOn 245 = .ok (.iastore, 1) := by decide +kernel
theorem dX5_goOn_246 : decode cX5_goOn 246 = .ok (.iinc 5 1, 3) := by decide +kernel
theorem dX5_goOn_249 : decode cX5_goOn 249 = .ok (.goto (-243), 3) := by decide +kernel
theorem dX5_goOn_252 : decode cX5_goOn 252 = .ok (.aload_n 0, 1) := by decide +kernel
theorem dX5_goOn_253 : decode cX5_goOn 253 = .ok (.getfield 50, 3) := by decide +kernel
theorem dX5_goOn_256 : decode cX5_goOn 256 = .ok (.iload_n 1, 1) := by decide +kernel
theorem dX5_goOn_257 : decode cX5_goOn 257 = .ok (.iload 4, 2) := by decide +kernel
theorem dX5_goOn_259 : decode cX5_goOn 259 = .ok (.iastore, 1) := by decide +kernel
theorem dX5_goOn_260 : decode cX5_goOn 260 = .ok (.aload_n 0, 1) := by decide +kernel
theorem dX5_goOn_261 : decode cX5_goOn 261 = .ok (.getfield 53, 3) := by decide +kernel
theorem dX5_goOn_264 : decode cX5_goOn 264 = .ok (.iload_n 1, 1) := by decide +kernel
theorem dX5_goOn_265 : decode cX5_goOn 265 = .ok (.dup2, 1) := by decide +kernel
theorem dX5_goOn_266 : decode cX5_goOn 266 = .ok (.iaload, 1) := by decide +kernel
theorem dX5_goOn_267 : decode cX5_goOn 267 = .ok (.iload 4, 2) := by decide +kernel
theorem dX5_goOn_269 : decode cX5_goOn 269 = .ok (.iadd, 1) := by decide +kernel
theorem dX5_goOn_270 : decode cX5_goOn 270 = .ok (.iastore, 1) := by decide +kernel
theorem dX5_goOn_271 : decode cX5_goOn 271 = .ok (.aload_n 0, 1) := by decide +kernel
theorem dX5_goOn_272 : decode cX5_goOn 272 = .ok (.getfield 44, 3) := by decide +kernel
theorem dX5_goOn_275 : decode cX5_goOn 275 = .ok (.iload_n 1, 1) := by decide +kernel
theorem dX5_goOn_276 : decode cX5_goOn 276 = .ok (.iaload, 1) := by decide +kernel
theorem dX5_goOn_277 : decode cX5_goOn 277 = .ok (.istore 5, 2) := by decide +kernel
theorem dX5_goOn_279 : decode cX5_goOn 279 = .ok (.iload 4, 2) := by decide +kernel
theorem dX5_goOn_281 : decode cX5_goOn 281 = .ok (.aload_n 0, 1) := by decide +kernel
theorem dX5_goOn_282 : decode cX5_goOn 282 = .ok (.getfield 16, 3) := by decide +kernel
theorem dX5_goOn_285 : decode cX5_goOn 285 = .ok (.bipush 7, 2) := by decide +kernel
theorem dX5_goOn_287 : decode cX5_goOn 287 = .ok (.iaload, 1) := by decide +kernel
theorem dX5_goOn_288 : decode cX5_goOn 288 = .ok (.if_icmp .le 47, 3) := by decide +kernel
theorem dX5_goOn_291 : decode cX5_goOn 291 = .ok (.iload 5, 2) := by decide +kernel
theorem dX5_goOn_293 : decode cX5_goOn 293 = .ok (.iload 4, 2) := by decide +kernel
theorem dX5_goOn_295 : decode cX5_goOn 295 = .ok (.aload_n 0, 1) := by decide +kernel
theorem dX5_goOn_296 : decode cX5_goOn 296 = .ok (.getfield 16, 3) := by decide +kernel
theorem dX5_goOn_299 : decode cX5_goOn 299 = .ok (.bipush 7, 2) := by decide +kernel
theorem dX5_goOn_301 : decode cX5_goOn 301 = .ok (.iaload, 1) := by decide +kernel
theorem dX5_goOn_302 : decode cX5_goOn 302 = .ok (.isub, 1) := by decide +kernel
theorem dX5_goOn_303 : decode cX5_goOn 303 = .ok (.aload_n 0, 1) := by decide +kernel
theorem dX5_goOn_304 : decode cX5_goOn 304 = .ok (.getfield 16, 3) := by decide +kernel
theorem dX5_goOn_307 : decode cX5_goOn 307 = .ok (.bipush 8, 2) := by decide +kernel
theorem dX5_goOn_309 : decode cX5_goOn 309 = .ok (.iaload, 1) := by decide +kernel
theorem dX5_goOn_310 : decode cX5_goOn 310 = .ok (.idiv, 1) := by decide +kernel
theorem dX5_goOn_311 : decode cX5_goOn 311 = .ok (.iadd, 1) := by decide +kernel
theorem dX5_goOn_312 : decode cX5_goOn 312 = .ok (.istore 5, 2) := by decide +kernel
theorem dX5_goOn_314 : decode cX5_goOn 314 = .ok (.iload 5, 2) := by decide +kernel
theorem dX5_goOn_316 : decode cX5_goOn 316 = .ok (.sipush 20000, 3) := by decide +kernel
theorem dX5_goOn_319 : decode cX5_goOn 319 = .ok (.if_icmp .le 9, 3) := by decide +kernel
theorem dX5_goOn_322 : decode cX5_goOn 322 = .ok (.sipush 20000, 3) := by decide +kernel
theorem dX5_goOn_325 : decode cX5_goOn 325 = .ok (.goto 5, 3) := by decide +kernel
theorem dX5_goOn_328 : decode cX5_goOn 328 = .ok (.iload 5, 2) := by decide +kernel
theorem dX5_goOn_330 : decode cX5_goOn 330 = .ok (.istore 5, 2) := by decide +kernel
theorem dX5_goOn_332 : decode cX5_goOn 332 = .ok (.goto 15, 3) := by decide +kernel
theorem dX5_goOn_335 : decode cX5_goOn 335 = .ok (.iload 5, 2) := by decide +kernel
theorem dX5_goOn_337 : decode cX5_goOn 337 = .ok (.aload_n 0, 1) := by decide +kernel
theorem dX5_goOn_338 : decode cX5_goOn 338 = .ok (.getfield 16, 3) := by decide +kernel
theorem dX5_goOn_341 : decode cX5_goOn 341 = .ok (.bipush 9, 2) := by decide +kernel
theorem dX5_goOn_343 : decode cX5_goOn 343 = .ok (.iaload, 1) := by decide +kernel
theorem dX5_goOn_344 : decode cX5_goOn 344 = .ok (.isub, 1) := by decide +kernel
theorem dX5_goOn_345 : decode cX5_goOn 345 = .ok (.istore 5, 2) := by decide +kernel
theorem dX5_goOn_347 : decode cX5_goOn 347 = .ok (.aload_n 0, 1) := by decide +kernel
theorem dX5_goOn_348 : decode cX5_goOn 348 = .ok (.getfield 44, 3) := by decide +kernel
theorem dX5_goOn_351 : decode cX5_goOn 351 = .ok (.iload_n 1, 1) := by decide +kernel
theorem dX5_goOn_352 : decode cX5_goOn 352 = .ok (.iload 5, 2) := by decide +kernel
theorem dX5_goOn_354 : decode cX5_goOn 354 = .ok (.iload_n 3, 1) := by decide +kernel
theorem dX5_goOn_355 : decode cX5_goOn 355 = .ok (.if_icmp .ge 7, 3) := by decide +kernel
theorem dX5_goOn_358 : decode cX5_goOn 358 = .ok (.iload_n 3, 1) := by decide +kernel
theorem dX5_goOn_359 : decode cX5_goOn 359 = .ok (.goto 5, 3) := by decide +kernel
theorem dX5_goOn_362 : decode cX5_goOn 362 = .ok (.iload 5, 2) := by decide +kernel
theorem dX5_goOn_364 : decode cX5_goOn 364 = .ok (.iastore, 1) := by decide +kernel
theorem dX5_goOn_365 : decode cX5_goOn 365 = .ok (.aload_n 0, 1) := by decide +kernel
theorem dX5_goOn_366 : decode cX5_goOn 366 = .ok (.getfield 47, 3) := by decide +kernel
theorem dX5_goOn_369 : decode cX5_goOn 369 = .ok (.iload_n 1, 1) := by decide +kernel
theorem dX5_goOn_370 : decode cX5_goOn 370 = .ok (.aload_n 0, 1) := by decide +kernel
theorem dX5_goOn_371 : decode cX5_goOn 371 = .ok (.getfield 44, 3) := by decide +kernel
theorem dX5_goOn_374 : decode cX5_goOn 374 = .ok (.iload_n 1, 1) := by decide +kernel
theorem dX5_goOn_375 : decode cX5_goOn 375 = .ok (.iaload, 1) := by decide +kernel
theorem dX5_goOn_376 : decode cX5_goOn 376 = .ok (.aload_n 0, 1) := by decide +kernel
theorem dX5_goOn_377 : decode cX5_goOn 377 = .ok (.getfield 47, 3) := by decide +kernel
theorem dX5_goOn_380 : decode cX5_goOn 380 = .ok (.iload_n 1, 1) := by decide +kernel
theorem dX5_goOn_381 : decode cX5_goOn 381 = .ok (.iaload, 1) := by decide +kernel
theorem dX5_goOn_382 : decode cX5_goOn 382 = .ok (.if_icmp .le 12, 3) := by decide +kernel
theorem dX5_goOn_385 : decode cX5_goOn 385 = .ok (.aload_n 0, 1) := by decide +kernel
theorem dX5_goOn_386 : decode cX5_goOn 386 = .ok (.getfield 44, 3) := by decide +kernel
theorem dX5_goOn_389 : decode cX5_goOn 389 = .ok (.iload_n 1, 1) := by decide +kernel
theorem dX5_goOn_390 : decode cX5_goOn 390 = .ok (.iaload, 1) := by decide +kernel
theorem dX5_goOn_391 : decode cX5_goOn 391 = .ok (.goto 9, 3) := by decide +kernel
theorem dX5_goOn_394 : decode cX5_goOn 394 = .ok (.aload_n 0, 1) := by decide +kernel
theorem dX5_goOn_395 : decode cX5_goOn 395 = .ok (.getfield 47, 3) := by decide +kernel
theorem dX5_goOn_398 : decode cX5_goOn 398 = .ok (.iload_n 1, 1) := by decide +kernel
theorem dX5_goOn_399 : decode cX5_goOn 399 = .ok (.iaload, 1) := by decide +kernel
theorem dX5_goOn_400 : decode cX5_goOn 400 = .ok (.iastore, 1) := by decide +kernel
theorem dX5_goOn_401 : decode cX5_goOn 401 = .ok (.aload_n 0, 1) := by decide +kernel
theorem dX5_goOn_402 : decode cX5_goOn 402 = .ok (.getfield 41, 3) := by decide +kernel
theorem dX5_goOn_405 : decode cX5_goOn 405 = .ok (.iload_n 1, 1) := by decide +kernel
theorem dX5_goOn_406 : decode cX5_goOn 406 = .ok (.dup2, 1) := by decide +kernel
theorem dX5_goOn_407 : decode cX5_goOn 407 = .ok (.iaload, 1) := by decide +kernel
theorem dX5_goOn_408 : decode cX5_goOn 408 = .ok (.iconst 1, 1) := by decide +kernel
theorem dX5_goOn_409 : decode cX5_goOn 409 = .ok (.iadd, 1) := by decide +kernel
theorem dX5_goOn_410 : decode cX5_goOn 410 = .ok (.iastore, 1) := by decide +kernel
theorem dX5_goOn_411 : decode cX5_goOn 411 = .ok (.return_, 1) := by decide +kernel
theorem dX5_wetOf_0 : decode cX5_wetOf 0 = .ok (.iconst 0, 1) := by decide +kernel
theorem dX5_wetOf_1 : decode cX5_wetOf 1 = .ok (.istore_n 2, 1) := by decide +kernel
theorem dX5_wetOf_2 : decode cX5_wetOf 2 = .ok (.iconst 0, 1) := by decide +kernel
theorem dX5_wetOf_3 : decode cX5_wetOf 3 = .ok (.istore_n 3, 1) := by decide +kernel
theorem dX5_wetOf_4 : decode cX5_wetOf 4 = .ok (.iload_n 3, 1) := by decide +kernel
theorem dX5_wetOf_5 : decode cX5_wetOf 5 = .ok (.aload_n 0, 1) := by decide +kernel
theorem dX5_wetOf_6 : decode cX5_wetOf 6 = .ok (.invokevirtual 80, 3) := by decide +kernel
theorem dX5_wetOf_9 : decode cX5_wetOf 9 = .ok (.if_icmp .ge 31, 3) := by decide +kernel
theorem dX5_wetOf_12 : decode cX5_wetOf 12 = .ok (.iload_n 2, 1) := by decide +kernel
theorem dX5_wetOf_13 : decode cX5_wetOf 13 = .ok (.aload_n 0, 1) := by decide +kernel
theorem dX5_wetOf_14 : decode cX5_wetOf 14 = .ok (.getfield 26, 3) := by decide +kernel
theorem dX5_wetOf_17 : decode cX5_wetOf 17 = .ok (.bipush 24, 2) := by decide +kernel
theorem dX5_wetOf_19 : decode cX5_wetOf 19 = .ok (.iload_n 1, 1) := by decide +kernel
theorem dX5_wetOf_20 : decode cX5_wetOf 20 = .ok (.imul, 1) := by decide +kernel
theorem dX5_wetOf_21 : decode cX5_wetOf 21 = .ok (.iload_n 3, 1) := by decide +kernel
theorem dX5_wetOf_22 : decode cX5_wetOf 22 = .ok (.iadd, 1) := by decide +kernel
theorem dX5_wetOf_23 : decode cX5_wetOf 23 = .ok (.iaload, 1) := by decide +kernel
theorem dX5_wetOf_24 : decode cX5_wetOf 24 = .ok (.ifCond .le 7, 3) := by decide +kernel
theorem dX5_wetOf_27 : decode cX5_wetOf 27 = .ok (.iconst 1, 1) := by decide +kernel
theorem dX5_wetOf_28 : decode cX5_wetOf 28 = .ok (.goto 4, 3) := by decide +kernel
theorem dX5_wetOf_31 : decode cX5_wetOf 31 = .ok (.iconst 0, 1) := by decide +kernel
theorem dX5_wetOf_32 : decode cX5_wetOf 32 = .ok (.iadd, 1) := by decide +kernel
theorem dX5_wetOf_33 : decode cX5_wetOf 33 = .ok (.istore_n 2, 1) := by decide +kernel
theorem dX5_wetOf_34 : decode cX5_wetOf 34 = .ok (.iinc 3 1, 3) := by decide +kernel
theorem dX5_wetOf_37 : decode cX5_wetOf 37 = .ok (.goto (-33), 3) := by decide +kernel
theorem dX5_wetOf_40 : decode cX5_wetOf 40 = .ok (.iload_n 2, 1) := by decide +kernel
theorem dX5_wetOf_41 : decode cX5_wetOf 41 = .ok (.ireturn, 1) := by decide +kernel
theorem dX5_firstOf_0 : decode cX5_firstOf 0 = .ok (.bipush (-6), 2) := by decide +kernel
theorem dX5_firstOf_2 : decode cX5_firstOf 2 = .ok (.istore_n 2, 1) := by decide +kernel
theorem dX5_firstOf_3 : decode cX5_firstOf 3 = .ok (.iconst 0, 1) := by decide +kernel
theorem dX5_firstOf_4 : decode cX5_firstOf 4 = .ok (.istore_n 3, 1) := by decide +kernel
theorem dX5_firstOf_5 : decode cX5_firstOf 5 = .ok (.iload_n 3, 1) := by decide +kernel
theorem dX5_firstOf_6 : decode cX5_firstOf 6 = .ok (.aload_n 0, 1) := by decide +kernel
theorem dX5_firstOf_7 : decode cX5_firstOf 7 = .ok (.invokevirtual 80, 3) := by decide +kernel
theorem dX5_firstOf_10 : decode cX5_firstOf 10 = .ok (.if_icmp .ge 54, 3) := by decide +kernel
theorem dX5_firstOf_13 : decode cX5_firstOf 13 = .ok (.bipush 24, 2) := by decide +kernel
theorem dX5_firstOf_15 : decode cX5_firstOf 15 = .ok (.iload_n 1, 1) := by decide +kernel
theorem dX5_firstOf_16 : decode cX5_firstOf 16 = .ok (.imul, 1) := by decide +kernel
theorem dX5_firstOf_17 : decode cX5_firstOf 17 = .ok (.iload_n 3, 1) := by decide +kernel
theorem dX5_firstOf_18 : decode cX5_firstOf 18 = .ok (.iadd, 1) := by decide +kernel
theorem dX5_firstOf_19 : decode cX5_firstOf 19 = .ok (.istore 4, 2) := by decide +kernel
theorem dX5_firstOf_21 : decode cX5_firstOf 21 = .ok (.aload_n 0, 1) := by decide +kernel
theorem dX5_firstOf_22 : decode cX5_firstOf 22 = .ok (.getfield 35, 3) := by decide +kernel
theorem dX5_firstOf_25 : decode cX5_firstOf 25 = .ok (.iload 4, 2) := by decide +kernel
theorem dX5_firstOf_27 : decode cX5_firstOf 27 = .ok (.iaload, 1) := by decide +kernel
theorem dX5_firstOf_28 : decode cX5_firstOf 28 = .ok (.ifCond .lt 30, 3) := by decide +kernel
theorem dX5_firstOf_31 : decode cX5_firstOf 31 = .ok (.iload_n 2, 1) := by decide +kernel
theorem dX5_firstOf_32 : decode cX5_firstOf 32 = .ok (.ifCond .lt 24, 3) := by decide +kernel
theorem dX5_firstOf_35 : decode cX5_firstOf 35 = .ok (.aload_n 0, 1) := by decide +kernel
theorem dX5_firstOf_36 : decode cX5_firstOf 36 = .ok (.getfield 35, 3) := by decide +kernel
theorem dX5_firstOf_39 : decode cX5_firstOf 39 = .ok (.iload 4, 2) := by decide +kernel
theorem dX5_firstOf_41 : decode cX5_firstOf 41 = .ok (.iaload, 1) := by decide +kernel
theorem dX5_firstOf_42 : decode cX5_firstOf 42 = .ok (.aload_n 0, 1) := by decide +kernel
theorem dX5_firstOf_43 : decode cX5_firstOf 43 = .ok (.getfield 35, 3) := by decide +kernel
theorem dX5_firstOf_46 : decode cX5_firstOf 46 = .ok (.bipush 24, 2) := by decide +kernel
theorem dX5_firstOf_48 : decode cX5_firstOf 48 = .ok (.iload_n 1, 1) := by decide +kernel
theorem dX5_firstOf_49 : decode cX5_firstOf 49 = .ok (.imul, 1) := by decide +kernel
theorem dX5_firstOf_50 : decode cX5_firstOf 50 = .ok (.iload_n 2, 1) := by decide +kernel
theorem dX5_firstOf_51 : decode cX5_firstOf 51 = .ok (.iadd, 1) := by decide +kernel
theorem dX5_firstOf_52 : decode cX5_firstOf 52 = .ok (.iaload, 1) := by decide +kernel
theorem dX5_firstOf_53 : decode cX5_firstOf 53 = .ok (.if_icmp .ge 5, 3) := by decide +kernel
theorem dX5_firstOf_56 : decode cX5_firstOf 56 = .ok (.iload_n 3, 1) := by decide +kernel
theorem dX5_firstOf_57 : decode cX5_firstOf 57 = .ok (.istore_n 2, 1) := by decide +kernel
theorem dX5_firstOf_58 : decode cX5_firstOf 58 = .ok (.iinc 3 1, 3) := by decide +kernel
theorem dX5_firstOf_61 : decode cX5_firstOf 61 = .ok (.goto (-56), 3) := by decide +kernel
theorem dX5_firstOf_64 : decode cX5_firstOf 64 = .ok (.iload_n 2, 1) := by decide +kernel
theorem dX5_firstOf_65 : decode cX5_firstOf 65 = .ok (.ireturn, 1) := by decide +kernel
theorem dX5_load_0 : decode cX5_load 0 = .ok (.aload_n 0, 1) := by decide +kernel
theorem dX5_load_1 : decode cX5_load 1 = .ok (.getfield 76, 3) := by decide +kernel
theorem dX5_load_4 : decode cX5_load 4 = .ok (.ifCond .eq 6, 3) := by decide +kernel
theorem dX5_load_7 : decode cX5_load 7 = .ok (.bipush (-3), 2) := by decide +kernel
theorem dX5_load_9 : decode cX5_load 9 = .ok (.ireturn, 1) := by decide +kernel
theorem dX5_load_10 : decode cX5_load 10 = .ok (.aload_n 0, 1) := by decide +kernel
theorem dX5_load_11 : decode cX5_load 11 = .ok (.iconst 1, 1) := by decide +kernel
theorem dX5_load_12 : decode cX5_load 12 = .ok (.putfield 76, 3) := by decide +kernel
theorem dX5_load_15 : decode cX5_load 15 = .ok (.aload_n 0, 1) := by decide +kernel
theorem dX5_load_16 : decode cX5_load 16 = .ok (.iconst 0, 1) := by decide +kernel
theorem dX5_load_17 : decode cX5_load 17 = .ok (.aload_n 0, 1) := by decide +kernel
theorem dX5_load_18 : decode cX5_load 18 = .ok (.getfield 23, 3) := by decide +kernel
theorem dX5_load_21 : decode cX5_load 21 = .ok (.invokevirtual 120, 3) := by decide +kernel
theorem dX5_load_24 : decode cX5_load 24 = .ok (.aload_n 0, 1) := by decide +kernel
theorem dX5_load_25 : decode cX5_load 25 = .ok (.getfield 62, 3) := by decide +kernel
theorem dX5_load_28 : decode cX5_load 28 = .ok (.iconst 0, 1) := by decide +kernel
theorem dX5_load_29 : decode cX5_load 29 = .ok (.aload_n 0, 1) := by decide +kernel
theorem dX5_load_30 : decode cX5_load 30 = .ok (.invokevirtual 80, 3) := by decide +kernel
theorem dX5_load_33 : decode cX5_load 33 = .ok (.iastore, 1) := by decide +kernel
theorem dX5_load_34 : decode cX5_load 34 = .ok (.aload_n 0, 1) := by decide +kernel
theorem dX5_load_35 : decode cX5_load 35 = .ok (.invokevirtual 80, 3) := by decide +kernel
theorem dX5_load_38 : decode cX5_load 38 = .ok (.ireturn, 1) := by decide +kernel
theorem dX5_warm_0 : decode cX5_warm 0 = .ok (.iload_n 1, 1) := by decide +kernel
theorem dX5_warm_1 : decode cX5_warm 1 = .ok (.i2l, 1) := by decide +kernel
theorem dX5_warm_2 : decode cX5_warm 2 = .ok (.ldc2_w 96, 3) := by decide +kernel
theorem dX5_warm_5 : decode cX5_warm 5 = .ok (.ldc2_w 124, 3) := by decide +kernel
theorem dX5_warm_8 : decode cX5_warm 8 = .ok (.invokestatic 70, 3) := by decide +kernel
theorem dX5_warm_11 : decode cX5_warm 11 = .ok (.ifCond .ne 7, 3) := by decide +kernel
theorem dX5_warm_14 : decode cX5_warm 14 = .ok (.sipush (-10002), 3) := by decide +kernel
theorem dX5_warm_17 : decode cX5_warm 17 = .ok (.ireturn, 1) := by decide +kernel
theorem dX5_warm_18 : decode cX5_warm 18 = .ok (.aload_n 0, 1) := by decide +kernel
theorem dX5_warm_19 : decode cX5_warm 19 = .ok (.getfield 20, 3) := by decide +kernel
theorem dX5_warm_22 : decode cX5_warm 22 = .ok (.istore_n 2, 1) := by decide +kernel
theorem dX5_warm_23 : decode cX5_warm 23 = .ok (.aload_n 0, 1) := by decide +kernel
theorem dX5_warm_24 : decode cX5_warm 24 = .ok (.iload_n 1, 1) := by decide +kernel
theorem dX5_warm_25 : decode cX5_warm 25 = .ok (.putfield 20, 3) := by decide +kernel
theorem dX5_warm_28 : decode cX5_warm 28 = .ok (.iload_n 2, 1) := by decide +kernel
theorem dX5_warm_29 : decode cX5_warm 29 = .ok (.ireturn, 1) := by decide +kernel
theorem dX5_set_0 : decode cX5_set 0 = .ok (.iload_n 1, 1) := by decide +kernel
theorem dX5_set_1 : decode cX5_set 1 = .ok (.i2l, 1) := by decide +kernel
theorem dX5_set_2 : decode cX5_set 2 = .ok (.lconst 0, 1) := by decide +kernel
theorem dX5_set_3 : decode cX5_set 3 = .ok (.ldc2_w 126, 3) := by decide +kernel
theorem dX5_set_6 : decode cX5_set 6 = .ok (.invokestatic 70, 3) := by decide +kernel
theorem dX5_set_9 : decode cX5_set 9 = .ok (.ifCond .ne 6, 3) := by decide +kernel
theorem dX5_set_12 : decode cX5_set 12 = .ok (.bipush (-2), 2) := by decide +kernel
theorem dX5_set_14 : decode cX5_set 14 = .ok (.ireturn, 1) := by decide +kernel
theorem dX5_set_15 : decode cX5_set 15 = .ok (.aload_n 0, 1) := by decide +kernel
theorem dX5_set_16 : decode cX5_set 16 = .ok (.getfield 23, 3) := by decide +kernel
theorem dX5_set_19 : decode cX5_set 19 = .ok (.istore_n 2, 1) := by decide +kernel
theorem dX5_set_20 : decode cX5_set 20 = .ok (.aload_n 0, 1) := by decide +kernel
theorem dX5_set_21 : decode cX5_set 21 = .ok (.iload_n 1, 1) := by decide +kernel
theorem dX5_set_22 : decode cX5_set 22 = .ok (.putfield 23, 3) := by decide +kernel
theorem dX5_set_25 : decode cX5_set 25 = .ok (.iload_n 2, 1) := by decide +kernel
theorem dX5_set_26 : decode cX5_set 26 = .ok (.ireturn, 1) := by decide +kernel
theorem dX5_run_0 : decode cX5_run 0 = .ok (.iload_n 1, 1) := by decide +kernel
theorem dX5_run_1 : decode cX5_run 1 = .ok (.i2l, 1) := by decide +kernel
theorem dX5_run_2 : decode cX5_run 2 = .ok (.lconst 1, 1) := by decide +kernel
theorem dX5_run_3 : decode cX5_run 3 = .ok (.ldc2_w 128, 3) := by decide +kernel
theorem dX5_run_6 : decode cX5_run 6 = .ok (.invokestatic 70, 3) := by decide +kernel
theorem dX5_run_9 : decode cX5_run 9 = .ok (.ifCond .ne 6, 3) := by decide +kernel
theorem dX5_run_12 : decode cX5_run 12 = .ok (.bipush (-2), 2) := by decide +kernel
theorem dX5_run_14 : decode cX5_run 14 = .ok (.ireturn, 1) := by decide +kernel
theorem dX5_run_15 : decode cX5_run 15 = .ok (.aload_n 0, 1) := by decide +kernel
theorem dX5_run_16 : decode cX5_run 16 = .ok (.getfield 76, 3) := by decide +kernel
theorem dX5_run_19 : decode cX5_run 19 = .ok (.ifCond .eq 17, 3) := by decide +kernel
theorem dX5_run_22 : decode cX5_run 22 = .ok (.aload_n 0, 1) := by decide +kernel
theorem dX5_run_23 : decode cX5_run 23 = .ok (.getfield 41, 3) := by decide +kernel
theorem dX5_run_26 : decode cX5_run 26 = .ok (.iconst 0, 1) := by decide +kernel
theorem dX5_run_27 : decode cX5_run 27 = .ok (.iaload, 1) := by decide +kernel
theorem dX5_run_28 : decode cX5_run 28 = .ok (.iload_n 1, 1) := by decide +kernel
theorem dX5_run_29 : decode cX5_run 29 = .ok (.iadd, 1) := by decide +kernel
theorem dX5_run_30 : decode cX5_run 30 = .ok (.sipush 2000, 3) := by decide +kernel
theorem dX5_run_33 : decode cX5_run 33 = .ok (.if_icmp .le 6, 3) := by decide +kernel
theorem dX5_run_36 : decode cX5_run 36 = .ok (.bipush (-3), 2) := by decide +kernel
theorem dX5_run_38 : decode cX5_run 38 = .ok (.ireturn, 1) := by decide +kernel
theorem dX5_run_39 : decode cX5_run 39 = .ok (.iconst 0, 1) := by decide +kernel
theorem dX5_run_40 : decode cX5_run 40 = .ok (.istore_n 2, 1) := by decide +kernel
theorem dX5_run_41 : decode cX5_run 41 = .ok (.iload_n 2, 1) := by decide +kernel
theorem dX5_run_42 : decode cX5_run 42 = .ok (.iload_n 1, 1) := by decide +kernel
theorem dX5_run_43 : decode cX5_run 43 = .ok (.if_icmp .ge 95, 3) := by decide +kernel
theorem dX5_run_46 : decode cX5_run 46 = .ok (.aload_n 0, 1) := by decide +kernel
theorem dX5_run_47 : decode cX5_run 47 = .ok (.iconst 0, 1) := by decide +kernel
theorem dX5_run_48 : decode cX5_run 48 = .ok (.aload_n 0, 1) := by decide +kernel
theorem dX5_run_49 : decode cX5_run 49 = .ok (.getfield 20, 3) := by decide +kernel
theorem dX5_run_52 : decode cX5_run 52 = .ok (.aload_n 0, 1) := by decide +kernel
theorem dX5_run_53 : decode cX5_run 53 = .ok (.getfield 23, 3) := by decide +kernel
theorem dX5_run_56 : decode cX5_run 56 = .ok (.invokevirtual 130, 3) := by decide +kernel
theorem dX5_run_59 : decode cX5_run 59 = .ok (.aload_n 0, 1) := by decide +kernel
theorem dX5_run_60 : decode cX5_run 60 = .ok (.getfield 41, 3) := by decide +kernel
theorem dX5_run_63 : decode cX5_run 63 = .ok (.iconst 0, 1) := by decide +kernel
theorem dX5_run_64 : decode cX5_run 64 = .ok (.iaload, 1) := by decide +kernel
theorem dX5_run_65 : decode cX5_run 65 = .ok (.istore_n 3, 1) := by decide +kernel
theorem dX5_run_66 : decode cX5_run 66 = .ok (.aload_n 0, 1) := by decide +kernel
theorem dX5_run_67 : decode cX5_run 67 = .ok (.getfield 56, 3) := by decide +kernel
theorem dX5_run_70 : decode cX5_run 70 = .ok (.iload_n 3, 1) := by decide +kernel
theorem dX5_run_71 : decode cX5_run 71 = .ok (.aload_n 0, 1) := by decide +kernel
theorem dX5_run_72 : decode cX5_run 72 = .ok (.getfield 44, 3) := by decide +kernel
theorem dX5_run_75 : decode cX5_run 75 = .ok (.iconst 0, 1) := by decide +kernel
theorem dX5_run_76 : decode cX5_run 76 = .ok (.iaload, 1) := by decide +kernel
theorem dX5_run_77 : decode cX5_run 77 = .ok (.iastore, 1) := by decide +kernel
theorem dX5_run_78 : decode cX5_run 78 = .ok (.aload_n 0, 1) := by decide +kernel
theorem dX5_run_79 : decode cX5_run 79 = .ok (.getfield 59, 3) := by decide +kernel
theorem dX5_run_82 : decode cX5_run 82 = .ok (.iload_n 3, 1) := by decide +kernel
theorem dX5_run_83 : decode cX5_run 83 = .ok (.aload_n 0, 1) := by decide +kernel
theorem dX5_run_84 : decode cX5_run 84 = .ok (.getfield 44, 3) := by decide +kernel
theorem dX5_run_87 : decode cX5_run 87 = .ok (.iconst 0, 1) := by decide +kernel
theorem dX5_run_88 : decode cX5_run 88 = .ok (.iaload, 1) := by decide +kernel
theorem dX5_run_89 : decode cX5_run 89 = .ok (.bipush 100, 2) := by decide +kernel
theorem dX5_run_91 : decode cX5_run 91 = .ok (.bipush 60, 2) := by decide +kernel
theorem dX5_run_93 : decode cX5_run 93 = .ok (.aload_n 0, 1) := by decide +kernel
theorem dX5_run_94 : decode cX5_run 94 = .ok (.getfield 50, 3) := by decide +kernel
theorem dX5_run_97 : decode cX5_run 97 = .ok (.iconst 0, 1) := by decide +kernel
theorem dX5_run_98 : decode cX5_run 98 = .ok (.iaload, 1) := by decide +kernel
theorem dX5_run_99 : decode cX5_run 99 = .ok (.imul, 1) := by decide +kernel
theorem dX5_run_100 : decode cX5_run 100 = .ok (.aload_n 0, 1) := by decide +kernel
theorem dX5_run_101 : decode cX5_run 101 = .ok (.getfield 50, 3) := by decide +kernel
theorem dX5_run_104 : decode cX5_run 104 = .ok (.iconst 0, 1) := by decide +kernel
theorem dX5_run_105 : decode cX5_run 105 = .ok (.iaload, 1) := by decide +kernel
theorem dX5_run_106 : decode cX5_run 106 = .ok (.aload_n 0, 1) := by decide +kernel
theorem dX5_run_107 : decode cX5_run 107 = .ok (.getfield 16, 3) := by decide +kernel
theorem dX5_run_110 : decode cX5_run 110 = .ok (.bipush 10, 2) := by decide +kernel
theorem dX5_run_112 : decode cX5_run 112 = .ok (.iaload, 1) := by decide +kernel
theorem dX5_run_113 : decode cX5_run 113 = .ok (.iadd, 1) := by decide +kernel
theorem dX5_run_114 : decode cX5_run 114 = .ok (.idiv, 1) := by decide +kernel
theorem dX5_run_115 : decode cX5_run 115 = .ok (.iadd, 1) := by decide +kernel
theorem dX5_run_116 : decode cX5_run 116 = .ok (.imul, 1) := by decide +kernel
theorem dX5_run_117 : decode cX5_run 117 = .ok (.bipush 100, 2) := by decide +kernel
theorem dX5_run_119 : decode cX5_run 119 = .ok (.idiv, 1) := by decide +kernel
theorem dX5_run_120 : decode cX5_run 120 = .ok (.iastore, 1) := by decide +kernel
theorem dX5_run_121 : decode cX5_run 121 = .ok (.aload_n 0, 1) := by decide +kernel
theorem dX5_run_122 : decode cX5_run 122 = .ok (.getfield 62, 3) := by decide +kernel
theorem dX5_run_125 : decode cX5_run 125 = .ok (.iload_n 3, 1) := by decide +kernel
theorem dX5_run_126 : decode cX5_run 126 = .ok (.aload_n 0, 1) := by decide +kernel
theorem dX5_run_127 : decode cX5_run 127 = .ok (.iconst 0, 1) := by decide +kernel
theorem dX5_run_128 : decode cX5_run 128 = .ok (.invokevirtual 134, 3) := by decide +kernel
theorem dX5_run_131 : decode cX5_run 131 = .ok (.iastore, 1) := by decide +kernel
theorem dX5_run_132 : decode cX5_run 132 = .ok (.iinc 2 1, 3) := by decide +kernel
theorem dX5_run_135 : decode cX5_run 135 = .ok (.goto (-94), 3) := by decide +kernel
theorem dX5_run_138 : decode cX5_run 138 = .ok (.aload_n 0, 1) := by decide +kernel
theorem dX5_run_139 : decode cX5_run 139 = .ok (.getfield 41, 3) := by decide +kernel
theorem dX5_run_142 : decode cX5_run 142 = .ok (.iconst 0, 1) := by decide +kernel
theorem dX5_run_143 : decode cX5_run 143 = .ok (.iaload, 1) := by decide +kernel
theorem dX5_run_144 : decode cX5_run 144 = .ok (.ireturn, 1) := by decide +kernel
theorem dX5_unload_0 : decode cX5_unload 0 = .ok (.aload_n 0, 1) := by decide +kernel
theorem dX5_unload_1 : decode cX5_unload 1 = .ok (.getfield 76, 3) := by decide +kernel
theorem dX5_unload_4 : decode cX5_unload 4 = .ok (.ifCond .ne 6, 3) := by decide +kernel
theorem dX5_unload_7 : decode cX5_unload 7 = .ok (.bipush (-3), 2) := by decide +kernel
theorem dX5_unload_9 : decode cX5_unload 9 = .ok (.ireturn, 1) := by decide +kernel
theorem dX5_unload_10 : decode cX5_unload 10 = .ok (.aload_n 0, 1) := by decide +kernel
theorem dX5_unload_11 : decode cX5_unload 11 = .ok (.iconst 0, 1) := by decide +kernel
theorem dX5_unload_12 : decode cX5_unload 12 = .ok (.putfield 76, 3) := by decide +kernel
theorem dX5_unload_15 : decode cX5_unload 15 = .ok (.aload_n 0, 1) := by decide +kernel
theorem dX5_unload_16 : decode cX5_unload 16 = .ok (.iconst 0, 1) := by decide +kernel
theorem dX5_unload_17 : decode cX5_unload 17 = .ok (.invokevirtual 134, 3) := by decide +kernel
theorem dX5_unload_20 : decode cX5_unload 20 = .ok (.ireturn, 1) := by decide +kernel
theorem dX5_vial_0 : decode cX5_vial 0 = .ok (.aload_n 0, 1) := by decide +kernel
theorem dX5_vial_1 : decode cX5_vial 1 = .ok (.getfield 76, 3) := by decide +kernel
theorem dX5_vial_4 : decode cX5_vial 4 = .ok (.ifCond .ne 7, 3) := by decide +kernel
theorem dX5_vial_7 : decode cX5_vial 7 = .ok (.sipush (-10003), 3) := by decide +kernel
theorem dX5_vial_10 : decode cX5_vial 10 = .ok (.ireturn, 1) := by decide +kernel
theorem dX5_vial_11 : decode cX5_vial 11 = .ok (.iload_n 1, 1) := by decide +kernel
theorem dX5_vial_12 : decode cX5_vial 12 = .ok (.i2l, 1) := by decide +kernel
theorem dX5_vial_13 : decode cX5_vial 13 = .ok (.lconst 0, 1) := by decide +kernel
theorem dX5_vial_14 : decode cX5_vial 14 = .ok (.aload_n 0, 1) := by decide +kernel
theorem dX5_vial_15 : decode cX5_vial 15 = .ok (.invokevirtual 80, 3) := by decide +kernel
theorem dX5_vial_18 : decode cX5_vial 18 = .ok (.iconst 1, 1) := by decide +kernel
theorem dX5_vial_19 : decode cX5_vial 19 = .ok (.isub, 1) := by decide +kernel
theorem dX5_vial_20 : decode cX5_vial 20 = .ok (.i2l, 1) := by decide +kernel
theorem dX5_vial_21 : decode cX5_vial 21 = .ok (.invokestatic 70, 3) := by decide +kernel
theorem dX5_vial_24 : decode cX5_vial 24 = .ok (.ifCond .ne 7, 3) := by decide +kernel
theorem dX5_vial_27 : decode cX5_vial 27 = .ok (.sipush (-10001), 3) := by decide +kernel
theorem dX5_vial_30 : decode cX5_vial 30 = .ok (.ireturn, 1) := by decide +kernel
theorem dX5_vial_31 : decode cX5_vial 31 = .ok (.iload_n 2, 1) := by decide +kernel
theorem dX5_vial_32 : decode cX5_vial 32 = .ok (.ifCond .ne 12, 3) := by decide +kernel
theorem dX5_vial_35 : decode cX5_vial 35 = .ok (.aload_n 0, 1) := by decide +kernel
theorem dX5_vial_36 : decode cX5_vial 36 = .ok (.getfield 26, 3) := by decide +kernel
theorem dX5_vial_39 : decode cX5_vial 39 = .ok (.iload_n 1, 1) := by decide +kernel
theorem dX5_vial_40 : decode cX5_vial 40 = .ok (.iaload, 1) := by decide +kernel
theorem dX5_vial_41 : decode cX5_vial 41 = .ok (.goto 62, 3) := by decide +kernel
theorem dX5_vial_44 : decode cX5_vial 44 = .ok (.iload_n 2, 1) := by decide +kernel
theorem dX5_vial_45 : decode cX5_vial 45 = .ok (.iconst 1, 1) := by decide +kernel
theorem dX5_vial_46 : decode cX5_vial 46 = .ok (.if_icmp .ne 12, 3) := by decide +kernel
theorem dX5_vial_49 : decode cX5_vial 49 = .ok (.aload_n 0, 1) := by decide +kernel
theorem dX5_vial_50 : decode cX5_vial 50 = .ok (.getfield 29, 3) := by decide +kernel
theorem dX5_vial_53 : decode cX5_vial 53 = .ok (.iload_n 1, 1) := by decide +kernel
theorem dX5_vial_54 : decode cX5_vial 54 = .ok (.iaload, 1) := by decide +kernel
theorem dX5_vial_55 : decode cX5_vial 55 = .ok (.goto 48, 3) := by decide +kernel
theorem dX5_vial_58 : decode cX5_vial 58 = .ok (.iload_n 2, 1) := by decide +kernel
theorem dX5_vial_59 : decode cX5_vial 59 = .ok (.iconst 2, 1) := by decide +kernel
theorem dX5_vial_60 : decode cX5_vial 60 = .ok (.if_icmp .ne 12, 3) := by decide +kernel
theorem dX5_vial_63 : decode cX5_vial 63 = .ok (.aload_n 0, 1) := by decide +kernel
theorem dX5_vial_64 : decode cX5_vial 64 = .ok (.getfield 32, 3) := by decide +kernel
theorem dX5_vial_67 : decode cX5_vial 67 = .ok (.iload_n 1, 1) := by decide +kernel
theorem dX5_vial_68 : decode cX5_vial 68 = .ok (.iaload, 1) := by decide +kernel
theorem dX5_vial_69 : decode cX5_vial 69 = .ok (.goto 34, 3) := by decide +kernel
theorem dX5_vial_72 : decode cX5_vial 72 = .ok (.iload_n 2, 1) := by decide +kernel
theorem dX5_vial_73 : decode cX5_vial 73 = .ok (.iconst 3, 1) := by decide +kernel
theorem dX5_vial_74 : decode cX5_vial 74 = .ok (.if_icmp .ne 12, 3) := by decide +kernel
theorem dX5_vial_77 : decode cX5_vial 77 = .ok (.aload_n 0, 1) := by decide +kernel
theorem dX5_vial_78 : decode cX5_vial 78 = .ok (.getfield 35, 3) := by decide +kernel
theorem dX5_vial_81 : decode cX5_vial 81 = .ok (.iload_n 1, 1) := by decide +kernel
theorem dX5_vial_82 : decode cX5_vial 82 = .ok (.iaload, 1) := by decide +kernel
theorem dX5_vial_83 : decode cX5_vial 83 = .ok (.goto 20, 3) := by decide +kernel
theorem dX5_vial_86 : decode cX5_vial 86 = .ok (.iload_n 2, 1) := by decide +kernel
theorem dX5_vial_87 : decode cX5_vial 87 = .ok (.iconst 4, 1) := by decide +kernel
theorem dX5_vial_88 : decode cX5_vial 88 = .ok (.if_icmp .ne 12, 3) := by decide +kernel
theorem dX5_vial_91 : decode cX5_vial 91 = .ok (.aload_n 0, 1) := by decide +kernel
theorem dX5_vial_92 : decode cX5_vial 92 = .ok (.getfield 38, 3) := by decide +kernel
theorem dX5_vial_95 : decode cX5_vial 95 = .ok (.iload_n 1, 1) := by decide +kernel
theorem dX5_vial_96 : decode cX5_vial 96 = .ok (.iaload, 1) := by decide +kernel
theorem dX5_vial_97 : decode cX5_vial 97 = .ok (.goto 6, 3) := by decide +kernel
theorem dX5_vial_100 : decode cX5_vial 100 = .ok (.sipush (-10002), 3) := by decide +kernel
theorem dX5_vial_103 : decode cX5_vial 103 = .ok (.ireturn, 1) := by decide +kernel
theorem dX5_about_0 : decode cX5_about 0 = .ok (.iload_n 1, 1) := by decide +kernel
theorem dX5_about_1 : decode cX5_about 1 = .ok (.i2l, 1) := by decide +kernel
theorem dX5_about_2 : decode cX5_about 2 = .ok (.lconst 0, 1) := by decide +kernel
theorem dX5_about_3 : decode cX5_about 3 = .ok (.ldc2_w 137, 3) := by decide +kernel
theorem dX5_about_6 : decode cX5_about 6 = .ok (.invokestatic 70, 3) := by decide +kernel
theorem dX5_about_9 : decode cX5_about 9 = .ok (.ifCond .ne 7, 3) := by decide +kernel
theorem dX5_about_12 : decode cX5_about 12 = .ok (.sipush (-10002), 3) := by decide +kernel
theorem dX5_about_15 : decode cX5_about 15 = .ok (.ireturn, 1) := by decide +kernel
theorem dX5_about_16 : decode cX5_about 16 = .ok (.iload_n 1, 1) := by decide +kernel
theorem dX5_about_17 : decode cX5_about 17 = .ok (.bipush 7, 2) := by decide +kernel
theorem dX5_about_19 : decode cX5_about 19 = .ok (.if_icmp .le 21, 3) := by decide +kernel
theorem dX5_about_22 : decode cX5_about 22 = .ok (.iload_n 1, 1) := by decide +kernel
theorem dX5_about_23 : decode cX5_about 23 = .ok (.bipush 8, 2) := by decide +kernel
theorem dX5_about_25 : decode cX5_about 25 = .ok (.if_icmp .ne 10, 3) := by decide +kernel
theorem dX5_about_28 : decode cX5_about 28 = .ok (.aload_n 0, 1) := by decide +kernel
theorem dX5_about_29 : decode cX5_about 29 = .ok (.getfield 20, 3) := by decide +kernel
theorem dX5_about_32 : decode cX5_about 32 = .ok (.goto 7, 3) := by decide +kernel
theorem dX5_about_35 : decode cX5_about 35 = .ok (.aload_n 0, 1) := by decide +kernel
theorem dX5_about_36 : decode cX5_about 36 = .ok (.getfield 23, 3) := by decide +kernel
theorem dX5_about_39 : decode cX5_about 39 = .ok (.ireturn, 1) := by decide +kernel
theorem dX5_about_40 : decode cX5_about 40 = .ok (.aload_n 0, 1) := by decide +kernel
theorem dX5_about_41 : decode cX5_about 41 = .ok (.getfield 76, 3) := by decide +kernel
theorem dX5_about_44 : decode cX5_about 44 = .ok (.ifCond .ne 7, 3) := by decide +kernel
theorem dX5_about_47 : decode cX5_about 47 = .ok (.sipush (-10003), 3) := by decide +kernel
theorem dX5_about_50 : decode cX5_about 50 = .ok (.ireturn, 1) := by decide +kernel
theorem dX5_about_51 : decode cX5_about 51 = .ok (.iconst 0, 1) := by decide +kernel
theorem dX5_about_52 : decode cX5_about 52 = .ok (.istore_n 2, 1) := by decide +kernel
theorem dX5_about_53 : decode cX5_about 53 = .ok (.iconst 0, 1) := by decide +kernel
theorem dX5_about_54 : decode cX5_about 54 = .ok (.istore_n 3, 1) := by decide +kernel
theorem dX5_about_55 : decode cX5_about 55 = .ok (.iconst 0, 1) := by decide +kernel
theorem dX5_about_56 : decode cX5_about 56 = .ok (.istore 4, 2) := by decide +kernel
theorem dX5_about_58 : decode cX5_about 58 = .ok (.iload 4, 2) := by decide +kernel
theorem dX5_about_60 : decode cX5_about 60 = .ok (.aload_n 0, 1) := by decide +kernel
theorem dX5_about_61 : decode cX5_about 61 = .ok (.invokevirtual 80, 3) := by decide +kernel
theorem dX5_about_64 : decode cX5_about 64 = .ok (.if_icmp .ge 37, 3) := by decide +kernel
theorem dX5_about_67 : decode cX5_about 67 = .ok (.iload_n 2, 1) := by decide +kernel
theorem dX5_about_68 : decode cX5_about 68 = .ok (.aload_n 0, 1) := by decide +kernel
theorem dX5_about_69 : decode cX5_about 69 = .ok (.getfield 26, 3) := by decide +kernel
theorem dX5_about_72 : decode cX5_about 72 = .ok (.iload 4, 2) := by decide +kernel
theorem dX5_about_74 : decode cX5_about 74 = .ok (.iaload, 1) := by decide +kernel
theorem dX5_about_75 : decode cX5_about 75 = .ok (.iadd, 1) := by decide +kernel
theorem dX5_about_76 : decode cX5_about 76 = .ok (.istore_n 2, 1) := by decide +kernel
theorem dX5_about_77 : decode cX5_about 77 = .ok (.iload_n 3, 1) := by decide +kernel
theorem dX5_about_78 : decode cX5_about 78 = .ok (.aload_n 0, 1) := by decide +kernel
theorem dX5_about_79 : decode cX5_about 79 = .ok (.getfield 35, 3) := by decide +kernel
theorem dX5_about_82 : decode cX5_about 82 = .ok (.iload 4, 2) := by decide +kernel
theorem dX5_about_84 : decode cX5_about 84 = .ok (.iaload, 1) := by decide +kernel
theorem dX5_about_85 : decode cX5_about 85 = .ok (.ifCond .lt 7, 3) := by decide +kernel
theorem dX5_about_88 : decode cX5_about 88 = .ok (.iconst 1, 1) := by decide +kernel
theorem dX5_about_89 : decode cX5_about 89 = .ok (.goto 4, 3) := by decide +kernel
theorem dX5_about_92 : decode cX5_about 92 = .ok (.iconst 0, 1) := by decide +kernel
theorem dX5_about_93 : decode cX5_about 93 = .ok (.iadd, 1) := by decide +kernel
theorem dX5_about_94 : decode cX5_about 94 = .ok (.istore_n 3, 1) := by decide +kernel
theorem dX5_about_95 : decode cX5_about 95 = .ok (.iinc 4 1, 3) := by decide +kernel
theorem dX5_about_98 : decode cX5_about 98 = .ok (.goto (-40), 3) := by decide +kernel
theorem dX5_about_101 : decode cX5_about 101 = .ok (.iload_n 1, 1) := by decide +kernel
theorem dX5_about_102 : decode cX5_about 102 = .ok (.tableswitch 81 0 6 #[42, 49, 56, 58, 65, 72, 79], 42) := by decide +kernel
theorem dX5_about_144 : decode cX5_about 144 = .ok (.aload_n 0, 1) := by decide +kernel
theorem dX5_about_145 : decode cX5_about 145 = .ok (.getfield 41, 3) := by decide +kernel
theorem dX5_about_148 : decode cX5_about 148 = .ok (.iconst 0, 1) := by decide +kernel
theorem dX5_about_149 : decode cX5_about 149 = .ok (.iaload, 1) := by decide +kernel
theorem dX5_about_150 : decode cX5_about 150 = .ok (.ireturn, 1) := by decide +kernel
theorem dX5_about_151 : decode cX5_about 151 = .ok (.aload_n 0, 1) := by decide +kernel
theorem dX5_about_152 : decode cX5_about 152 = .ok (.getfield 44, 3) := by decide +kernel
theorem dX5_about_155 : decode cX5_about 155 = .ok (.iconst 0, 1) := by decide +kernel
theorem dX5_about_156 : decode cX5_about 156 = .ok (.iaload, 1) := by decide +kernel
theorem dX5_about_157 : decode cX5_about 157 = .ok (.ireturn, 1) := by decide +kernel
theorem dX5_about_158 : decode cX5_about 158 = .ok (.iload_n 2, 1) := by decide +kernel
theorem dX5_about_159 : decode cX5_about 159 = .ok (.ireturn, 1) := by decide +kernel
theorem dX5_about_160 : decode cX5_about 160 = .ok (.aload_n 0, 1) := by decide +kernel
theorem dX5_about_161 : decode cX5_about 161 = .ok (.getfield 53, 3) := by decide +kernel
theorem dX5_about_164 : decode cX5_about 164 = .ok (.iconst 0, 1) := by decide +kernel
theorem dX5_about_165 : decode cX5_about 165 = .ok (.iaload, 1) := by decide +kernel
theorem dX5_about_166 : decode cX5_about 166 = .ok (.ireturn, 1) := by decide +kernel
theorem dX5_about_167 : decode cX5_about 167 = .ok (.aload_n 0, 1) := by decide +kernel
theorem dX5_about_168 : decode cX5_about 168 = .ok (.getfield 50, 3) := by decide +kernel
theorem dX5_about_171 : decode cX5_about 171 = .ok (.iconst 0, 1) := by decide +kernel
theorem dX5_about_172 : decode cX5_about 172 = .ok (.iaload, 1) := by decide +kernel
theorem dX5_about_173 : decode cX5_about 173 = .ok (.ireturn, 1) := by decide +kernel
theorem dX5_about_174 : decode cX5_about 174 = .ok (.aload_n 0, 1) := by decide +kernel
theorem dX5_about_175 : decode cX5_about 175 = .ok (.getfield 47, 3) := by decide +kernel
theorem dX5_about_178 : decode cX5_about 178 = .ok (.iconst 0, 1) := by decide +kernel
theorem dX5_about_179 : decode cX5_about 179 = .ok (.iaload, 1) := by decide +kernel
theorem dX5_about_180 : decode cX5_about 180 = .ok (.ireturn, 1) := by decide +kernel
theorem dX5_about_181 : decode cX5_about 181 = .ok (.iload_n 3, 1) := by decide +kernel
theorem dX5_about_182 : decode cX5_about 182 = .ok (.ireturn, 1) := by decide +kernel
theorem dX5_about_183 : decode cX5_about 183 = .ok (.aload_n 0, 1) := by decide +kernel
theorem dX5_about_184 : decode cX5_about 184 = .ok (.invokevirtual 80, 3) := by decide +kernel
theorem dX5_about_187 : decode cX5_about 187 = .ok (.aload_n 0, 1) := by decide +kernel
theorem dX5_about_188 : decode cX5_about 188 = .ok (.iconst 0, 1) := by decide +kernel
theorem dX5_about_189 : decode cX5_about 189 = .ok (.invokevirtual 134, 3) := by decide +kernel
theorem dX5_about_192 : decode cX5_about 192 = .ok (.isub, 1) := by decide +kernel
theorem dX5_about_193 : decode cX5_about 193 = .ok (.ireturn, 1) := by decide +kernel
theorem dX5_gauge_0 : decode cX5_gauge 0 = .ok (.aload_n 0, 1) := by decide +kernel
theorem dX5_gauge_1 : decode cX5_gauge 1 = .ok (.getfield 76, 3) := by decide +kernel
theorem dX5_gauge_4 : decode cX5_gauge 4 = .ok (.ifCond .ne 6, 3) := by decide +kernel
theorem dX5_gauge_7 : decode cX5_gauge 7 = .ok (.bipush (-3), 2) := by decide +kernel
theorem dX5_gauge_9 : decode cX5_gauge 9 = .ok (.ireturn, 1) := by decide +kernel
theorem dX5_gauge_10 : decode cX5_gauge 10 = .ok (.iload_n 1, 1) := by decide +kernel
theorem dX5_gauge_11 : decode cX5_gauge 11 = .ok (.i2l, 1) := by decide +kernel
theorem dX5_gauge_12 : decode cX5_gauge 12 = .ok (.lconst 1, 1) := by decide +kernel
theorem dX5_gauge_13 : decode cX5_gauge 13 = .ok (.aload_n 0, 1) := by decide +kernel
theorem dX5_gauge_14 : decode cX5_gauge 14 = .ok (.getfield 41, 3) := by decide +kernel
theorem dX5_gauge_17 : decode cX5_gauge 17 = .ok (.iconst 0, 1) := by decide +kernel
theorem dX5_gauge_18 : decode cX5_gauge 18 = .ok (.iaload, 1) := by decide +kernel
theorem dX5_gauge_19 : decode cX5_gauge 19 = .ok (.i2l, 1) := by decide +kernel
theorem dX5_gauge_20 : decode cX5_gauge 20 = .ok (.invokestatic 70, 3) := by decide +kernel
theorem dX5_gauge_23 : decode cX5_gauge 23 = .ok (.ifCond .ne 5, 3) := by decide +kernel
theorem dX5_gauge_26 : decode cX5_gauge 26 = .ok (.iconst (-1), 1) := by decide +kernel
theorem dX5_gauge_27 : decode cX5_gauge 27 = .ok (.ireturn, 1) := by decide +kernel
theorem dX5_gauge_28 : decode cX5_gauge 28 = .ok (.iload_n 2, 1) := by decide +kernel
theorem dX5_gauge_29 : decode cX5_gauge 29 = .ok (.ifCond .ne 12, 3) := by decide +kernel
theorem dX5_gauge_32 : decode cX5_gauge 32 = .ok (.aload_n 0, 1) := by decide +kernel
theorem dX5_gauge_33 : decode cX5_gauge 33 = .ok (.getfield 56, 3) := by decide +kernel
theorem dX5_gauge_36 : decode cX5_gauge 36 = .ok (.iload_n 1, 1) := by decide +kernel
theorem dX5_gauge_37 : decode cX5_gauge 37 = .ok (.iaload, 1) := by decide +kernel
theorem dX5_gauge_38 : decode cX5_gauge 38 = .ok (.goto 19, 3) := by decide +kernel
theorem dX5_gauge_41 : decode cX5_gauge 41 = .ok (.iload_n 2, 1) := by decide +kernel
theorem dX5_gauge_42 : decode cX5_gauge 42 = .ok (.iconst 1, 1) := by decide +kernel
theorem dX5_gauge_43 : decode cX5_gauge 43 = .ok (.if_icmp .ne 12, 3) := by decide +kernel
theorem dX5_gauge_46 : decode cX5_gauge 46 = .ok (.aload_n 0, 1) := by decide +kernel
theorem dX5_gauge_47 : decode cX5_gauge 47 = .ok (.getfield 59, 3) := by decide +kernel
theorem dX5_gauge_50 : decode cX5_gauge 50 = .ok (.iload_n 1, 1) := by decide +kernel
theorem dX5_gauge_51 : decode cX5_gauge 51 = .ok (.iaload, 1) := by decide +kernel
theorem dX5_gauge_52 : decode cX5_gauge 52 = .ok (.goto 5, 3) := by decide +kernel
theorem dX5_gauge_55 : decode cX5_gauge 55 = .ok (.bipush (-2), 2) := by decide +kernel
theorem dX5_gauge_57 : decode cX5_gauge 57 = .ok (.ireturn, 1) := by decide +kernel
theorem dX5_end_0 : decode cX5_end 0 = .ok (.iload_n 1, 1) := by decide +kernel
theorem dX5_end_1 : decode cX5_end 1 = .ok (.i2l, 1) := by decide +kernel
theorem dX5_end_2 : decode cX5_end 2 = .ok (.lconst 0, 1) := by decide +kernel
theorem dX5_end_3 : decode cX5_end 3 = .ok (.ldc2_w 101, 3) := by decide +kernel
theorem dX5_end_6 : decode cX5_end 6 = .ok (.invokestatic 70, 3) := by decide +kernel
theorem dX5_end_9 : decode cX5_end 9 = .ok (.ifCond .eq 15, 3) := by decide +kernel
theorem dX5_end_12 : decode cX5_end 12 = .ok (.iload_n 2, 1) := by decide +kernel
theorem dX5_end_13 : decode cX5_end 13 = .ok (.i2l, 1) := by decide +kernel
theorem dX5_end_14 : decode cX5_end 14 = .ok (.lconst 1, 1) := by decide +kernel
theorem dX5_end_15 : decode cX5_end 15 = .ok (.ldc2_w 139, 3) := by decide +kernel
theorem dX5_end_18 : decode cX5_end 18 = .ok (.invokestatic 70, 3) := by decide +kernel
theorem dX5_end_21 : decode cX5_end 21 = .ok (.ifCond .ne 6, 3) := by decide +kernel
theorem dX5_end_24 : decode cX5_end 24 = .ok (.bipush (-2), 2) := by decide +kernel
theorem dX5_end_26 : decode cX5_end 26 = .ok (.ireturn, 1) := by decide +kernel
theorem dX5_end_27 : decode cX5_end 27 = .ok (.aload_n 0, 1) := by decide +kernel
theorem dX5_end_28 : decode cX5_end 28 = .ok (.getfield 76, 3) := by decide +kernel
theorem dX5_end_31 : decode cX5_end 31 = .ok (.ifCond .ne 6, 3) := by decide +kernel
theorem dX5_end_34 : decode cX5_end 34 = .ok (.bipush (-3), 2) := by decide +kernel
theorem dX5_end_36 : decode cX5_end 36 = .ok (.ireturn, 1) := by decide +kernel
theorem dX5_end_37 : decode cX5_end 37 = .ok (.iconst 0, 1) := by decide +kernel
theorem dX5_end_38 : decode cX5_end 38 = .ok (.istore_n 3, 1) := by decide +kernel
theorem dX5_end_39 : decode cX5_end 39 = .ok (.iconst 1, 1) := by decide +kernel
theorem dX5_end_40 : decode cX5_end 40 = .ok (.istore 4, 2) := by decide +kernel
theorem dX5_end_42 : decode cX5_end 42 = .ok (.iload 4, 2) := by decide +kernel
theorem dX5_end_44 : decode cX5_end 44 = .ok (.aload_n 0, 1) := by decide +kernel
theorem dX5_end_45 : decode cX5_end 45 = .ok (.getfield 41, 3) := by decide +kernel
theorem dX5_end_48 : decode cX5_end 48 = .ok (.iconst 0, 1) := by decide +kernel
theorem dX5_end_49 : decode cX5_end 49 = .ok (.iaload, 1) := by decide +kernel
theorem dX5_end_50 : decode cX5_end 50 = .ok (.if_icmp .gt 44, 3) := by decide +kernel
theorem dX5_end_53 : decode cX5_end 53 = .ok (.aload_n 0, 1) := by decide +kernel
theorem dX5_end_54 : decode cX5_end 54 = .ok (.getfield 59, 3) := by decide +kernel
theorem dX5_end_57 : decode cX5_end 57 = .ok (.iload 4, 2) := by decide +kernel
theorem dX5_end_59 : decode cX5_end 59 = .ok (.iaload, 1) := by decide +kernel
theorem dX5_end_60 : decode cX5_end 60 = .ok (.aload_n 0, 1) := by decide +kernel
theorem dX5_end_61 : decode cX5_end 61 = .ok (.getfield 56, 3) := by decide +kernel
theorem dX5_end_64 : decode cX5_end 64 = .ok (.iload 4, 2) := by decide +kernel
theorem dX5_end_66 : decode cX5_end 66 = .ok (.iaload, 1) := by decide +kernel
theorem dX5_end_67 : decode cX5_end 67 = .ok (.isub, 1) := by decide +kernel
theorem dX5_end_68 : decode cX5_end 68 = .ok (.iload_n 1, 1) := by decide +kernel
theorem dX5_end_69 : decode cX5_end 69 = .ok (.if_icmp .gt 9, 3) := by decide +kernel
theorem dX5_end_72 : decode cX5_end 72 = .ok (.iload_n 3, 1) := by decide +kernel
theorem dX5_end_73 : decode cX5_end 73 = .ok (.iconst 1, 1) := by decide +kernel
theorem dX5_end_74 : decode cX5_end 74 = .ok (.iadd, 1) := by decide +kernel
theorem dX5_end_75 : decode cX5_end 75 = .ok (.goto 4, 3) := by decide +kernel
theorem dX5_end_78 : decode cX5_end 78 = .ok (.iconst 0, 1) := by decide +kernel
theorem dX5_end_79 : decode cX5_end 79 = .ok (.istore_n 3, 1) := by decide +kernel
theorem dX5_end_80 : decode cX5_end 80 = .ok (.iload_n 3, 1) := by decide +kernel
theorem dX5_end_81 : decode cX5_end 81 = .ok (.iload_n 2, 1) := by decide +kernel
theorem dX5_end_82 : decode cX5_end 82 = .ok (.if_icmp .ne 6, 3) := by decide +kernel
theorem dX5_end_85 : decode cX5_end 85 = .ok (.iload 4, 2) := by decide +kernel
theorem dX5_end_87 : decode cX5_end 87 = .ok (.ireturn, 1) := by decide +kernel
theorem dX5_end_88 : decode cX5_end 88 = .ok (.iinc 4 1, 3) := by decide +kernel
theorem dX5_end_91 : decode cX5_end 91 = .ok (.goto (-49), 3) := by decide +kernel
theorem dX5_end_94 : decode cX5_end 94 = .ok (.bipush (-6), 2) := by decide +kernel
theorem dX5_end_96 : decode cX5_end 96 = .ok (.ireturn, 1) := by decide +kernel
theorem dX5_wet_0 : decode cX5_wet 0 = .ok (.aload_n 0, 1) := by decide +kernel
theorem dX5_wet_1 : decode cX5_wet 1 = .ok (.getfield 76, 3) := by decide +kernel
theorem dX5_wet_4 : decode cX5_wet 4 = .ok (.ifCond .ne 6, 3) := by decide +kernel
theorem dX5_wet_7 : decode cX5_wet 7 = .ok (.bipush (-3), 2) := by decide +kernel
theorem dX5_wet_9 : decode cX5_wet 9 = .ok (.ireturn, 1) := by decide +kernel
theorem dX5_wet_10 : decode cX5_wet 10 = .ok (.iload_n 1, 1) := by decide +kernel
theorem dX5_wet_11 : decode cX5_wet 11 = .ok (.i2l, 1) := by decide +kernel
theorem dX5_wet_12 : decode cX5_wet 12 = .ok (.lconst 0, 1) := by decide +kernel
theorem dX5_wet_13 : decode cX5_wet 13 = .ok (.aload_n 0, 1) := by decide +kernel
theorem dX5_wet_14 : decode cX5_wet 14 = .ok (.getfield 41, 3) := by decide +kernel
theorem dX5_wet_17 : decode cX5_wet 17 = .ok (.iconst 0, 1) := by decide +kernel
theorem dX5_wet_18 : decode cX5_wet 18 = .ok (.iaload, 1) := by decide +kernel
theorem dX5_wet_19 : decode cX5_wet 19 = .ok (.i2l, 1) := by decide +kernel
theorem dX5_wet_20 : decode cX5_wet 20 = .ok (.invokestatic 70, 3) := by decide +kernel
theorem dX5_wet_23 : decode cX5_wet 23 = .ok (.ifCond .eq 12, 3) := by decide +kernel
theorem dX5_wet_26 : decode cX5_wet 26 = .ok (.aload_n 0, 1) := by decide +kernel
theorem dX5_wet_27 : decode cX5_wet 27 = .ok (.getfield 62, 3) := by decide +kernel
theorem dX5_wet_30 : decode cX5_wet 30 = .ok (.iload_n 1, 1) := by decide +kernel
theorem dX5_wet_31 : decode cX5_wet 31 = .ok (.iaload, 1) := by decide +kernel
theorem dX5_wet_32 : decode cX5_wet 32 = .ok (.goto 4, 3) := by decide +kernel
theorem dX5_wet_35 : decode cX5_wet 35 = .ok (.iconst (-1), 1) := by decide +kernel
theorem dX5_wet_36 : decode cX5_wet 36 = .ok (.ireturn, 1) := by decide +kernel
theorem dX5_firstFallen_0 : decode cX5_firstFallen 0 = .ok (.aload_n 0, 1) := by decide +kernel
theorem dX5_firstFallen_1 : decode cX5_firstFallen 1 = .ok (.getfield 76, 3) := by decide +kernel
theorem dX5_firstFallen_4 : decode cX5_firstFallen 4 = .ok (.ifCond .eq 11, 3) := by decide +kernel
theorem dX5_firstFallen_7 : decode cX5_firstFallen 7 = .ok (.aload_n 0, 1) := by decide +kernel
theorem dX5_firstFallen_8 : decode cX5_firstFallen 8 = .ok (.iconst 0, 1) := by decide +kernel
theorem dX5_firstFallen_9 : decode cX5_firstFallen 9 = .ok (.invokevirtual 141, 3) := by decide +kernel
theorem dX5_firstFallen_12 : decode cX5_firstFallen 12 = .ok (.goto 5, 3) := by decide +kernel
theorem dX5_firstFallen_15 : decode cX5_firstFallen 15 = .ok (.bipush (-3), 2) := by decide +kernel
theorem dX5_firstFallen_17 : decode cX5_firstFallen 17 = .ok (.ireturn, 1) := by decide +kernel
theorem dX5_tries_0 : decode cX5_tries 0 = .ok (.aload_n 0, 1) := by decide +kernel
theorem dX5_tries_1 : decode cX5_tries 1 = .ok (.iconst 1, 1) := by decide +kernel
theorem dX5_tries_2 : decode cX5_tries 2 = .ok (.iload_n 2, 1) := by decide +kernel
theorem dX5_tries_3 : decode cX5_tries 3 = .ok (.invokevirtual 120, 3) := by decide +kernel
theorem dX5_tries_6 : decode cX5_tries 6 = .ok (.aload_n 0, 1) := by decide +kernel
theorem dX5_tries_7 : decode cX5_tries 7 = .ok (.iconst 1, 1) := by decide +kernel
theorem dX5_tries_8 : decode cX5_tries 8 = .ok (.invokevirtual 134, 3) := by decide +kernel
theorem dX5_tries_11 : decode cX5_tries 11 = .ok (.istore 4, 2) := by decide +kernel
theorem dX5_tries_13 : decode cX5_tries 13 = .ok (.iconst 0, 1) := by decide +kernel
theorem dX5_tries_14 : decode cX5_tries 14 = .ok (.istore 5, 2) := by decide +kernel
theorem dX5_tries_16 : decode cX5_tries 16 = .ok (.iload 5, 2) := by decide +kernel
theorem dX5_tries_18 : decode cX5_tries 18 = .ok (.iload_n 3, 1) := by decide +kernel
theorem dX5_tries_19 : decode cX5_tries 19 = .ok (.if_icmp .ge 28, 3) := by decide +kernel
theorem dX5_tries_22 : decode cX5_tries 22 = .ok (.iload 4, 2) := by decide +kernel
theorem dX5_tries_24 : decode cX5_tries 24 = .ok (.ifCond .le 23, 3) := by decide +kernel
theorem dX5_tries_27 : decode cX5_tries 27 = .ok (.aload_n 0, 1) := by decide +kernel
theorem dX5_tries_28 : decode cX5_tries 28 = .ok (.iconst 1, 1) := by decide +kernel
theorem dX5_tries_29 : decode cX5_tries 29 = .ok (.iload_n 1, 1) := by decide +kernel
theorem dX5_tries_30 : decode cX5_tries 30 = .ok (.iload_n 2, 1) := by decide +kernel
theorem dX5_tries_31 : decode cX5_tries 31 = .ok (.invokevirtual 130, 3) := by decide +kernel
theorem dX5_tries_34 : decode cX5_tries 34 = .ok (.aload_n 0, 1) := by decide +kernel
theorem dX5_tries_35 : decode cX5_tries 35 = .ok (.iconst 1, 1) := by decide +kernel
theorem dX5_tries_36 : decode cX5_tries 36 = .ok (.invokevirtual 134, 3) := by decide +kernel
theorem dX5_tries_39 : decode cX5_tries 39 = .ok (.istore 4, 2) := by decide +kernel
theorem dX5_tries_41 : decode cX5_tries 41 = .ok (.iinc 5 1, 3) := by decide +kernel
theorem dX5_tries_44 : decode cX5_tries 44 = .ok (.goto (-28), 3) := by decide +kernel
theorem dX5_tries_47 : decode cX5_tries 47 = .ok (.aload_n 0, 1) := by decide +kernel
theorem dX5_tries_48 : decode cX5_tries 48 = .ok (.iconst 1, 1) := by decide +kernel
theorem dX5_tries_49 : decode cX5_tries 49 = .ok (.invokevirtual 141, 3) := by decide +kernel
theorem dX5_tries_52 : decode cX5_tries 52 = .ok (.istore 5, 2) := by decide +kernel
theorem dX5_tries_54 : decode cX5_tries 54 = .ok (.aload_n 0, 1) := by decide +kernel
theorem dX5_tries_55 : decode cX5_tries 55 = .ok (.iconst 1, 1) := by decide +kernel
theorem dX5_tries_56 : decode cX5_tries 56 = .ok (.putfield 144, 3) := by decide +kernel
theorem dX5_tries_59 : decode cX5_tries 59 = .ok (.aload_n 0, 1) := by decide +kernel
theorem dX5_tries_60 : decode cX5_tries 60 = .ok (.getfield 65, 3) := by decide +kernel
theorem dX5_tries_63 : decode cX5_tries 63 = .ok (.iconst 0, 1) := by decide +kernel
theorem dX5_tries_64 : decode cX5_tries 64 = .ok (.aload_n 0, 1) := by decide +kernel
theorem dX5_tries_65 : decode cX5_tries 65 = .ok (.getfield 41, 3) := by decide +kernel
theorem dX5_tries_68 : decode cX5_tries 68 = .ok (.iconst 1, 1) := by decide +kernel
theorem dX5_tries_69 : decode cX5_tries 69 = .ok (.iaload, 1) := by decide +kernel
theorem dX5_tries_70 : decode cX5_tries 70 = .ok (.iastore, 1) := by decide +kernel
theorem dX5_tries_71 : decode cX5_tries 71 = .ok (.aload_n 0, 1) := by decide +kernel
theorem dX5_tries_72 : decode cX5_tries 72 = .ok (.getfield 65, 3) := by decide +kernel
theorem dX5_tries_75 : decode cX5_tries 75 = .ok (.iconst 1, 1) := by decide +kernel
theorem dX5_tries_76 : decode cX5_tries 76 = .ok (.iload 5, 2) := by decide +kernel
theorem dX5_tries_78 : decode cX5_tries 78 = .ok (.iastore, 1) := by decide +kernel
theorem dX5_tries_79 : decode cX5_tries 79 = .ok (.aload_n 0, 1) := by decide +kernel
theorem dX5_tries_80 : decode cX5_tries 80 = .ok (.getfield 65, 3) := by decide +kernel
theorem dX5_tries_83 : decode cX5_tries 83 = .ok (.iconst 2, 1) := by decide +kernel
theorem dX5_tries_84 : decode cX5_tries 84 = .ok (.iload 5, 2) := by decide +kernel
theorem dX5_tries_86 : decode cX5_tries 86 = .ok (.ifCond .ge 8, 3) := by decide +kernel
theorem dX5_tries_89 : decode cX5_tries 89 = .ok (.bipush (-6), 2) := by decide +kernel
theorem dX5_tries_91 : decode cX5_tries 91 = .ok (.goto 13, 3) := by decide +kernel
theorem dX5_tries_94 : decode cX5_tries 94 = .ok (.aload_n 0, 1) := by decide +kernel
theorem dX5_tries_95 : decode cX5_tries 95 = .ok (.getfield 35, 3) := by decide +kernel
theorem dX5_tries_98 : decode cX5_tries 98 = .ok (.bipush 24, 2) := by decide +kernel
theorem dX5_tries_100 : decode cX5_tries 100 = .ok (.iload 5, 2) := by decide +kernel
theorem dX5_tries_102 : decode cX5_tries 102 = .ok (.iadd, 1) := by decide +kernel
theorem dX5_tries_103 : decode cX5_tries 103 = .ok (.iaload, 1) := by decide +kernel
theorem dX5_tries_104 : decode cX5_tries 104 = .ok (.iastore, 1) := by decide +kernel
theorem dX5_tries_105 : decode cX5_tries 105 = .ok (.aload_n 0, 1) := by decide +kernel
theorem dX5_tries_106 : decode cX5_tries 106 = .ok (.getfield 65, 3) := by decide +kernel
theorem dX5_tries_109 : decode cX5_tries 109 = .ok (.iconst 3, 1) := by decide +kernel
theorem dX5_tries_110 : decode cX5_tries 110 = .ok (.aload_n 0, 1) := by decide +kernel
theorem dX5_tries_111 : decode cX5_tries 111 = .ok (.getfield 47, 3) := by decide +kernel
theorem dX5_tries_114 : decode cX5_tries 114 = .ok (.iconst 1, 1) := by decide +kernel
theorem dX5_tries_115 : decode cX5_tries 115 = .ok (.iaload, 1) := by decide +kernel
theorem dX5_tries_116 : decode cX5_tries 116 = .ok (.iastore, 1) := by decide +kernel
theorem dX5_tries_117 : decode cX5_tries 117 = .ok (.aload_n 0, 1) := by decide +kernel
theorem dX5_tries_118 : decode cX5_tries 118 = .ok (.getfield 65, 3) := by decide +kernel
theorem dX5_tries_121 : decode cX5_tries 121 = .ok (.iconst 4, 1) := by decide +kernel
theorem dX5_tries_122 : decode cX5_tries 122 = .ok (.iload 4, 2) := by decide +kernel
theorem dX5_tries_124 : decode cX5_tries 124 = .ok (.iastore, 1) := by decide +kernel
theorem dX5_tries_125 : decode cX5_tries 125 = .ok (.iload 5, 2) := by decide +kernel
theorem dX5_tries_127 : decode cX5_tries 127 = .ok (.ifCond .ge 7, 3) := by decide +kernel
theorem dX5_tries_130 : decode cX5_tries 130 = .ok (.iconst 1, 1) := by decide +kernel
theorem dX5_tries_131 : decode cX5_tries 131 = .ok (.goto 4, 3) := by decide +kernel
theorem dX5_tries_134 : decode cX5_tries 134 = .ok (.iconst 0, 1) := by decide +kernel
theorem dX5_tries_135 : decode cX5_tries 135 = .ok (.ireturn, 1) := by decide +kernel
theorem dX5_trial_0 : decode cX5_trial 0 = .ok (.iload_n 1, 1) := by decide +kernel
theorem dX5_trial_1 : decode cX5_trial 1 = .ok (.i2l, 1) := by decide +kernel
theorem dX5_trial_2 : decode cX5_trial 2 = .ok (.ldc2_w 96, 3) := by decide +kernel
theorem dX5_trial_5 : decode cX5_trial 5 = .ok (.ldc2_w 124, 3) := by decide +kernel
theorem dX5_trial_8 : decode cX5_trial 8 = .ok (.invokestatic 70, 3) := by decide +kernel
theorem dX5_trial_11 : decode cX5_trial 11 = .ok (.ifCond .eq 31, 3) := by decide +kernel
theorem dX5_trial_14 : decode cX5_trial 14 = .ok (.iload_n 2, 1) := by decide +kernel
theorem dX5_trial_15 : decode cX5_trial 15 = .ok (.i2l, 1) := by decide +kernel
theorem dX5_trial_16 : decode cX5_trial 16 = .ok (.lconst 0, 1) := by decide +kernel
theorem dX5_trial_17 : decode cX5_trial 17 = .ok (.ldc2_w 126, 3) := by decide +kernel
theorem dX5_trial_20 : decode cX5_trial 20 = .ok (.invokestatic 70, 3) := by decide +kernel
theorem dX5_trial_23 : decode cX5_trial 23 = .ok (.ifCond .eq 19, 3) := by decide +kernel
theorem dX5_trial_26 : decode cX5_trial 26 = .ok (.iload_n 3, 1) := by decide +kernel
theorem dX5_trial_27 : decode cX5_trial 27 = .ok (.i2l, 1) := by decide +kernel
theorem dX5_trial_28 : decode cX5_trial 28 = .ok (.lconst 1, 1) := by decide +kernel
theorem dX5_trial_29 : decode cX5_trial 29 = .ok (.ldc2_w 101, 3) := by decide +kernel
theorem dX5_trial_32 : decode cX5_trial 32 = .ok (.invokestatic 70, 3) := by decide +kernel
theorem dX5_trial_35 : decode cX5_trial 35 = .ok (.ifCond .eq 7, 3) := by decide +kernel
theorem dX5_trial_38 : decode cX5_trial 38 = .ok (.iconst 1, 1) := by decide +kernel
theorem dX5_trial_39 : decode cX5_trial 39 = .ok (.goto 4, 3) := by decide +kernel
theorem dX5_trial_42 : decode cX5_trial 42 = .ok (.iconst 0, 1) := by decide +kernel
theorem dX5_trial_43 : decode cX5_trial 43 = .ok (.istore 4, 2) := by decide +kernel
theorem dX5_trial_45 : decode cX5_trial 45 = .ok (.iload 4, 2) := by decide +kernel
theorem dX5_trial_47 : decode cX5_trial 47 = .ok (.ifCond .eq 13, 3) := by decide +kernel
theorem dX5_trial_50 : decode cX5_trial 50 = .ok (.aload_n 0, 1) := by decide +kernel
theorem dX5_trial_51 : decode cX5_trial 51 = .ok (.iload_n 1, 1) := by decide +kernel
theorem dX5_trial_52 : decode cX5_trial 52 = .ok (.iload_n 2, 1) := by decide +kernel
theorem dX5_trial_53 : decode cX5_trial 53 = .ok (.iload_n 3, 1) := by decide +kernel
theorem dX5_trial_54 : decode cX5_trial 54 = .ok (.invokevirtual 147, 3) := by decide +kernel
theorem dX5_trial_57 : decode cX5_trial 57 = .ok (.goto 5, 3) := by decide +kernel
theorem dX5_trial_60 : decode cX5_trial 60 = .ok (.bipush (-2), 2) := by decide +kernel
theorem dX5_trial_62 : decode cX5_trial 62 = .ok (.ireturn, 1) := by decide +kernel
theorem dX5_tried_0 : decode cX5_tried 0 = .ok (.iload_n 1, 1) := by decide +kernel
theorem dX5_tried_1 : decode cX5_tried 1 = .ok (.i2l, 1) := by decide +kernel
theorem dX5_tried_2 : decode cX5_tried 2 = .ok (.lconst 0, 1) := by decide +kernel
theorem dX5_tried_3 : decode cX5_tried 3 = .ok (.ldc2_w 68, 3) := by decide +kernel
theorem dX5_tried_6 : decode cX5_tried 6 = .ok (.invokestatic 70, 3) := by decide +kernel
theorem dX5_tried_9 : decode cX5_tried 9 = .ok (.ifCond .ne 6, 3) := by decide +kernel
theorem dX5_tried_12 : decode cX5_tried 12 = .ok (.bipush (-2), 2) := by decide +kernel
theorem dX5_tried_14 : decode cX5_tried 14 = .ok (.ireturn, 1) := by decide +kernel
theorem dX5_tried_15 : decode cX5_tried 15 = .ok (.aload_n 0, 1) := by decide +kernel
theorem dX5_tried_16 : decode cX5_tried 16 = .ok (.getfield 144, 3) := by decide +kernel
theorem dX5_tried_19 : decode cX5_tried 19 = .ok (.ifCond .eq 12, 3) := by decide +kernel
theorem dX5_tried_22 : decode cX5_tried 22 = .ok (.aload_n 0, 1) := by decide +kernel
theorem dX5_tried_23 : decode cX5_tried 23 = .ok (.getfield 65, 3) := by decide +kernel
theorem dX5_tried_26 : decode cX5_tried 26 = .ok (.iload_n 1, 1) := by decide +kernel
theorem dX5_tried_27 : decode cX5_tried 27 = .ok (.iaload, 1) := by decide +kernel
theorem dX5_tried_28 : decode cX5_tried 28 = .ok (.goto 5, 3) := by decide +kernel
theorem dX5_tried_31 : decode cX5_tried 31 = .ok (.bipush (-3), 2) := by decide +kernel
theorem dX5_tried_33 : decode cX5_tried 33 = .ok (.ireturn, 1) := by decide +kernel
theorem dX5_edge_0 : decode cX5_edge 0 = .ok (.iload_n 1, 1) := by decide +kernel
theorem dX5_edge_1 : decode cX5_edge 1 = .ok (.i2l, 1) := by decide +kernel
theorem dX5_edge_2 : decode cX5_edge 2 = .ok (.lconst 0, 1) := by decide +kernel
theorem dX5_edge_3 : decode cX5_edge 3 = .ok (.ldc2_w 126, 3) := by decide +kernel
theorem dX5_edge_6 : decode cX5_edge 6 = .ok (.invokestatic 70, 3) := by decide +kernel
theorem dX5_edge_9 : decode cX5_edge 9 = .ok (.ifCond .eq 15, 3) := by decide +kernel
theorem dX5_edge_12 : decode cX5_edge 12 = .ok (.iload_n 2, 1) := by decide +kernel
theorem dX5_edge_13 : decode cX5_edge 13 = .ok (.i2l, 1) := by decide +kernel
theorem dX5_edge_14 : decode cX5_edge 14 = .ok (.lconst 1, 1) := by decide +kernel
theorem dX5_edge_15 : decode cX5_edge 15 = .ok (.ldc2_w 101, 3) := by decide +kernel
theorem dX5_edge_18 : decode cX5_edge 18 = .ok (.invokestatic 70, 3) := by decide +kernel
theorem dX5_edge_21 : decode cX5_edge 21 = .ok (.ifCond .ne 7, 3) := by decide +kernel
theorem dX5_edge_24 : decode cX5_edge 24 = .ok (.sipush (-10002), 3) := by decide +kernel
theorem dX5_edge_27 : decode cX5_edge 27 = .ok (.ireturn, 1) := by decide +kernel
theorem dX5_edge_28 : decode cX5_edge 28 = .ok (.sipush (-600), 3) := by decide +kernel
theorem dX5_edge_31 : decode cX5_edge 31 = .ok (.istore_n 3, 1) := by decide +kernel
theorem dX5_edge_32 : decode cX5_edge 32 = .ok (.iload_n 3, 1) := by decide +kernel
theorem dX5_edge_33 : decode cX5_edge 33 = .ok (.sipush 400, 3) := by decide +kernel
theorem dX5_edge_36 : decode cX5_edge 36 = .ok (.if_icmp .gt 37, 3) := by decide +kernel
theorem dX5_edge_39 : decode cX5_edge 39 = .ok (.aload_n 0, 1) := by decide +kernel
theorem dX5_edge_40 : decode cX5_edge 40 = .ok (.iload_n 3, 1) := by decide +kernel
theorem dX5_edge_41 : decode cX5_edge 41 = .ok (.iload_n 1, 1) := by decide +kernel
theorem dX5_edge_42 : decode cX5_edge 42 = .ok (.iload_n 2, 1) := by decide +kernel
theorem dX5_edge_43 : decode cX5_edge 43 = .ok (.invokevirtual 147, 3) := by decide +kernel
theorem dX5_edge_46 : decode cX5_edge 46 = .ok (.ifCond .ne 21, 3) := by decide +kernel
theorem dX5_edge_49 : decode cX5_edge 49 = .ok (.iload_n 3, 1) := by decide +kernel
theorem dX5_edge_50 : decode cX5_edge 50 = .ok (.sipush (-600), 3) := by decide +kernel
theorem dX5_edge_53 : decode cX5_edge 53 = .ok (.if_icmp .ne 9, 3) := by decide +kernel
theorem dX5_edge_56 : decode cX5_edge 56 = .ok (.sipush (-10000), 3) := by decide +kernel
theorem dX5_edge_59 : decode cX5_edge 59 = .ok (.goto 7, 3) := by decide +kernel
theorem dX5_edge_62 : decode cX5_edge 62 = .ok (.iload_n 3, 1) := by decide +kernel
theorem dX5_edge_63 : decode cX5_edge 63 = .ok (.bipush 50, 2) := by decide +kernel
theorem dX5_edge_65 : decode cX5_edge 65 = .ok (.isub, 1) := by decide +kernel
theorem dX5_edge_66 : decode cX5_edge 66 = .ok (.ireturn, 1) := by decide +kernel
theorem dX5_edge_67 : decode cX5_edge 67 = .ok (.iinc 3 50, 3) := by decide +kernel
theorem dX5_edge_70 : decode cX5_edge 70 = .ok (.goto (-38), 3) := by decide +kernel
theorem dX5_edge_73 : decode cX5_edge 73 = .ok (.sipush 400, 3) := by decide +kernel
theorem dX5_edge_76 : decode cX5_edge 76 = .ok (.ireturn, 1) := by decide +kernel
theorem dX5_told_0 : decode cX5_told 0 = .ok (.iload_n 1, 1) := by decide +kernel
theorem dX5_told_1 : decode cX5_told 1 = .ok (.i2l, 1) := by decide +kernel
theorem dX5_told_2 : decode cX5_told 2 = .ok (.ldc2_w 84, 3) := by decide +kernel
theorem dX5_told_5 : decode cX5_told 5 = .ok (.ldc2_w 150, 3) := by decide +kernel
theorem dX5_told_8 : decode cX5_told 8 = .ok (.invokestatic 70, 3) := by decide +kernel
theorem dX5_told_11 : decode cX5_told 11 = .ok (.ifCond .eq 13, 3) := by decide +kernel
theorem dX5_told_14 : decode cX5_told 14 = .ok (.aload_n 0, 1) := by decide +kernel
theorem dX5_told_15 : decode cX5_told 15 = .ok (.getfield 16, 3) := by decide +kernel
theorem dX5_told_18 : decode cX5_told 18 = .ok (.iload_n 1, 1) := by decide +kernel
theorem dX5_told_19 : decode cX5_told 19 = .ok (.bipush 10, 2) := by decide +kernel
theorem dX5_told_21 : decode cX5_told 21 = .ok (.isub, 1) := by decide +kernel
theorem dX5_told_22 : decode cX5_told 22 = .ok (.iaload, 1) := by decide +kernel
theorem dX5_told_23 : decode cX5_told 23 = .ok (.ireturn, 1) := by decide +kernel
theorem dX5_told_24 : decode cX5_told 24 = .ok (.iload_n 1, 1) := by decide +kernel
theorem dX5_told_25 : decode cX5_told 25 = .ok (.tableswitch 59 0 3 #[31, 36, 41, 46], 31) := by decide +kernel
theorem dX5_told_56 : decode cX5_told 56 = .ok (.aload_n 0, 1) := by decide +kernel
theorem dX5_told_57 : decode cX5_told 57 = .ok (.getfield 7, 3) := by decide +kernel
theorem dX5_told_60 : decode cX5_told 60 = .ok (.ireturn, 1) := by decide +kernel
theorem dX5_told_61 : decode cX5_told 61 = .ok (.aload_n 0, 1) := by decide +kernel
theorem dX5_told_62 : decode cX5_told 62 = .ok (.getfield 13, 3) := by decide +kernel
theorem dX5_told_65 : decode cX5_told 65 = .ok (.ireturn, 1) := by decide +kernel
theorem dX5_told_66 : decode cX5_told 66 = .ok (.aload_n 0, 1) := by decide +kernel
theorem dX5_told_67 : decode cX5_told 67 = .ok (.invokevirtual 80, 3) := by decide +kernel
theorem dX5_told_70 : decode cX5_told 70 = .ok (.ireturn, 1) := by decide +kernel
theorem dX5_told_71 : decode cX5_told 71 = .ok (.aload_n 0, 1) := by decide +kernel
theorem dX5_told_72 : decode cX5_told 72 = .ok (.getfield 76, 3) := by decide +kernel
theorem dX5_told_75 : decode cX5_told 75 = .ok (.ifCond .eq 7, 3) := by decide +kernel
theorem dX5_told_78 : decode cX5_told 78 = .ok (.iconst 1, 1) := by decide +kernel
theorem dX5_told_79 : decode cX5_told 79 = .ok (.goto 4, 3) := by decide +kernel
theorem dX5_told_82 : decode cX5_told 82 = .ok (.iconst 0, 1) := by decide +kernel
theorem dX5_told_83 : decode cX5_told 83 = .ok (.ireturn, 1) := by decide +kernel
theorem dX5_told_84 : decode cX5_told 84 = .ok (.sipush (-10002), 3) := by decide +kernel
theorem dX5_told_87 : decode cX5_told 87 = .ok (.ireturn, 1) := by decide +kernel
