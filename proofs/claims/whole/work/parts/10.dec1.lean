theorem dX12_faultOf_1 : decode cX12_faultOf 1 = .ok (.getfield 85, 3) := by decide +kernel
theorem dX12_faultOf_4 : decode cX12_faultOf 4 = .ok (.iload_n 1, 1) := by decide +kernel
theorem dX12_faultOf_5 : decode cX12_faultOf 5 = .ok (.iaload, 1) := by decide +kernel
theorem dX12_faultOf_6 : decode cX12_faultOf 6 = .ok (.istore_n 2, 1) := by decide +kernel
theorem dX12_faultOf_7 : decode cX12_faultOf 7 = .ok (.bipush 6, 2) := by decide +kernel
theorem dX12_faultOf_9 : decode cX12_faultOf 9 = .ok (.iload_n 1, 1) := by decide +kernel
theorem dX12_faultOf_10 : decode cX12_faultOf 10 = .ok (.imul, 1) := by decide +kernel
theorem dX12_faultOf_11 : decode cX12_faultOf 11 = .ok (.istore_n 3, 1) := by decide +kernel
theorem dX12_faultOf_12 : decode cX12_faultOf 12 = .ok (.aload_n 0, 1) := by decide +kernel
theorem dX12_faultOf_13 : decode cX12_faultOf 13 = .ok (.bipush 6, 2) := by decide +kernel
theorem dX12_faultOf_15 : decode cX12_faultOf 15 = .ok (.iload_n 2, 1) := by decide +kernel
theorem dX12_faultOf_16 : decode cX12_faultOf 16 = .ok (.iadd, 1) := by decide +kernel
theorem dX12_faultOf_17 : decode cX12_faultOf 17 = .ok (.aload_n 0, 1) := by decide +kernel
theorem dX12_faultOf_18 : decode cX12_faultOf 18 = .ok (.getfield 16, 3) := by decide +kernel
theorem dX12_faultOf_21 : decode cX12_faultOf 21 = .ok (.iload_n 2, 1) := by decide +kernel
theorem dX12_faultOf_22 : decode cX12_faultOf 22 = .ok (.iaload, 1) := by decide +kernel
theorem dX12_faultOf_23 : decode cX12_faultOf 23 = .ok (.aload_n 0, 1) := by decide +kernel
theorem dX12_faultOf_24 : decode cX12_faultOf 24 = .ok (.getfield 19, 3) := by decide +kernel
theorem dX12_faultOf_27 : decode cX12_faultOf 27 = .ok (.iload_n 2, 1) := by decide +kernel
theorem dX12_faultOf_28 : decode cX12_faultOf 28 = .ok (.iaload, 1) := by decide +kernel
theorem dX12_faultOf_29 : decode cX12_faultOf 29 = .ok (.aload_n 0, 1) := by decide +kernel
theorem dX12_faultOf_30 : decode cX12_faultOf 30 = .ok (.getfield 88, 3) := by decide +kernel
theorem dX12_faultOf_33 : decode cX12_faultOf 33 = .ok (.iload_n 3, 1) := by decide +kernel
theorem dX12_faultOf_34 : decode cX12_faultOf 34 = .ok (.iaload, 1) := by decide +kernel
theorem dX12_faultOf_35 : decode cX12_faultOf 35 = .ok (.aload_n 0, 1) := by decide +kernel
theorem dX12_faultOf_36 : decode cX12_faultOf 36 = .ok (.getfield 88, 3) := by decide +kernel
theorem dX12_faultOf_39 : decode cX12_faultOf 39 = .ok (.iload_n 3, 1) := by decide +kernel
theorem dX12_faultOf_40 : decode cX12_faultOf 40 = .ok (.iconst 1, 1) := by decide +kernel
theorem dX12_faultOf_41 : decode cX12_faultOf 41 = .ok (.iadd, 1) := by decide +kernel
theorem dX12_faultOf_42 : decode cX12_faultOf 42 = .ok (.iaload, 1) := by decide +kernel
theorem dX12_faultOf_43 : decode cX12_faultOf 43 = .ok (.aload_n 0, 1) := by decide +kernel
theorem dX12_faultOf_44 : decode cX12_faultOf 44 = .ok (.getfield 88, 3) := by decide +kernel
theorem dX12_faultOf_47 : decode cX12_faultOf 47 = .ok (.iload_n 3, 1) := by decide +kernel
theorem dX12_faultOf_48 : decode cX12_faultOf 48 = .ok (.iconst 2, 1) := by decide +kernel
theorem dX12_faultOf_49 : decode cX12_faultOf 49 = .ok (.iadd, 1) := by decide +kernel
theorem dX12_faultOf_50 : decode cX12_faultOf 50 = .ok (.iaload, 1) := by decide +kernel
theorem dX12_faultOf_51 : decode cX12_faultOf 51 = .ok (.aload_n 0, 1) := by decide +kernel
theorem dX12_faultOf_52 : decode cX12_faultOf 52 = .ok (.getfield 91, 3) := by decide +kernel
theorem dX12_faultOf_55 : decode cX12_faultOf 55 = .ok (.iload_n 1, 1) := by decide +kernel
theorem dX12_faultOf_56 : decode cX12_faultOf 56 = .ok (.iaload, 1) := by decide +kernel
theorem dX12_faultOf_57 : decode cX12_faultOf 57 = .ok (.aload_n 0, 1) := by decide +kernel
theorem dX12_faultOf_58 : decode cX12_faultOf 58 = .ok (.getfield 88, 3) := by decide +kernel
theorem dX12_faultOf_61 : decode cX12_faultOf 61 = .ok (.iload_n 3, 1) := by decide +kernel
theorem dX12_faultOf_62 : decode cX12_faultOf 62 = .ok (.iconst 4, 1) := by decide +kernel
theorem dX12_faultOf_63 : decode cX12_faultOf 63 = .ok (.iadd, 1) := by decide +kernel
theorem dX12_faultOf_64 : decode cX12_faultOf 64 = .ok (.iaload, 1) := by decide +kernel
theorem dX12_faultOf_65 : decode cX12_faultOf 65 = .ok (.invokevirtual 196, 3) := by decide +kernel
theorem dX12_faultOf_68 : decode cX12_faultOf 68 = .ok (.ireturn, 1) := by decide +kernel
theorem dX12_act_0 : decode cX12_act 0 = .ok (.aload_n 0, 1) := by decide +kernel
theorem dX12_act_1 : decode cX12_act 1 = .ok (.aload_n 0, 1) := by decide +kernel
theorem dX12_act_2 : decode cX12_act 2 = .ok (.iload_n 1, 1) := by decide +kernel
theorem dX12_act_3 : decode cX12_act 3 = .ok (.iload_n 2, 1) := by decide +kernel
theorem dX12_act_4 : decode cX12_act 4 = .ok (.iload_n 3, 1) := by decide +kernel
theorem dX12_act_5 : decode cX12_act 5 = .ok (.iload 4, 2) := by decide +kernel
theorem dX12_act_7 : decode cX12_act 7 = .ok (.invokevirtual 257, 3) := by decide +kernel
theorem dX12_act_10 : decode cX12_act 10 = .ok (.invokevirtual 143, 3) := by decide +kernel
theorem dX12_act_13 : decode cX12_act 13 = .ok (.ifCond .ne 5, 3) := by decide +kernel
theorem dX12_act_16 : decode cX12_act 16 = .ok (.iconst 0, 1) := by decide +kernel
theorem dX12_act_17 : decode cX12_act 17 = .ok (.ireturn, 1) := by decide +kernel
theorem dX12_act_18 : decode cX12_act 18 = .ok (.bipush 6, 2) := by decide +kernel
theorem dX12_act_20 : decode cX12_act 20 = .ok (.aload_n 0, 1) := by decide +kernel
theorem dX12_act_21 : decode cX12_act 21 = .ok (.getfield 260, 3) := by decide +kernel
theorem dX12_act_24 : decode cX12_act 24 = .ok (.imul, 1) := by decide +kernel
theorem dX12_act_25 : decode cX12_act 25 = .ok (.istore 5, 2) := by decide +kernel
theorem dX12_act_27 : decode cX12_act 27 = .ok (.aload_n 0, 1) := by decide +kernel
theorem dX12_act_28 : decode cX12_act 28 = .ok (.getfield 88, 3) := by decide +kernel
theorem dX12_act_31 : decode cX12_act 31 = .ok (.iload 5, 2) := by decide +kernel
theorem dX12_act_33 : decode cX12_act 33 = .ok (.iload_n 2, 1) := by decide +kernel
theorem dX12_act_34 : decode cX12_act 34 = .ok (.iastore, 1) := by decide +kernel
theorem dX12_act_35 : decode cX12_act 35 = .ok (.aload_n 0, 1) := by decide +kernel
theorem dX12_act_36 : decode cX12_act 36 = .ok (.getfield 88, 3) := by decide +kernel
theorem dX12_act_39 : decode cX12_act 39 = .ok (.iload 5, 2) := by decide +kernel
theorem dX12_act_41 : decode cX12_act 41 = .ok (.iconst 1, 1) := by decide +kernel
theorem dX12_act_42 : decode cX12_act 42 = .ok (.iadd, 1) := by decide +kernel
theorem dX12_act_43 : decode cX12_act 43 = .ok (.iload_n 3, 1) := by decide +kernel
theorem dX12_act_44 : decode cX12_act 44 = .ok (.iastore, 1) := by decide +kernel
theorem dX12_act_45 : decode cX12_act 45 = .ok (.aload_n 0, 1) := by decide +kernel
theorem dX12_act_46 : decode cX12_act 46 = .ok (.getfield 88, 3) := by decide +kernel
theorem dX12_act_49 : decode cX12_act 49 = .ok (.iload 5, 2) := by decide +kernel
theorem dX12_act_51 : decode cX12_act 51 = .ok (.iconst 2, 1) := by decide +kernel
theorem dX12_act_52 : decode cX12_act 52 = .ok (.iadd, 1) := by decide +kernel
theorem dX12_act_53 : decode cX12_act 53 = .ok (.aload_n 0, 1) := by decide +kernel
theorem dX12_act_54 : decode cX12_act 54 = .ok (.getfield 190, 3) := by decide +kernel
theorem dX12_act_57 : decode cX12_act 57 = .ok (.iastore, 1) := by decide +kernel
theorem dX12_act_58 : decode cX12_act 58 = .ok (.aload_n 0, 1) := by decide +kernel
theorem dX12_act_59 : decode cX12_act 59 = .ok (.getfield 88, 3) := by decide +kernel
theorem dX12_act_62 : decode cX12_act 62 = .ok (.iload 5, 2) := by decide +kernel
theorem dX12_act_64 : decode cX12_act 64 = .ok (.iconst 3, 1) := by decide +kernel
theorem dX12_act_65 : decode cX12_act 65 = .ok (.iadd, 1) := by decide +kernel
theorem dX12_act_66 : decode cX12_act 66 = .ok (.iload 4, 2) := by decide +kernel
theorem dX12_act_68 : decode cX12_act 68 = .ok (.iastore, 1) := by decide +kernel
theorem dX12_act_69 : decode cX12_act 69 = .ok (.aload_n 0, 1) := by decide +kernel
theorem dX12_act_70 : decode cX12_act 70 = .ok (.getfield 88, 3) := by decide +kernel
theorem dX12_act_73 : decode cX12_act 73 = .ok (.iload 5, 2) := by decide +kernel
theorem dX12_act_75 : decode cX12_act 75 = .ok (.iconst 4, 1) := by decide +kernel
theorem dX12_act_76 : decode cX12_act 76 = .ok (.iadd, 1) := by decide +kernel
theorem dX12_act_77 : decode cX12_act 77 = .ok (.aload_n 0, 1) := by decide +kernel
theorem dX12_act_78 : decode cX12_act 78 = .ok (.getfield 193, 3) := by decide +kernel
theorem dX12_act_81 : decode cX12_act 81 = .ok (.iastore, 1) := by decide +kernel
theorem dX12_act_82 : decode cX12_act 82 = .ok (.aload_n 0, 1) := by decide +kernel
theorem dX12_act_83 : decode cX12_act 83 = .ok (.getfield 88, 3) := by decide +kernel
theorem dX12_act_86 : decode cX12_act 86 = .ok (.iload 5, 2) := by decide +kernel
theorem dX12_act_88 : decode cX12_act 88 = .ok (.iconst 5, 1) := by decide +kernel
theorem dX12_act_89 : decode cX12_act 89 = .ok (.iadd, 1) := by decide +kernel
theorem dX12_act_90 : decode cX12_act 90 = .ok (.aload_n 0, 1) := by decide +kernel
theorem dX12_act_91 : decode cX12_act 91 = .ok (.getfield 150, 3) := by decide +kernel
theorem dX12_act_94 : decode cX12_act 94 = .ok (.iastore, 1) := by decide +kernel
theorem dX12_act_95 : decode cX12_act 95 = .ok (.aload_n 0, 1) := by decide +kernel
theorem dX12_act_96 : decode cX12_act 96 = .ok (.getfield 91, 3) := by decide +kernel
theorem dX12_act_99 : decode cX12_act 99 = .ok (.aload_n 0, 1) := by decide +kernel
theorem dX12_act_100 : decode cX12_act 100 = .ok (.getfield 260, 3) := by decide +kernel
theorem dX12_act_103 : decode cX12_act 103 = .ok (.iload 4, 2) := by decide +kernel
theorem dX12_act_105 : decode cX12_act 105 = .ok (.iastore, 1) := by decide +kernel
theorem dX12_act_106 : decode cX12_act 106 = .ok (.aload_n 0, 1) := by decide +kernel
theorem dX12_act_107 : decode cX12_act 107 = .ok (.getfield 85, 3) := by decide +kernel
theorem dX12_act_110 : decode cX12_act 110 = .ok (.aload_n 0, 1) := by decide +kernel
theorem dX12_act_111 : decode cX12_act 111 = .ok (.getfield 260, 3) := by decide +kernel
theorem dX12_act_114 : decode cX12_act 114 = .ok (.aload_n 0, 1) := by decide +kernel
theorem dX12_act_115 : decode cX12_act 115 = .ok (.iload_n 1, 1) := by decide +kernel
theorem dX12_act_116 : decode cX12_act 116 = .ok (.iconst 3, 1) := by decide +kernel
theorem dX12_act_117 : decode cX12_act 117 = .ok (.aload_n 0, 1) := by decide +kernel
theorem dX12_act_118 : decode cX12_act 118 = .ok (.getfield 260, 3) := by decide +kernel
theorem dX12_act_121 : decode cX12_act 121 = .ok (.invokevirtual 203, 3) := by decide +kernel
theorem dX12_act_124 : decode cX12_act 124 = .ok (.iastore, 1) := by decide +kernel
theorem dX12_act_125 : decode cX12_act 125 = .ok (.aload_n 0, 1) := by decide +kernel
theorem dX12_act_126 : decode cX12_act 126 = .ok (.getfield 82, 3) := by decide +kernel
theorem dX12_act_129 : decode cX12_act 129 = .ok (.sipush 160, 3) := by decide +kernel
theorem dX12_act_132 : decode cX12_act 132 = .ok (.iload_n 1, 1) := by decide +kernel
theorem dX12_act_133 : decode cX12_act 133 = .ok (.imul, 1) := by decide +kernel
theorem dX12_act_134 : decode cX12_act 134 = .ok (.aload_n 0, 1) := by decide +kernel
theorem dX12_act_135 : decode cX12_act 135 = .ok (.getfield 79, 3) := by decide +kernel
theorem dX12_act_138 : decode cX12_act 138 = .ok (.iload_n 1, 1) := by decide +kernel
theorem dX12_act_139 : decode cX12_act 139 = .ok (.iaload, 1) := by decide +kernel
theorem dX12_act_140 : decode cX12_act 140 = .ok (.iadd, 1) := by decide +kernel
theorem dX12_act_141 : decode cX12_act 141 = .ok (.aload_n 0, 1) := by decide +kernel
theorem dX12_act_142 : decode cX12_act 142 = .ok (.getfield 260, 3) := by decide +kernel
theorem dX12_act_145 : decode cX12_act 145 = .ok (.iastore, 1) := by decide +kernel
theorem dX12_act_146 : decode cX12_act 146 = .ok (.aload_n 0, 1) := by decide +kernel
theorem dX12_act_147 : decode cX12_act 147 = .ok (.getfield 94, 3) := by decide +kernel
theorem dX12_act_150 : decode cX12_act 150 = .ok (.aload_n 0, 1) := by decide +kernel
theorem dX12_act_151 : decode cX12_act 151 = .ok (.getfield 260, 3) := by decide +kernel
theorem dX12_act_154 : decode cX12_act 154 = .ok (.aload_n 0, 1) := by decide +kernel
theorem dX12_act_155 : decode cX12_act 155 = .ok (.iload_n 1, 1) := by decide +kernel
theorem dX12_act_156 : decode cX12_act 156 = .ok (.aload_n 0, 1) := by decide +kernel
theorem dX12_act_157 : decode cX12_act 157 = .ok (.getfield 79, 3) := by decide +kernel
theorem dX12_act_160 : decode cX12_act 160 = .ok (.iload_n 1, 1) := by decide +kernel
theorem dX12_act_161 : decode cX12_act 161 = .ok (.iaload, 1) := by decide +kernel
theorem dX12_act_162 : decode cX12_act 162 = .ok (.invokevirtual 263, 3) := by decide +kernel
theorem dX12_act_165 : decode cX12_act 165 = .ok (.iastore, 1) := by decide +kernel
theorem dX12_act_166 : decode cX12_act 166 = .ok (.aload_n 0, 1) := by decide +kernel
theorem dX12_act_167 : decode cX12_act 167 = .ok (.getfield 97, 3) := by decide +kernel
theorem dX12_act_170 : decode cX12_act 170 = .ok (.aload_n 0, 1) := by decide +kernel
theorem dX12_act_171 : decode cX12_act 171 = .ok (.getfield 260, 3) := by decide +kernel
theorem dX12_act_174 : decode cX12_act 174 = .ok (.aload_n 0, 1) := by decide +kernel
theorem dX12_act_175 : decode cX12_act 175 = .ok (.aload_n 0, 1) := by decide +kernel
theorem dX12_act_176 : decode cX12_act 176 = .ok (.getfield 260, 3) := by decide +kernel
theorem dX12_act_179 : decode cX12_act 179 = .ok (.invokevirtual 266, 3) := by decide +kernel
theorem dX12_act_182 : decode cX12_act 182 = .ok (.ifCond .ne 7, 3) := by decide +kernel
theorem dX12_act_185 : decode cX12_act 185 = .ok (.iconst 1, 1) := by decide +kernel
theorem dX12_act_186 : decode cX12_act 186 = .ok (.goto 4, 3) := by decide +kernel
theorem dX12_act_189 : decode cX12_act 189 = .ok (.iconst 0, 1) := by decide +kernel
theorem dX12_act_190 : decode cX12_act 190 = .ok (.bastore, 1) := by decide +kernel
theorem dX12_act_191 : decode cX12_act 191 = .ok (.aload_n 0, 1) := by decide +kernel
theorem dX12_act_192 : decode cX12_act 192 = .ok (.dup, 1) := by decide +kernel
theorem dX12_act_193 : decode cX12_act 193 = .ok (.getfield 260, 3) := by decide +kernel
theorem dX12_act_196 : decode cX12_act 196 = .ok (.iconst 1, 1) := by decide +kernel
theorem dX12_act_197 : decode cX12_act 197 = .ok (.iadd, 1) := by decide +kernel
theorem dX12_act_198 : decode cX12_act 198 = .ok (.putfield 260, 3) := by decide +kernel
theorem dX12_act_201 : decode cX12_act 201 = .ok (.aload_n 0, 1) := by decide +kernel
theorem dX12_act_202 : decode cX12_act 202 = .ok (.getfield 79, 3) := by decide +kernel
theorem dX12_act_205 : decode cX12_act 205 = .ok (.iload_n 1, 1) := by decide +kernel
theorem dX12_act_206 : decode cX12_act 206 = .ok (.dup2, 1) := by decide +kernel
theorem dX12_act_207 : decode cX12_act 207 = .ok (.iaload, 1) := by decide +kernel
theorem dX12_act_208 : decode cX12_act 208 = .ok (.iconst 1, 1) := by decide +kernel
theorem dX12_act_209 : decode cX12_act 209 = .ok (.iadd, 1) := by decide +kernel
theorem dX12_act_210 : decode cX12_act 210 = .ok (.iastore, 1) := by decide +kernel
theorem dX12_act_211 : decode cX12_act 211 = .ok (.aload_n 0, 1) := by decide +kernel
theorem dX12_act_212 : decode cX12_act 212 = .ok (.getfield 79, 3) := by decide +kernel
theorem dX12_act_215 : decode cX12_act 215 = .ok (.iload_n 1, 1) := by decide +kernel
theorem dX12_act_216 : decode cX12_act 216 = .ok (.iaload, 1) := by decide +kernel
theorem dX12_act_217 : decode cX12_act 217 = .ok (.iconst 1, 1) := by decide +kernel
theorem dX12_act_218 : decode cX12_act 218 = .ok (.isub, 1) := by decide +kernel
theorem dX12_act_219 : decode cX12_act 219 = .ok (.ireturn, 1) := by decide +kernel
theorem dX12_tamper_0 : decode cX12_tamper 0 = .ok (.aload_n 0, 1) := by decide +kernel
theorem dX12_tamper_1 : decode cX12_tamper 1 = .ok (.aload_n 0, 1) := by decide +kernel
theorem dX12_tamper_2 : decode cX12_tamper 2 = .ok (.iload_n 1, 1) := by decide +kernel
theorem dX12_tamper_3 : decode cX12_tamper 3 = .ok (.iload_n 2, 1) := by decide +kernel
theorem dX12_tamper_4 : decode cX12_tamper 4 = .ok (.invokevirtual 269, 3) := by decide +kernel
theorem dX12_tamper_7 : decode cX12_tamper 7 = .ok (.ifCond .ne 7, 3) := by decide +kernel
theorem dX12_tamper_10 : decode cX12_tamper 10 = .ok (.iconst 1, 1) := by decide +kernel
theorem dX12_tamper_11 : decode cX12_tamper 11 = .ok (.goto 19, 3) := by decide +kernel
theorem dX12_tamper_14 : decode cX12_tamper 14 = .ok (.iload_n 3, 1) := by decide +kernel
theorem dX12_tamper_15 : decode cX12_tamper 15 = .ok (.iconst 1, 1) := by decide +kernel
theorem dX12_tamper_16 : decode cX12_tamper 16 = .ok (.sipush 10000, 3) := by decide +kernel
theorem dX12_tamper_19 : decode cX12_tamper 19 = .ok (.invokestatic 124, 3) := by decide +kernel
theorem dX12_tamper_22 : decode cX12_tamper 22 = .ok (.ifCond .eq 7, 3) := by decide +kernel
theorem dX12_tamper_25 : decode cX12_tamper 25 = .ok (.iconst 0, 1) := by decide +kernel
theorem dX12_tamper_26 : decode cX12_tamper 26 = .ok (.goto 4, 3) := by decide +kernel
theorem dX12_tamper_29 : decode cX12_tamper 29 = .ok (.iconst 2, 1) := by decide +kernel
theorem dX12_tamper_30 : decode cX12_tamper 30 = .ok (.invokevirtual 143, 3) := by decide +kernel
theorem dX12_tamper_33 : decode cX12_tamper 33 = .ok (.ifCond .ne 5, 3) := by decide +kernel
theorem dX12_tamper_36 : decode cX12_tamper 36 = .ok (.iconst 0, 1) := by decide +kernel
theorem dX12_tamper_37 : decode cX12_tamper 37 = .ok (.ireturn, 1) := by decide +kernel
theorem dX12_tamper_38 : decode cX12_tamper 38 = .ok (.bipush 6, 2) := by decide +kernel
theorem dX12_tamper_40 : decode cX12_tamper 40 = .ok (.aload_n 0, 1) := by decide +kernel
theorem dX12_tamper_41 : decode cX12_tamper 41 = .ok (.getfield 82, 3) := by decide +kernel
theorem dX12_tamper_44 : decode cX12_tamper 44 = .ok (.sipush 160, 3) := by decide +kernel
theorem dX12_tamper_47 : decode cX12_tamper 47 = .ok (.iload_n 1, 1) := by decide +kernel
theorem dX12_tamper_48 : decode cX12_tamper 48 = .ok (.imul, 1) := by decide +kernel
theorem dX12_tamper_49 : decode cX12_tamper 49 = .ok (.iload_n 2, 1) := by decide +kernel
theorem dX12_tamper_50 : decode cX12_tamper 50 = .ok (.iadd, 1) := by decide +kernel
theorem dX12_tamper_51 : decode cX12_tamper 51 = .ok (.iaload, 1) := by decide +kernel
theorem dX12_tamper_52 : decode cX12_tamper 52 = .ok (.imul, 1) := by decide +kernel
theorem dX12_tamper_53 : decode cX12_tamper 53 = .ok (.iconst 3, 1) := by decide +kernel
theorem dX12_tamper_54 : decode cX12_tamper 54 = .ok (.iadd, 1) := by decide +kernel
theorem dX12_tamper_55 : decode cX12_tamper 55 = .ok (.istore 4, 2) := by decide +kernel
theorem dX12_tamper_57 : decode cX12_tamper 57 = .ok (.aload_n 0, 1) := by decide +kernel
theorem dX12_tamper_58 : decode cX12_tamper 58 = .ok (.getfield 88, 3) := by decide +kernel
theorem dX12_tamper_61 : decode cX12_tamper 61 = .ok (.iload 4, 2) := by decide +kernel
theorem dX12_tamper_63 : decode cX12_tamper 63 = .ok (.iaload, 1) := by decide +kernel
theorem dX12_tamper_64 : decode cX12_tamper 64 = .ok (.istore 5, 2) := by decide +kernel
theorem dX12_tamper_66 : decode cX12_tamper 66 = .ok (.aload_n 0, 1) := by decide +kernel
theorem dX12_tamper_67 : decode cX12_tamper 67 = .ok (.getfield 88, 3) := by decide +kernel
theorem dX12_tamper_70 : decode cX12_tamper 70 = .ok (.iload 4, 2) := by decide +kernel
theorem dX12_tamper_72 : decode cX12_tamper 72 = .ok (.iload_n 3, 1) := by decide +kernel
theorem dX12_tamper_73 : decode cX12_tamper 73 = .ok (.iastore, 1) := by decide +kernel
theorem dX12_tamper_74 : decode cX12_tamper 74 = .ok (.iload 5, 2) := by decide +kernel
theorem dX12_tamper_76 : decode cX12_tamper 76 = .ok (.ireturn, 1) := by decide +kernel
theorem dX12_isLeftOut_0 : decode cX12_isLeftOut 0 = .ok (.aload_n 0, 1) := by decide +kernel
theorem dX12_isLeftOut_1 : decode cX12_isLeftOut 1 = .ok (.getfield 109, 3) := by decide +kernel
theorem dX12_isLeftOut_4 : decode cX12_isLeftOut 4 = .ok (.iload_n 1, 1) := by decide +kernel
theorem dX12_isLeftOut_5 : decode cX12_isLeftOut 5 = .ok (.iaload, 1) := by decide +kernel
theorem dX12_isLeftOut_6 : decode cX12_isLeftOut 6 = .ok (.iload_n 2, 1) := by decide +kernel
theorem dX12_isLeftOut_7 : decode cX12_isLeftOut 7 = .ok (.ishr, 1) := by decide +kernel
theorem dX12_isLeftOut_8 : decode cX12_isLeftOut 8 = .ok (.iconst 1, 1) := by decide +kernel
theorem dX12_isLeftOut_9 : decode cX12_isLeftOut 9 = .ok (.iand, 1) := by decide +kernel
theorem dX12_isLeftOut_10 : decode cX12_isLeftOut 10 = .ok (.iconst 1, 1) := by decide +kernel
theorem dX12_isLeftOut_11 : decode cX12_isLeftOut 11 = .ok (.if_icmp .ne 7, 3) := by decide +kernel
theorem dX12_isLeftOut_14 : decode cX12_isLeftOut 14 = .ok (.iconst 1, 1) := by decide +kernel
theorem dX12_isLeftOut_15 : decode cX12_isLeftOut 15 = .ok (.goto 4, 3) := by decide +kernel
theorem dX12_isLeftOut_18 : decode cX12_isLeftOut 18 = .ok (.iconst 0, 1) := by decide +kernel
theorem dX12_isLeftOut_19 : decode cX12_isLeftOut 19 = .ok (.ireturn, 1) := by decide +kernel
theorem dX12_copies_0 : decode cX12_copies 0 = .ok (.aload_n 0, 1) := by decide +kernel
theorem dX12_copies_1 : decode cX12_copies 1 = .ok (.getfield 100, 3) := by decide +kernel
theorem dX12_copies_4 : decode cX12_copies 4 = .ok (.iload_n 1, 1) := by decide +kernel
theorem dX12_copies_5 : decode cX12_copies 5 = .ok (.iaload, 1) := by decide +kernel
theorem dX12_copies_6 : decode cX12_copies 6 = .ok (.istore_n 3, 1) := by decide +kernel
theorem dX12_copies_7 : decode cX12_copies 7 = .ok (.aload_n 0, 1) := by decide +kernel
theorem dX12_copies_8 : decode cX12_copies 8 = .ok (.getfield 103, 3) := by decide +kernel
theorem dX12_copies_11 : decode cX12_copies 11 = .ok (.iload_n 1, 1) := by decide +kernel
theorem dX12_copies_12 : decode cX12_copies 12 = .ok (.iaload, 1) := by decide +kernel
theorem dX12_copies_13 : decode cX12_copies 13 = .ok (.iload_n 2, 1) := by decide +kernel
theorem dX12_copies_14 : decode cX12_copies 14 = .ok (.iadd, 1) := by decide +kernel
theorem dX12_copies_15 : decode cX12_copies 15 = .ok (.istore 4, 2) := by decide +kernel
theorem dX12_copies_17 : decode cX12_copies 17 = .ok (.aload_n 0, 1) := by decide +kernel
theorem dX12_copies_18 : decode cX12_copies 18 = .ok (.getfield 82, 3) := by decide +kernel
theorem dX12_copies_21 : decode cX12_copies 21 = .ok (.sipush 160, 3) := by decide +kernel
theorem dX12_copies_24 : decode cX12_copies 24 = .ok (.iload_n 3, 1) := by decide +kernel
theorem dX12_copies_25 : decode cX12_copies 25 = .ok (.imul, 1) := by decide +kernel
theorem dX12_copies_26 : decode cX12_copies 26 = .ok (.iload 4, 2) := by decide +kernel
theorem dX12_copies_28 : decode cX12_copies 28 = .ok (.iadd, 1) := by decide +kernel
theorem dX12_copies_29 : decode cX12_copies 29 = .ok (.iaload, 1) := by decide +kernel
theorem dX12_copies_30 : decode cX12_copies 30 = .ok (.istore 5, 2) := by decide +kernel
theorem dX12_copies_32 : decode cX12_copies 32 = .ok (.iconst 0, 1) := by decide +kernel
theorem dX12_copies_33 : decode cX12_copies 33 = .ok (.istore 6, 2) := by decide +kernel
theorem dX12_copies_35 : decode cX12_copies 35 = .ok (.iload 6, 2) := by decide +kernel
theorem dX12_copies_37 : decode cX12_copies 37 = .ok (.bipush 6, 2) := by decide +kernel
theorem dX12_copies_39 : decode cX12_copies 39 = .ok (.if_icmp .ge 67, 3) := by decide +kernel
theorem dX12_copies_42 : decode cX12_copies 42 = .ok (.aload_n 0, 1) := by decide +kernel
theorem dX12_copies_43 : decode cX12_copies 43 = .ok (.getfield 88, 3) := by decide +kernel
theorem dX12_copies_46 : decode cX12_copies 46 = .ok (.bipush 6, 2) := by decide +kernel
theorem dX12_copies_48 : decode cX12_copies 48 = .ok (.iload 5, 2) := by decide +kernel
theorem dX12_copies_50 : decode cX12_copies 50 = .ok (.imul, 1) := by decide +kernel
theorem dX12_copies_51 : decode cX12_copies 51 = .ok (.iload 6, 2) := by decide +kernel
theorem dX12_copies_53 : decode cX12_copies 53 = .ok (.iadd, 1) := by decide +kernel
theorem dX12_copies_54 : decode cX12_copies 54 = .ok (.iaload, 1) := by decide +kernel
theorem dX12_copies_55 : decode cX12_copies 55 = .ok (.istore 7, 2) := by decide +kernel
theorem dX12_copies_57 : decode cX12_copies 57 = .ok (.aload_n 0, 1) := by decide +kernel
theorem dX12_copies_58 : decode cX12_copies 58 = .ok (.getfield 115, 3) := by decide +kernel
theorem dX12_copies_61 : decode cX12_copies 61 = .ok (.bipush 6, 2) := by decide +kernel
theorem dX12_copies_63 : decode cX12_copies 63 = .ok (.sipush 160, 3) := by decide +kernel
theorem dX12_copies_66 : decode cX12_copies 66 = .ok (.iload_n 1, 1) := by decide +kernel
theorem dX12_copies_67 : decode cX12_copies 67 = .ok (.imul, 1) := by decide +kernel
theorem dX12_copies_68 : decode cX12_copies 68 = .ok (.iload_n 2, 1) := by decide +kernel
theorem dX12_copies_69 : decode cX12_copies 69 = .ok (.iadd, 1) := by decide +kernel
theorem dX12_copies_70 : decode cX12_copies 70 = .ok (.imul, 1) := by decide +kernel
theorem dX12_copies_71 : decode cX12_copies 71 = .ok (.iload 6, 2) := by decide +kernel
theorem dX12_copies_73 : decode cX12_copies 73 = .ok (.iadd, 1) := by decide +kernel
theorem dX12_copies_74 : decode cX12_copies 74 = .ok (.aload_n 0, 1) := by decide +kernel
theorem dX12_copies_75 : decode cX12_copies 75 = .ok (.iload_n 1, 1) := by decide +kernel
theorem dX12_copies_76 : decode cX12_copies 76 = .ok (.iload 6, 2) := by decide +kernel
theorem dX12_copies_78 : decode cX12_copies 78 = .ok (.invokevirtual 272, 3) := by decide +kernel
theorem dX12_copies_81 : decode cX12_copies 81 = .ok (.ifCond .eq 16, 3) := by decide +kernel
theorem dX12_copies_84 : decode cX12_copies 84 = .ok (.iload_n 3, 1) := by decide +kernel
theorem dX12_copies_85 : decode cX12_copies 85 = .ok (.iload 4, 2) := by decide +kernel
theorem dX12_copies_87 : decode cX12_copies 87 = .ok (.iload 6, 2) := by decide +kernel
theorem dX12_copies_89 : decode cX12_copies 89 = .ok (.iload 7, 2) := by decide +kernel
theorem dX12_copies_91 : decode cX12_copies 91 = .ok (.invokestatic 245, 3) := by decide +kernel
theorem dX12_copies_94 : decode cX12_copies 94 = .ok (.goto 5, 3) := by decide +kernel
theorem dX12_copies_97 : decode cX12_copies 97 = .ok (.iload 7, 2) := by decide +kernel
theorem dX12_copies_99 : decode cX12_copies 99 = .ok (.iastore, 1) := by decide +kernel
theorem dX12_copies_100 : decode cX12_copies 100 = .ok (.iinc 6 1, 3) := by decide +kernel
theorem dX12_copies_103 : decode cX12_copies 103 = .ok (.goto (-68), 3) := by decide +kernel
theorem dX12_copies_106 : decode cX12_copies 106 = .ok (.aload_n 0, 1) := by decide +kernel
theorem dX12_copies_107 : decode cX12_copies 107 = .ok (.getfield 118, 3) := by decide +kernel
theorem dX12_copies_110 : decode cX12_copies 110 = .ok (.sipush 160, 3) := by decide +kernel
theorem dX12_copies_113 : decode cX12_copies 113 = .ok (.iload_n 1, 1) := by decide +kernel
theorem dX12_copies_114 : decode cX12_copies 114 = .ok (.imul, 1) := by decide +kernel
theorem dX12_copies_115 : decode cX12_copies 115 = .ok (.iload_n 2, 1) := by decide +kernel
theorem dX12_copies_116 : decode cX12_copies 116 = .ok (.iadd, 1) := by decide +kernel
theorem dX12_copies_117 : decode cX12_copies 117 = .ok (.aload_n 0, 1) := by decide +kernel
theorem dX12_copies_118 : decode cX12_copies 118 = .ok (.getfield 94, 3) := by decide +kernel
theorem dX12_copies_121 : decode cX12_copies 121 = .ok (.iload 5, 2) := by decide +kernel
theorem dX12_copies_123 : decode cX12_copies 123 = .ok (.iaload, 1) := by decide +kernel
theorem dX12_copies_124 : decode cX12_copies 124 = .ok (.iastore, 1) := by decide +kernel
theorem dX12_copies_125 : decode cX12_copies 125 = .ok (.return_, 1) := by decide +kernel
theorem dX12_copy_0 : decode cX12_copy 0 = .ok (.aload_n 0, 1) := by decide +kernel
theorem dX12_copy_1 : decode cX12_copy 1 = .ok (.iload_n 1, 1) := by decide +kernel
theorem dX12_copy_2 : decode cX12_copy 2 = .ok (.iload_n 2, 1) := by decide +kernel
theorem dX12_copy_3 : decode cX12_copy 3 = .ok (.invokevirtual 269, 3) := by decide +kernel
theorem dX12_copy_6 : decode cX12_copy 6 = .ok (.ifCond .eq 16, 3) := by decide +kernel
theorem dX12_copy_9 : decode cX12_copy 9 = .ok (.aload_n 0, 1) := by decide +kernel
theorem dX12_copy_10 : decode cX12_copy 10 = .ok (.iload_n 1, 1) := by decide +kernel
theorem dX12_copy_11 : decode cX12_copy 11 = .ok (.iload_n 3, 1) := by decide +kernel
theorem dX12_copy_12 : decode cX12_copy 12 = .ok (.invokevirtual 269, 3) := by decide +kernel
theorem dX12_copy_15 : decode cX12_copy 15 = .ok (.ifCond .eq 7, 3) := by decide +kernel
theorem dX12_copy_18 : decode cX12_copy 18 = .ok (.iconst 1, 1) := by decide +kernel
theorem dX12_copy_19 : decode cX12_copy 19 = .ok (.goto 4, 3) := by decide +kernel
theorem dX12_copy_22 : decode cX12_copy 22 = .ok (.iconst 0, 1) := by decide +kernel
theorem dX12_copy_23 : decode cX12_copy 23 = .ok (.istore 5, 2) := by decide +kernel
theorem dX12_copy_25 : decode cX12_copy 25 = .ok (.aload_n 0, 1) := by decide +kernel
theorem dX12_copy_26 : decode cX12_copy 26 = .ok (.iload 5, 2) := by decide +kernel
theorem dX12_copy_28 : decode cX12_copy 28 = .ok (.ifCond .ne 7, 3) := by decide +kernel
theorem dX12_copy_31 : decode cX12_copy 31 = .ok (.iconst 1, 1) := by decide +kernel
theorem dX12_copy_32 : decode cX12_copy 32 = .ok (.goto 37, 3) := by decide +kernel
theorem dX12_copy_35 : decode cX12_copy 35 = .ok (.iload_n 3, 1) := by decide +kernel
theorem dX12_copy_36 : decode cX12_copy 36 = .ok (.iload_n 2, 1) := by decide +kernel
theorem dX12_copy_37 : decode cX12_copy 37 = .ok (.if_icmp .lt 14, 3) := by decide +kernel
theorem dX12_copy_40 : decode cX12_copy 40 = .ok (.iload 4, 2) := by decide +kernel
theorem dX12_copy_42 : decode cX12_copy 42 = .ok (.iconst 0, 1) := by decide +kernel
theorem dX12_copy_43 : decode cX12_copy 43 = .ok (.bipush 63, 2) := by decide +kernel
theorem dX12_copy_45 : decode cX12_copy 45 = .ok (.invokestatic 124, 3) := by decide +kernel
theorem dX12_copy_48 : decode cX12_copy 48 = .ok (.ifCond .ne 7, 3) := by decide +kernel
theorem dX12_copy_51 : decode cX12_copy 51 = .ok (.iconst 2, 1) := by decide +kernel
theorem dX12_copy_52 : decode cX12_copy 52 = .ok (.goto 17, 3) := by decide +kernel
theorem dX12_copy_55 : decode cX12_copy 55 = .ok (.aload_n 0, 1) := by decide +kernel
theorem dX12_copy_56 : decode cX12_copy 56 = .ok (.getfield 275, 3) := by decide +kernel
theorem dX12_copy_59 : decode cX12_copy 59 = .ok (.bipush 12, 2) := by decide +kernel
theorem dX12_copy_61 : decode cX12_copy 61 = .ok (.if_icmp .ne 7, 3) := by decide +kernel
theorem dX12_copy_64 : decode cX12_copy 64 = .ok (.iconst 3, 1) := by decide +kernel
theorem dX12_copy_65 : decode cX12_copy 65 = .ok (.goto 4, 3) := by decide +kernel
theorem dX12_copy_68 : decode cX12_copy 68 = .ok (.iconst 0, 1) := by decide +kernel
theorem dX12_copy_69 : decode cX12_copy 69 = .ok (.invokevirtual 143, 3) := by decide +kernel
theorem dX12_copy_72 : decode cX12_copy 72 = .ok (.ifCond .ne 5, 3) := by decide +kernel
theorem dX12_copy_75 : decode cX12_copy 75 = .ok (.iconst 0, 1) := by decide +kernel
theorem dX12_copy_76 : decode cX12_copy 76 = .ok (.ireturn, 1) := by decide +kernel
theorem dX12_copy_77 : decode cX12_copy 77 = .ok (.aload_n 0, 1) := by decide +kernel
theorem dX12_copy_78 : decode cX12_copy 78 = .ok (.getfield 100, 3) := by decide +kernel
theorem dX12_copy_81 : decode cX12_copy 81 = .ok (.aload_n 0, 1) := by decide +kernel
theorem dX12_copy_82 : decode cX12_copy 82 = .ok (.getfield 275, 3) := by decide +kernel
theorem dX12_copy_85 : decode cX12_copy 85 = .ok (.iload_n 1, 1) := by decide +kernel
theorem dX12_copy_86 : decode cX12_copy 86 = .ok (.iastore, 1) := by decide +kernel
theorem dX12_copy_87 : decode cX12_copy 87 = .ok (.aload_n 0, 1) := by decide +kernel
theorem dX12_copy_88 : decode cX12_copy 88 = .ok (.getfield 103, 3) := by decide +kernel
theorem dX12_copy_91 : decode cX12_copy 91 = .ok (.aload_n 0, 1) := by decide +kernel
theorem dX12_copy_92 : decode cX12_copy 92 = .ok (.getfield 275, 3) := by decide +kernel
theorem dX12_copy_95 : decode cX12_copy 95 = .ok (.iload_n 2, 1) := by decide +kernel
theorem dX12_copy_96 : decode cX12_copy 96 = .ok (.iastore, 1) := by decide +kernel
theorem dX12_copy_97 : decode cX12_copy 97 = .ok (.aload_n 0, 1) := by decide +kernel
theorem dX12_copy_98 : decode cX12_copy 98 = .ok (.getfield 106, 3) := by decide +kernel
theorem dX12_copy_101 : decode cX12_copy 101 = .ok (.aload_n 0, 1) := by decide +kernel
theorem dX12_copy_102 : decode cX12_copy 102 = .ok (.getfield 275, 3) := by decide +kernel
theorem dX12_copy_105 : decode cX12_copy 105 = .ok (.iload_n 3, 1) := by decide +kernel
theorem dX12_copy_106 : decode cX12_copy 106 = .ok (.iload_n 2, 1) := by decide +kernel
theorem dX12_copy_107 : decode cX12_copy 107 = .ok (.isub, 1) := by decide +kernel
theorem dX12_copy_108 : decode cX12_copy 108 = .ok (.iconst 1, 1) := by decide +kernel
theorem dX12_copy_109 : decode cX12_copy 109 = .ok (.iadd, 1) := by decide +kernel
theorem dX12_copy_110 : decode cX12_copy 110 = .ok (.iastore, 1) := by decide +kernel
theorem dX12_copy_111 : decode cX12_copy 111 = .ok (.aload_n 0, 1) := by decide +kernel
theorem dX12_copy_112 : decode cX12_copy 112 = .ok (.getfield 109, 3) := by decide +kernel
theorem dX12_copy_115 : decode cX12_copy 115 = .ok (.aload_n 0, 1) := by decide +kernel
theorem dX12_copy_116 : decode cX12_copy 116 = .ok (.getfield 275, 3) := by decide +kernel
theorem dX12_copy_119 : decode cX12_copy 119 = .ok (.iload 4, 2) := by decide +kernel
theorem dX12_copy_121 : decode cX12_copy 121 = .ok (.iastore, 1) := by decide +kernel
theorem dX12_copy_122 : decode cX12_copy 122 = .ok (.aload_n 0, 1) := by decide +kernel
theorem dX12_copy_123 : decode cX12_copy 123 = .ok (.getfield 112, 3) := by decide +kernel
theorem dX12_copy_126 : decode cX12_copy 126 = .ok (.aload_n 0, 1) := by decide +kernel
theorem dX12_copy_127 : decode cX12_copy 127 = .ok (.getfield 275, 3) := by decide +kernel
theorem dX12_copy_130 : decode cX12_copy 130 = .ok (.aload_n 0, 1) := by decide +kernel
theorem dX12_copy_131 : decode cX12_copy 131 = .ok (.iload_n 1, 1) := by decide +kernel
theorem dX12_copy_132 : decode cX12_copy 132 = .ok (.iload_n 2, 1) := by decide +kernel
theorem dX12_copy_133 : decode cX12_copy 133 = .ok (.invokevirtual 248, 3) := by decide +kernel
theorem dX12_copy_136 : decode cX12_copy 136 = .ok (.iastore, 1) := by decide +kernel
theorem dX12_copy_137 : decode cX12_copy 137 = .ok (.iconst 0, 1) := by decide +kernel
theorem dX12_copy_138 : decode cX12_copy 138 = .ok (.istore 6, 2) := by decide +kernel
theorem dX12_copy_140 : decode cX12_copy 140 = .ok (.iload 6, 2) := by decide +kernel
theorem dX12_copy_142 : decode cX12_copy 142 = .ok (.iload_n 3, 1) := by decide +kernel
theorem dX12_copy_143 : decode cX12_copy 143 = .ok (.iload_n 2, 1) := by decide +kernel
theorem dX12_copy_144 : decode cX12_copy 144 = .ok (.isub, 1) := by decide +kernel
theorem dX12_copy_145 : decode cX12_copy 145 = .ok (.if_icmp .gt 19, 3) := by decide +kernel
theorem dX12_copy_148 : decode cX12_copy 148 = .ok (.aload_n 0, 1) := by decide +kernel
theorem dX12_copy_149 : decode cX12_copy 149 = .ok (.aload_n 0, 1) := by decide +kernel
theorem dX12_copy_150 : decode cX12_copy 150 = .ok (.getfield 275, 3) := by decide +kernel
theorem dX12_copy_153 : decode cX12_copy 153 = .ok (.iload 6, 2) := by decide +kernel
theorem dX12_copy_155 : decode cX12_copy 155 = .ok (.invokevirtual 278, 3) := by decide +kernel
theorem dX12_copy_158 : decode cX12_copy 158 = .ok (.iinc 6 1, 3) := by decide +kernel
theorem dX12_copy_161 : decode cX12_copy 161 = .ok (.goto (-21), 3) := by decide +kernel
theorem dX12_copy_164 : decode cX12_copy 164 = .ok (.aload_n 0, 1) := by decide +kernel
theorem dX12_copy_165 : decode cX12_copy 165 = .ok (.dup, 1) := by decide +kernel
theorem dX12_copy_166 : decode cX12_copy 166 = .ok (.getfield 275, 3) := by decide +kernel
theorem dX12_copy_169 : decode cX12_copy 169 = .ok (.iconst 1, 1) := by decide +kernel
theorem dX12_copy_170 : decode cX12_copy 170 = .ok (.iadd, 1) := by decide +kernel
theorem dX12_copy_171 : decode cX12_copy 171 = .ok (.putfield 275, 3) := by decide +kernel
theorem dX12_copy_174 : decode cX12_copy 174 = .ok (.aload_n 0, 1) := by decide +kernel
theorem dX12_copy_175 : decode cX12_copy 175 = .ok (.getfield 275, 3) := by decide +kernel
theorem dX12_copy_178 : decode cX12_copy 178 = .ok (.iconst 1, 1) := by decide +kernel
theorem dX12_copy_179 : decode cX12_copy 179 = .ok (.isub, 1) := by decide +kernel
theorem dX12_copy_180 : decode cX12_copy 180 = .ok (.ireturn, 1) := by decide +kernel
theorem dX12_isCopy_0 : decode cX12_isCopy 0 = .ok (.iload_n 1, 1) := by decide +kernel
theorem dX12_isCopy_1 : decode cX12_isCopy 1 = .ok (.iconst 0, 1) := by decide +kernel
theorem dX12_isCopy_2 : decode cX12_isCopy 2 = .ok (.aload_n 0, 1) := by decide +kernel
theorem dX12_isCopy_3 : decode cX12_isCopy 3 = .ok (.getfield 275, 3) := by decide +kernel
theorem dX12_isCopy_6 : decode cX12_isCopy 6 = .ok (.iconst 1, 1) := by decide +kernel
theorem dX12_isCopy_7 : decode cX12_isCopy 7 = .ok (.isub, 1) := by decide +kernel
theorem dX12_isCopy_8 : decode cX12_isCopy 8 = .ok (.invokestatic 124, 3) := by decide +kernel
theorem dX12_isCopy_11 : decode cX12_isCopy 11 = .ok (.ireturn, 1) := by decide +kernel
theorem dX12_isCopied_0 : decode cX12_isCopied 0 = .ok (.aload_n 0, 1) := by decide +kernel
theorem dX12_isCopied_1 : decode cX12_isCopied 1 = .ok (.iload_n 1, 1) := by decide +kernel
theorem dX12_isCopied_2 : decode cX12_isCopied 2 = .ok (.invokevirtual 281, 3) := by decide +kernel
theorem dX12_isCopied_5 : decode cX12_isCopied 5 = .ok (.ifCond .eq 32, 3) := by decide +kernel
theorem dX12_isCopied_8 : decode cX12_isCopied 8 = .ok (.iload_n 2, 1) := by decide +kernel
theorem dX12_isCopied_9 : decode cX12_isCopied 9 = .ok (.iconst 0, 1) := by decide +kernel
theorem dX12_isCopied_10 : decode cX12_isCopied 10 = .ok (.aload_n 0, 1) := by decide +kernel
theorem dX12_isCopied_11 : decode cX12_isCopied 11 = .ok (.getfield 106, 3) := by decide +kernel
theorem dX12_isCopied_14 : decode cX12_isCopied 14 = .ok (.iload_n 1, 1) := by decide +kernel
theorem dX12_isCopied_15 : decode cX12_isCopied 15 = .ok (.iaload, 1) := by decide +kernel
theorem dX12_isCopied_16 : decode cX12_isCopied 16 = .ok (.iconst 1, 1) := by decide +kernel
theorem dX12_isCopied_17 : decode cX12_isCopied 17 = .ok (.isub, 1) := by decide +kernel
theorem dX12_isCopied_18 : decode cX12_isCopied 18 = .ok (.invokestatic 124, 3) := by decide +kernel
theorem dX12_isCopied_21 : decode cX12_isCopied 21 = .ok (.ifCond .eq 16, 3) := by decide +kernel
theorem dX12_isCopied_24 : decode cX12_isCopied 24 = .ok (.iload_n 3, 1) := by decide +kernel
theorem dX12_isCopied_25 : decode cX12_isCopied 25 = .ok (.iconst 0, 1) := by decide +kernel
theorem dX12_isCopied_26 : decode cX12_isCopied 26 = .ok (.iconst 5, 1) := by decide +kernel
theorem dX12_isCopied_27 : decode cX12_isCopied 27 = .ok (.invokestatic 124, 3) := by decide +kernel
theorem dX12_isCopied_30 : decode cX12_isCopied 30 = .ok (.ifCond .eq 7, 3) := by decide +kernel
theorem dX12_isCopied_33 : decode cX12_isCopied 33 = .ok (.iconst 1, 1) := by decide +kernel
theorem dX12_isCopied_34 : decode cX12_isCopied 34 = .ok (.goto 4, 3) := by decide +kernel
theorem dX12_isCopied_37 : decode cX12_isCopied 37 = .ok (.iconst 0, 1) := by decide +kernel
theorem dX12_isCopied_38 : decode cX12_isCopied 38 = .ok (.ireturn, 1) := by decide +kernel
theorem dX12_forge_0 : decode cX12_forge 0 = .ok (.aload_n 0, 1) := by decide +kernel
theorem dX12_forge_1 : decode cX12_forge 1 = .ok (.iload_n 1, 1) := by decide +kernel
theorem dX12_forge_2 : decode cX12_forge 2 = .ok (.iload_n 2, 1) := by decide +kernel
theorem dX12_forge_3 : decode cX12_forge 3 = .ok (.iload_n 3, 1) := by decide +kernel
theorem dX12_forge_4 : decode cX12_forge 4 = .ok (.invokevirtual 284, 3) := by decide +kernel
theorem dX12_forge_7 : decode cX12_forge 7 = .ok (.istore 5, 2) := by decide +kernel
theorem dX12_forge_9 : decode cX12_forge 9 = .ok (.aload_n 0, 1) := by decide +kernel
theorem dX12_forge_10 : decode cX12_forge 10 = .ok (.iload 5, 2) := by decide +kernel
theorem dX12_forge_12 : decode cX12_forge 12 = .ok (.ifCond .ne 7, 3) := by decide +kernel
theorem dX12_forge_15 : decode cX12_forge 15 = .ok (.iconst 1, 1) := by decide +kernel
theorem dX12_forge_16 : decode cX12_forge 16 = .ok (.goto 33, 3) := by decide +kernel
theorem dX12_forge_19 : decode cX12_forge 19 = .ok (.iload 4, 2) := by decide +kernel
theorem dX12_forge_21 : decode cX12_forge 21 = .ok (.iconst 0, 1) := by decide +kernel
theorem dX12_forge_22 : decode cX12_forge 22 = .ok (.sipush 10000, 3) := by decide +kernel
theorem dX12_forge_25 : decode cX12_forge 25 = .ok (.invokestatic 124, 3) := by decide +kernel
theorem dX12_forge_28 : decode cX12_forge 28 = .ok (.ifCond .ne 7, 3) := by decide +kernel
theorem dX12_forge_31 : decode cX12_forge 31 = .ok (.iconst 2, 1) := by decide +kernel
theorem dX12_forge_32 : decode cX12_forge 32 = .ok (.goto 17, 3) := by decide +kernel
theorem dX12_forge_35 : decode cX12_forge 35 = .ok (.aload_n 0, 1) := by decide +kernel
theorem dX12_forge_36 : decode cX12_forge 36 = .ok (.iload_n 1, 1) := by decide +kernel
theorem dX12_forge_37 : decode cX12_forge 37 = .ok (.iload_n 3, 1) := by decide +kernel
theorem dX12_forge_38 : decode cX12_forge 38 = .ok (.invokevirtual 272, 3) := by decide +kernel
theorem dX12_forge_41 : decode cX12_forge 41 = .ok (.ifCond .eq 7, 3) := by decide +kernel
theorem dX12_forge_44 : decode cX12_forge 44 = .ok (.iconst 3, 1) := by decide +kernel
theorem dX12_forge_45 : decode cX12_forge 45 = .ok (.goto 4, 3) := by decide +kernel
theorem dX12_forge_48 : decode cX12_forge 48 = .ok (.iconst 0, 1) := by decide +kernel
theorem dX12_forge_49 : decode cX12_forge 49 = .ok (.invokevirtual 143, 3) := by decide +kernel
theorem dX12_forge_52 : decode cX12_forge 52 = .ok (.ifCond .ne 5, 3) := by decide +kernel
theorem dX12_forge_55 : decode cX12_forge 55 = .ok (.iconst 0, 1) := by decide +kernel
theorem dX12_forge_56 : decode cX12_forge 56 = .ok (.ireturn, 1) := by decide +kernel
theorem dX12_forge_57 : decode cX12_forge 57 = .ok (.bipush 6, 2) := by decide +kernel
theorem dX12_forge_59 : decode cX12_forge 59 = .ok (.sipush 160, 3) := by decide +kernel
theorem dX12_forge_62 : decode cX12_forge 62 = .ok (.iload_n 1, 1) := by decide +kernel
theorem dX12_forge_63 : decode cX12_forge 63 = .ok (.imul, 1) := by decide +kernel
theorem dX12_forge_64 : decode cX12_forge 64 = .ok (.iload_n 2, 1) := by decide +kernel
theorem dX12_forge_65 : decode cX12_forge 65 = .ok (.iadd, 1) := by decide +kernel
theorem dX12_forge_66 : decode cX12_forge 66 = .ok (.imul, 1) := by decide +kernel
theorem dX12_forge_67 : decode cX12_forge 67 = .ok (.iload_n 3, 1) := by decide +kernel
theorem dX12_forge_68 : decode cX12_forge 68 = .ok (.iadd, 1) := by decide +kernel
theorem dX12_forge_69 : decode cX12_forge 69 = .ok (.istore 6, 2) := by decide +kernel
theorem dX12_forge_71 : decode cX12_forge 71 = .ok (.aload_n 0, 1) := by decide +kernel
theorem dX12_forge_72 : decode cX12_forge 72 = .ok (.getfield 115, 3) := by decide +kernel
theorem dX12_forge_75 : decode cX12_forge 75 = .ok (.iload 6, 2) := by decide +kernel
theorem dX12_forge_77 : decode cX12_forge 77 = .ok (.iaload, 1) := by decide +kernel
theorem dX12_forge_78 : decode cX12_forge 78 = .ok (.istore 7, 2) := by decide +kernel
theorem dX12_forge_80 : decode cX12_forge 80 = .ok (.aload_n 0, 1) := by decide +kernel
theorem dX12_forge_81 : decode cX12_forge 81 = .ok (.getfield 115, 3) := by decide +kernel
theorem dX12_forge_84 : decode cX12_forge 84 = .ok (.iload 6, 2) := by decide +kernel
theorem dX12_forge_86 : decode cX12_forge 86 = .ok (.iload 4, 2) := by decide +kernel
theorem dX12_forge_88 : decode cX12_forge 88 = .ok (.iastore, 1) := by decide +kernel
theorem dX12_forge_89 : decode cX12_forge 89 = .ok (.iload 7, 2) := by decide +kernel
theorem dX12_forge_91 : decode cX12_forge 91 = .ok (.ireturn, 1) := by decide +kernel
theorem dX12_hour_0 : decode cX12_hour 0 = .ok (.aload_n 0, 1) := by decide +kernel
theorem dX12_hour_1 : decode cX12_hour 1 = .ok (.iconst 0, 1) := by decide +kernel
theorem dX12_hour_2 : decode cX12_hour 2 = .ok (.putfield 121, 3) := by decide +kernel
theorem dX12_hour_5 : decode cX12_hour 5 = .ok (.aload_n 0, 1) := by decide +kernel
theorem dX12_hour_6 : decode cX12_hour 6 = .ok (.getfield 150, 3) := by decide +kernel
theorem dX12_hour_9 : decode cX12_hour 9 = .ok (.ireturn, 1) := by decide +kernel
theorem dX12_news_0 : decode cX12_news 0 = .ok (.aload_n 0, 1) := by decide +kernel
theorem dX12_news_1 : decode cX12_news 1 = .ok (.iconst 0, 1) := by decide +kernel
theorem dX12_news_2 : decode cX12_news 2 = .ok (.putfield 121, 3) := by decide +kernel
theorem dX12_news_5 : decode cX12_news 5 = .ok (.aload_n 0, 1) := by decide +kernel
theorem dX12_news_6 : decode cX12_news 6 = .ok (.getfield 153, 3) := by decide +kernel
theorem dX12_news_9 : decode cX12_news 9 = .ok (.ireturn, 1) := by decide +kernel
theorem dX12_powers_0 : decode cX12_powers 0 = .ok (.aload_n 0, 1) := by decide +kernel
theorem dX12_powers_1 : decode cX12_powers 1 = .ok (.iconst 0, 1) := by decide +kernel
theorem dX12_powers_2 : decode cX12_powers 2 = .ok (.putfield 121, 3) := by decide +kernel
theorem dX12_powers_5 : decode cX12_powers 5 = .ok (.aload_n 0, 1) := by decide +kernel
theorem dX12_powers_6 : decode cX12_powers 6 = .ok (.getfield 128, 3) := by decide +kernel
theorem dX12_powers_9 : decode cX12_powers 9 = .ok (.ireturn, 1) := by decide +kernel
theorem dX12_records_0 : decode cX12_records 0 = .ok (.aload_n 0, 1) := by decide +kernel
theorem dX12_records_1 : decode cX12_records 1 = .ok (.iload_n 1, 1) := by decide +kernel
theorem dX12_records_2 : decode cX12_records 2 = .ok (.invokestatic 131, 3) := by decide +kernel
theorem dX12_records_5 : decode cX12_records 5 = .ok (.ifCond .eq 7, 3) := by decide +kernel
theorem dX12_records_8 : decode cX12_records 8 = .ok (.iconst 0, 1) := by decide +kernel
theorem dX12_records_9 : decode cX12_records 9 = .ok (.goto 4, 3) := by decide +kernel
theorem dX12_records_12 : decode cX12_records 12 = .ok (.iconst 1, 1) := by decide +kernel
theorem dX12_records_13 : decode cX12_records 13 = .ok (.invokevirtual 143, 3) := by decide +kernel
theorem dX12_records_16 : decode cX12_records 16 = .ok (.ifCond .eq 12, 3) := by decide +kernel
theorem dX12_records_19 : decode cX12_records 19 = .ok (.aload_n 0, 1) := by decide +kernel
theorem dX12_records_20 : decode cX12_records 20 = .ok (.getfield 79, 3) := by decide +kernel
theorem dX12_records_23 : decode cX12_records 23 = .ok (.iload_n 1, 1) := by decide +kernel
theorem dX12_records_24 : decode cX12_records 24 = .ok (.iaload, 1) := by decide +kernel
theorem dX12_records_25 : decode cX12_records 25 = .ok (.goto 4, 3) := by decide +kernel
theorem dX12_records_28 : decode cX12_records 28 = .ok (.iconst 0, 1) := by decide +kernel
theorem dX12_records_29 : decode cX12_records 29 = .ok (.ireturn, 1) := by decide +kernel
theorem dX12_areJoined_0 : decode cX12_areJoined 0 = .ok (.aload_n 0, 1) := by decide +kernel
theorem dX12_areJoined_1 : decode cX12_areJoined 1 = .ok (.iload_n 1, 1) := by decide +kernel
theorem dX12_areJoined_2 : decode cX12_areJoined 2 = .ok (.invokestatic 131, 3) := by decide +kernel
theorem dX12_areJoined_5 : decode cX12_areJoined 5 = .ok (.ifCond .eq 14, 3) := by decide +kernel
theorem dX12_areJoined_8 : decode cX12_areJoined 8 = .ok (.iload_n 2, 1) := by decide +kernel
theorem dX12_areJoined_9 : decode cX12_areJoined 9 = .ok (.invokestatic 131, 3) := by decide +kernel
theorem dX12_areJoined_12 : decode cX12_areJoined 12 = .ok (.ifCond .eq 7, 3) := by decide +kernel
theorem dX12_areJoined_15 : decode cX12_areJoined 15 = .ok (.iconst 0, 1) := by decide +kernel
theorem dX12_areJoined_16 : decode cX12_areJoined 16 = .ok (.goto 4, 3) := by decide +kernel
theorem dX12_areJoined_19 : decode cX12_areJoined 19 = .ok (.iconst 1, 1) := by decide +kernel
theorem dX12_areJoined_20 : decode cX12_areJoined 20 = .ok (.invokevirtual 143, 3) := by decide +kernel
theorem dX12_areJoined_23 : decode cX12_areJoined 23 = .ok (.ifCond .eq 21, 3) := by decide +kernel
theorem dX12_areJoined_26 : decode cX12_areJoined 26 = .ok (.aload_n 0, 1) := by decide +kernel
theorem dX12_areJoined_27 : decode cX12_areJoined 27 = .ok (.getfield 7, 3) := by decide +kernel
theorem dX12_areJoined_30 : decode cX12_areJoined 30 = .ok (.iload_n 1, 1) := by decide +kernel
theorem dX12_areJoined_31 : decode cX12_areJoined 31 = .ok (.iaload, 1) := by decide +kernel
theorem dX12_areJoined_32 : decode cX12_areJoined 32 = .ok (.iload_n 2, 1) := by decide +kernel
theorem dX12_areJoined_33 : decode cX12_areJoined 33 = .ok (.ishr, 1) := by decide +kernel
theorem dX12_areJoined_34 : decode cX12_areJoined 34 = .ok (.iconst 1, 1) := by decide +kernel
theorem dX12_areJoined_35 : decode cX12_areJoined 35 = .ok (.iand, 1) := by decide +kernel
theorem dX12_areJoined_36 : decode cX12_areJoined 36 = .ok (.iconst 1, 1) := by decide +kernel
theorem dX12_areJoined_37 : decode cX12_areJoined 37 = .ok (.if_icmp .ne 7, 3) := by decide +kernel
theorem dX12_areJoined_40 : decode cX12_areJoined 40 = .ok (.iconst 1, 1) := by decide +kernel
theorem dX12_areJoined_41 : decode cX12_areJoined 41 = .ok (.goto 4, 3) := by decide +kernel
theorem dX12_areJoined_44 : decode cX12_areJoined 44 = .ok (.iconst 0, 1) := by decide +kernel
theorem dX12_areJoined_45 : decode cX12_areJoined 45 = .ok (.ireturn, 1) := by decide +kernel
theorem dX12_isPiece_0 : decode cX12_isPiece 0 = .ok (.aload_n 0, 1) := by decide +kernel
theorem dX12_isPiece_1 : decode cX12_isPiece 1 = .ok (.iload_n 1, 1) := by decide +kernel
theorem dX12_isPiece_2 : decode cX12_isPiece 2 = .ok (.invokestatic 131, 3) := by decide +kernel
theorem dX12_isPiece_5 : decode cX12_isPiece 5 = .ok (.ifCond .eq 21, 3) := by decide +kernel
theorem dX12_isPiece_8 : decode cX12_isPiece 8 = .ok (.iload_n 2, 1) := by decide +kernel
theorem dX12_isPiece_9 : decode cX12_isPiece 9 = .ok (.iconst 0, 1) := by decide +kernel
theorem dX12_isPiece_10 : decode cX12_isPiece 10 = .ok (.aload_n 0, 1) := by decide +kernel
theorem dX12_isPiece_11 : decode cX12_isPiece 11 = .ok (.getfield 153, 3) := by decide +kernel
theorem dX12_isPiece_14 : decode cX12_isPiece 14 = .ok (.iconst 1, 1) := by decide +kernel
theorem dX12_isPiece_15 : decode cX12_isPiece 15 = .ok (.isub, 1) := by decide +kernel
theorem dX12_isPiece_16 : decode cX12_isPiece 16 = .ok (.invokestatic 124, 3) := by decide +kernel
theorem dX12_isPiece_19 : decode cX12_isPiece 19 = .ok (.ifCond .eq 7, 3) := by decide +kernel
theorem dX12_isPiece_22 : decode cX12_isPiece 22 = .ok (.iconst 0, 1) := by decide +kernel
theorem dX12_isPiece_23 : decode cX12_isPiece 23 = .ok (.goto 4, 3) := by decide +kernel
theorem dX12_isPiece_26 : decode cX12_isPiece 26 = .ok (.iconst 1, 1) := by decide +kernel
theorem dX12_isPiece_27 : decode cX12_isPiece 27 = .ok (.invokevirtual 143, 3) := by decide +kernel
theorem dX12_isPiece_30 : decode cX12_isPiece 30 = .ok (.ireturn, 1) := by decide +kernel
theorem dX12_came_0 : decode cX12_came 0 = .ok (.aload_n 0, 1) := by decide +kernel
theorem dX12_came_1 : decode cX12_came 1 = .ok (.iload_n 1, 1) := by decide +kernel
theorem dX12_came_2 : decode cX12_came 2 = .ok (.iload_n 2, 1) := by decide +kernel
theorem dX12_came_3 : decode cX12_came 3 = .ok (.invokevirtual 287, 3) := by decide +kernel
theorem dX12_came_6 : decode cX12_came 6 = .ok (.ifCond .eq 18, 3) := by decide +kernel
theorem dX12_came_9 : decode cX12_came 9 = .ok (.aload_n 0, 1) := by decide +kernel
theorem dX12_came_10 : decode cX12_came 10 = .ok (.getfield 31, 3) := by decide +kernel
theorem dX12_came_13 : decode cX12_came 13 = .ok (.sipush 160, 3) := by decide +kernel
theorem dX12_came_16 : decode cX12_came 16 = .ok (.iload_n 1, 1) := by decide +kernel
theorem dX12_came_17 : decode cX12_came 17 = .ok (.imul, 1) := by decide +kernel
theorem dX12_came_18 : decode cX12_came 18 = .ok (.iload_n 2, 1) := by decide +kernel
theorem dX12_came_19 : decode cX12_came 19 = .ok (.iadd, 1) := by decide +kernel
theorem dX12_came_20 : decode cX12_came 20 = .ok (.iaload, 1) := by decide +kernel
theorem dX12_came_21 : decode cX12_came 21 = .ok (.goto 4, 3) := by decide +kernel
theorem dX12_came_24 : decode cX12_came 24 = .ok (.iconst 0, 1) := by decide +kernel
theorem dX12_came_25 : decode cX12_came 25 = .ok (.ireturn, 1) := by decide +kernel
theorem dX12_cameByLinks_0 : decode cX12_cameByLinks 0 = .ok (.aload_n 0, 1) := by decide +kernel
theorem dX12_cameByLinks_1 : decode cX12_cameByLinks 1 = .ok (.iload_n 1, 1) := by decide +kernel
theorem dX12_cameByLinks_2 : decode cX12_cameByLinks 2 = .ok (.iload_n 2, 1) := by decide +kernel
theorem dX12_cameByLinks_3 : decode cX12_cameByLinks 3 = .ok (.invokevirtual 287, 3) := by decide +kernel
theorem dX12_cameByLinks_6 : decode cX12_cameByLinks 6 = .ok (.ifCond .eq 18, 3) := by decide +kernel
theorem dX12_cameByLinks_9 : decode cX12_cameByLinks 9 = .ok (.aload_n 0, 1) := by decide +kernel
theorem dX12_cameByLinks_10 : decode cX12_cameByLinks 10 = .ok (.getfield 31, 3) := by decide +kernel
theorem dX12_cameByLinks_13 : decode cX12_cameByLinks 13 = .ok (.sipush 160, 3) := by decide +kernel
theorem dX12_cameByLinks_16 : decode cX12_cameByLinks 16 = .ok (.iload_n 1, 1) := by decide +kernel
theorem dX12_cameByLinks_17 : decode cX12_cameByLinks 17 = .ok (.imul, 1) := by decide +kernel
theorem dX12_cameByLinks_18 : decode cX12_cameByLinks 18 = .ok (.iload_n 2, 1) := by decide +kernel
theorem dX12_cameByLinks_19 : decode cX12_cameByLinks 19 = .ok (.iadd, 1) := by decide +kernel
theorem dX12_cameByLinks_20 : decode cX12_cameByLinks 20 = .ok (.iaload, 1) := by decide +kernel
theorem dX12_cameByLinks_21 : decode cX12_cameByLinks 21 = .ok (.goto 4, 3) := by decide +kernel
theorem dX12_cameByLinks_24 : decode cX12_cameByLinks 24 = .ok (.iconst 0, 1) := by decide +kernel
theorem dX12_cameByLinks_25 : decode cX12_cameByLinks 25 = .ok (.ireturn, 1) := by decide +kernel
theorem dX12_isRead_0 : decode cX12_isRead 0 = .ok (.aload_n 0, 1) := by decide +kernel
theorem dX12_isRead_1 : decode cX12_isRead 1 = .ok (.iload_n 1, 1) := by decide +kernel
theorem dX12_isRead_2 : decode cX12_isRead 2 = .ok (.iload_n 2, 1) := by decide +kernel
theorem dX12_isRead_3 : decode cX12_isRead 3 = .ok (.invokevirtual 287, 3) := by decide +kernel
theorem dX12_isRead_6 : decode cX12_isRead 6 = .ok (.ifCond .eq 22, 3) := by decide +kernel
theorem dX12_isRead_9 : decode cX12_isRead 9 = .ok (.aload_n 0, 1) := by decide +kernel
theorem dX12_isRead_10 : decode cX12_isRead 10 = .ok (.getfield 34, 3) := by decide +kernel
theorem dX12_isRead_13 : decode cX12_isRead 13 = .ok (.sipush 160, 3) := by decide +kernel
theorem dX12_isRead_16 : decode cX12_isRead 16 = .ok (.iload_n 1, 1) := by decide +kernel
theorem dX12_isRead_17 : decode cX12_isRead 17 = .ok (.imul, 1) := by decide +kernel
theorem dX12_isRead_18 : decode cX12_isRead 18 = .ok (.iload_n 2, 1) := by decide +kernel
theorem dX12_isRead_19 : decode cX12_isRead 19 = .ok (.iadd, 1) := by decide +kernel
theorem dX12_isRead_20 : decode cX12_isRead 20 = .ok (.baload, 1) := by decide +kernel
theorem dX12_isRead_21 : decode cX12_isRead 21 = .ok (.ifCond .eq 7, 3) := by decide +kernel
theorem dX12_isRead_24 : decode cX12_isRead 24 = .ok (.iconst 1, 1) := by decide +kernel
theorem dX12_isRead_25 : decode cX12_isRead 25 = .ok (.goto 4, 3) := by decide +kernel
theorem dX12_isRead_28 : decode cX12_isRead 28 = .ok (.iconst 0, 1) := by decide +kernel
theorem dX12_isRead_29 : decode cX12_isRead 29 = .ok (.ireturn, 1) := by decide +kernel
theorem dX12_mail_0 : decode cX12_mail 0 = .ok (.aload_n 0, 1) := by decide +kernel
theorem dX12_mail_1 : decode cX12_mail 1 = .ok (.iload_n 1, 1) := by decide +kernel
theorem dX12_mail_2 : decode cX12_mail 2 = .ok (.invokestatic 131, 3) := by decide +kernel
theorem dX12_mail_5 : decode cX12_mail 5 = .ok (.ifCond .eq 7, 3) := by decide +kernel
theorem dX12_mail_8 : decode cX12_mail 8 = .ok (.iconst 0, 1) := by decide +kernel
theorem dX12_mail_9 : decode cX12_mail 9 = .ok (.goto 4, 3) := by decide +kernel
theorem dX12_mail_12 : decode cX12_mail 12 = .ok (.iconst 1, 1) := by decide +kernel
theorem dX12_mail_13 : decode cX12_mail 13 = .ok (.invokevirtual 143, 3) := by decide +kernel
theorem dX12_mail_16 : decode cX12_mail 16 = .ok (.ifCond .eq 11, 3) := by decide +kernel
theorem dX12_mail_19 : decode cX12_mail 19 = .ok (.aload_n 0, 1) := by decide +kernel
theorem dX12_mail_20 : decode cX12_mail 20 = .ok (.iload_n 1, 1) := by decide +kernel
theorem dX12_mail_21 : decode cX12_mail 21 = .ok (.invokevirtual 159, 3) := by decide +kernel
theorem dX12_mail_24 : decode cX12_mail 24 = .ok (.goto 4, 3) := by decide +kernel
theorem dX12_mail_27 : decode cX12_mail 27 = .ok (.iconst 0, 1) := by decide +kernel
theorem dX12_mail_28 : decode cX12_mail 28 = .ok (.ireturn, 1) := by decide +kernel
theorem dX12_source_0 : decode cX12_source 0 = .ok (.aload_n 0, 1) := by decide +kernel
theorem dX12_source_1 : decode cX12_source 1 = .ok (.aload_n 0, 1) := by decide +kernel
theorem dX12_source_2 : decode cX12_source 2 = .ok (.iload_n 1, 1) := by decide +kernel
theorem dX12_source_3 : decode cX12_source 3 = .ok (.invokevirtual 217, 3) := by decide +kernel
theorem dX12_source_6 : decode cX12_source 6 = .ok (.ifCond .eq 7, 3) := by decide +kernel
theorem dX12_source_9 : decode cX12_source 9 = .ok (.iconst 0, 1) := by decide +kernel
theorem dX12_source_10 : decode cX12_source 10 = .ok (.goto 4, 3) := by decide +kernel
theorem dX12_source_13 : decode cX12_source 13 = .ok (.iconst 1, 1) := by decide +kernel
theorem dX12_source_14 : decode cX12_source 14 = .ok (.invokevirtual 143, 3) := by decide +kernel
theorem dX12_source_17 : decode cX12_source 17 = .ok (.ifCond .eq 12, 3) := by decide +kernel
theorem dX12_source_20 : decode cX12_source 20 = .ok (.aload_n 0, 1) := by decide +kernel
theorem dX12_source_21 : decode cX12_source 21 = .ok (.getfield 47, 3) := by decide +kernel
theorem dX12_source_24 : decode cX12_source 24 = .ok (.iload_n 1, 1) := by decide +kernel
theorem dX12_source_25 : decode cX12_source 25 = .ok (.iaload, 1) := by decide +kernel
theorem dX12_source_26 : decode cX12_source 26 = .ok (.goto 4, 3) := by decide +kernel
theorem dX12_source_29 : decode cX12_source 29 = .ok (.iconst 0, 1) := by decide +kernel
theorem dX12_source_30 : decode cX12_source 30 = .ok (.ireturn, 1) := by decide +kernel
theorem dX12_holder_0 : decode cX12_holder 0 = .ok (.aload_n 0, 1) := by decide +kernel
theorem dX12_holder_1 : decode cX12_holder 1 = .ok (.aload_n 0, 1) := by decide +kernel
theorem dX12_holder_2 : decode cX12_holder 2 = .ok (.iload_n 1, 1) := by decide +kernel
theorem dX12_holder_3 : decode cX12_holder 3 = .ok (.invokevirtual 217, 3) := by decide +kernel
theorem dX12_holder_6 : decode cX12_holder 6 = .ok (.ifCond .eq 7, 3) := by decide +kernel
theorem dX12_holder_9 : decode cX12_holder 9 = .ok (.iconst 0, 1) := by decide +kernel
theorem dX12_holder_10 : decode cX12_holder 10 = .ok (.goto 4, 3) := by decide +kernel
theorem dX12_holder_13 : decode cX12_holder 13 = .ok (.iconst 1, 1) := by decide +kernel
theorem dX12_holder_14 : decode cX12_holder 14 = .ok (.invokevirtual 143, 3) := by decide +kernel
theorem dX12_holder_17 : decode cX12_holder 17 = .ok (.ifCond .eq 12, 3) := by decide +kernel
theorem dX12_holder_20 : decode cX12_holder 20 = .ok (.aload_n 0, 1) := by decide +kernel
theorem dX12_holder_21 : decode cX12_holder 21 = .ok (.getfield 44, 3) := by decide +kernel
theorem dX12_holder_24 : decode cX12_holder 24 = .ok (.iload_n 1, 1) := by decide +kernel
theorem dX12_holder_25 : decode cX12_holder 25 = .ok (.iaload, 1) := by decide +kernel
theorem dX12_holder_26 : decode cX12_holder 26 = .ok (.goto 4, 3) := by decide +kernel
theorem dX12_holder_29 : decode cX12_holder 29 = .ok (.iconst 0, 1) := by decide +kernel
theorem dX12_holder_30 : decode cX12_holder 30 = .ok (.ireturn, 1) := by decide +kernel
theorem dX12_isGood_0 : decode cX12_isGood 0 = .ok (.aload_n 0, 1) := by decide +kernel
theorem dX12_isGood_1 : decode cX12_isGood 1 = .ok (.iload_n 1, 1) := by decide +kernel
theorem dX12_isGood_2 : decode cX12_isGood 2 = .ok (.invokestatic 131, 3) := by decide +kernel
theorem dX12_isGood_5 : decode cX12_isGood 5 = .ok (.ifCond .eq 15, 3) := by decide +kernel
theorem dX12_isGood_8 : decode cX12_isGood 8 = .ok (.aload_n 0, 1) := by decide +kernel
theorem dX12_isGood_9 : decode cX12_isGood 9 = .ok (.iload_n 2, 1) := by decide +kernel
theorem dX12_isGood_10 : decode cX12_isGood 10 = .ok (.invokevirtual 217, 3) := by decide +kernel
theorem dX12_isGood_13 : decode cX12_isGood 13 = .ok (.ifCond .eq 7, 3) := by decide +kernel
theorem dX12_isGood_16 : decode cX12_isGood 16 = .ok (.iconst 0, 1) := by decide +kernel
theorem dX12_isGood_17 : decode cX12_isGood 17 = .ok (.goto 4, 3) := by decide +kernel
theorem dX12_isGood_20 : decode cX12_isGood 20 = .ok (.iconst 1, 1) := by decide +kernel
theorem dX12_isGood_21 : decode cX12_isGood 21 = .ok (.invokevirtual 143, 3) := by decide +kernel
theorem dX12_isGood_24 : decode cX12_isGood 24 = .ok (.ifCond .eq 16, 3) := by decide +kernel
theorem dX12_isGood_27 : decode cX12_isGood 27 = .ok (.aload_n 0, 1) := by decide +kernel
theorem dX12_isGood_28 : decode cX12_isGood 28 = .ok (.iload_n 1, 1) := by decide +kernel
theorem dX12_isGood_29 : decode cX12_isGood 29 = .ok (.iload_n 2, 1) := by decide +kernel
theorem dX12_isGood_30 : decode cX12_isGood 30 = .ok (.invokevirtual 223, 3) := by decide +kernel
theorem dX12_isGood_33 : decode cX12_isGood 33 = .ok (.ifCond .eq 7, 3) := by decide +kernel
theorem dX12_isGood_36 : decode cX12_isGood 36 = .ok (.iconst 1, 1) := by decide +kernel
theorem dX12_isGood_37 : decode cX12_isGood 37 = .ok (.goto 4, 3) := by decide +kernel
theorem dX12_isGood_40 : decode cX12_isGood 40 = .ok (.iconst 0, 1) := by decide +kernel
theorem dX12_isGood_41 : decode cX12_isGood 41 = .ok (.ireturn, 1) := by decide +kernel
theorem dX12_done_0 : decode cX12_done 0 = .ok (.aload_n 0, 1) := by decide +kernel
theorem dX12_done_1 : decode cX12_done 1 = .ok (.iload_n 1, 1) := by decide +kernel
theorem dX12_done_2 : decode cX12_done 2 = .ok (.invokestatic 131, 3) := by decide +kernel
theorem dX12_done_5 : decode cX12_done 5 = .ok (.ifCond .eq 15, 3) := by decide +kernel
theorem dX12_done_8 : decode cX12_done 8 = .ok (.aload_n 0, 1) := by decide +kernel
theorem dX12_done_9 : decode cX12_done 9 = .ok (.iload_n 2, 1) := by decide +kernel
theorem dX12_done_10 : decode cX12_done 10 = .ok (.invokevirtual 217, 3) := by decide +kernel
theorem dX12_done_13 : decode cX12_done 13 = .ok (.ifCond .eq 7, 3) := by decide +kernel
theorem dX12_done_16 : decode cX12_done 16 = .ok (.iconst 0, 1) := by decide +kernel
theorem dX12_done_17 : decode cX12_done 17 = .ok (.goto 4, 3) := by decide +kernel
theorem dX12_done_20 : decode cX12_done 20 = .ok (.iconst 1, 1) := by decide +kernel
theorem dX12_done_21 : decode cX12_done 21 = .ok (.invokevirtual 143, 3) := by decide +kernel
theorem dX12_done_24 : decode cX12_done 24 = .ok (.ifCond .eq 12, 3) := by decide +kernel
theorem dX12_done_27 : decode cX12_done 27 = .ok (.aload_n 0, 1) := by decide +kernel
theorem dX12_done_28 : decode cX12_done 28 = .ok (.iload_n 1, 1) := by decide +kernel
theorem dX12_done_29 : decode cX12_done 29 = .ok (.iload_n 2, 1) := by decide +kernel
theorem dX12_done_30 : decode cX12_done 30 = .ok (.invokevirtual 169, 3) := by decide +kernel
theorem dX12_done_33 : decode cX12_done 33 = .ok (.goto 4, 3) := by decide +kernel
theorem dX12_done_36 : decode cX12_done 36 = .ok (.iconst 0, 1) := by decide +kernel
theorem dX12_done_37 : decode cX12_done 37 = .ok (.ireturn, 1) := by decide +kernel
theorem dX12_beyond_0 : decode cX12_beyond 0 = .ok (.aload_n 0, 1) := by decide +kernel
theorem dX12_beyond_1 : decode cX12_beyond 1 = .ok (.aload_n 0, 1) := by decide +kernel
theorem dX12_beyond_2 : decode cX12_beyond 2 = .ok (.iload_n 1, 1) := by decide +kernel
theorem dX12_beyond_3 : decode cX12_beyond 3 = .ok (.invokevirtual 217, 3) := by decide +kernel
theorem dX12_beyond_6 : decode cX12_beyond 6 = .ok (.ifCond .eq 7, 3) := by decide +kernel
theorem dX12_beyond_9 : decode cX12_beyond 9 = .ok (.iconst 0, 1) := by decide +kernel
theorem dX12_beyond_10 : decode cX12_beyond 10 = .ok (.goto 4, 3) := by decide +kernel
theorem dX12_beyond_13 : decode cX12_beyond 13 = .ok (.iconst 1, 1) := by decide +kernel
theorem dX12_beyond_14 : decode cX12_beyond 14 = .ok (.invokevirtual 143, 3) := by decide +kernel
theorem dX12_beyond_17 : decode cX12_beyond 17 = .ok (.ifCond .ne 5, 3) := by decide +kernel
theorem dX12_beyond_20 : decode cX12_beyond 20 = .ok (.iconst 0, 1) := by decide +kernel
theorem dX12_beyond_21 : decode cX12_beyond 21 = .ok (.ireturn, 1) := by decide +kernel
theorem dX12_beyond_22 : decode cX12_beyond 22 = .ok (.aload_n 0, 1) := by decide +kernel
theorem dX12_beyond_23 : decode cX12_beyond 23 = .ok (.iconst (-1), 1) := by decide +kernel
theorem dX12_beyond_24 : decode cX12_beyond 24 = .ok (.iload_n 1, 1) := by decide +kernel
theorem dX12_beyond_25 : decode cX12_beyond 25 = .ok (.invokevirtual 169, 3) := by decide +kernel
theorem dX12_beyond_28 : decode cX12_beyond 28 = .ok (.aload_n 0, 1) := by decide +kernel
theorem dX12_beyond_29 : decode cX12_beyond 29 = .ok (.getfield 56, 3) := by decide +kernel
theorem dX12_beyond_32 : decode cX12_beyond 32 = .ok (.iload_n 1, 1) := by decide +kernel
theorem dX12_beyond_33 : decode cX12_beyond 33 = .ok (.iaload, 1) := by decide +kernel
theorem dX12_beyond_34 : decode cX12_beyond 34 = .ok (.isub, 1) := by decide +kernel
theorem dX12_beyond_35 : decode cX12_beyond 35 = .ok (.istore_n 2, 1) := by decide +kernel
theorem dX12_beyond_36 : decode cX12_beyond 36 = .ok (.iload_n 2, 1) := by decide +kernel
theorem dX12_beyond_37 : decode cX12_beyond 37 = .ok (.ifCond .le 7, 3) := by decide +kernel
theorem dX12_beyond_40 : decode cX12_beyond 40 = .ok (.iload_n 2, 1) := by decide +kernel
theorem dX12_beyond_41 : decode cX12_beyond 41 = .ok (.goto 4, 3) := by decide +kernel
theorem dX12_beyond_44 : decode cX12_beyond 44 = .ok (.iconst 0, 1) := by decide +kernel
theorem dX12_beyond_45 : decode cX12_beyond 45 = .ok (.ireturn, 1) := by decide +kernel
theorem dX12_against_0 : decode cX12_against 0 = .ok (.aload_n 0, 1) := by decide +kernel
theorem dX12_against_1 : decode cX12_against 1 = .ok (.iload_n 1, 1) := by decide +kernel
theorem dX12_against_2 : decode cX12_against 2 = .ok (.iload_n 2, 1) := by decide +kernel
theorem dX12_against_3 : decode cX12_against 3 = .ok (.iload_n 3, 1) := by decide +kernel
theorem dX12_against_4 : decode cX12_against 4 = .ok (.invokevirtual 251, 3) := by decide +kernel
theorem dX12_against_7 : decode cX12_against 7 = .ok (.istore 5, 2) := by decide +kernel
theorem dX12_against_9 : decode cX12_against 9 = .ok (.aload_n 0, 1) := by decide +kernel
theorem dX12_against_10 : decode cX12_against 10 = .ok (.iload 5, 2) := by decide +kernel
theorem dX12_against_12 : decode cX12_against 12 = .ok (.ifCond .ne 7, 3) := by decide +kernel
theorem dX12_against_15 : decode cX12_against 15 = .ok (.iconst 1, 1) := by decide +kernel
theorem dX12_against_16 : decode cX12_against 16 = .ok (.goto 20, 3) := by decide +kernel
theorem dX12_against_19 : decode cX12_against 19 = .ok (.iload 4, 2) := by decide +kernel
theorem dX12_against_21 : decode cX12_against 21 = .ok (.iconst 1, 1) := by decide +kernel
theorem dX12_against_22 : decode cX12_against 22 = .ok (.sipush 10000, 3) := by decide +kernel
theorem dX12_against_25 : decode cX12_against 25 = .ok (.invokestatic 124, 3) := by decide +kernel
theorem dX12_against_28 : decode cX12_against 28 = .ok (.ifCond .eq 7, 3) := by decide +kernel
theorem dX12_against_31 : decode cX12_against 31 = .ok (.iconst 0, 1) := by decide +kernel
theorem dX12_against_32 : decode cX12_against 32 = .ok (.goto 4, 3) := by decide +kernel
theorem dX12_against_35 : decode cX12_against 35 = .ok (.iconst 2, 1) := by decide +kernel
theorem dX12_against_36 : decode cX12_against 36 = .ok (.invokevirtual 143, 3) := by decide +kernel
theorem dX12_against_39 : decode cX12_against 39 = .ok (.ifCond .eq 15, 3) := by decide +kernel
theorem dX12_against_42 : decode cX12_against 42 = .ok (.aload_n 0, 1) := by decide +kernel
theorem dX12_against_43 : decode cX12_against 43 = .ok (.iload_n 1, 1) := by decide +kernel
theorem dX12_against_44 : decode cX12_against 44 = .ok (.iload_n 2, 1) := by decide +kernel
theorem dX12_against_45 : decode cX12_against 45 = .ok (.iload_n 3, 1) := by decide +kernel
theorem dX12_against_46 : decode cX12_against 46 = .ok (.iload 4, 2) := by decide +kernel
theorem dX12_against_48 : decode cX12_against 48 = .ok (.invokevirtual 254, 3) := by decide +kernel
theorem dX12_against_51 : decode cX12_against 51 = .ok (.goto 4, 3) := by decide +kernel
theorem dX12_against_54 : decode cX12_against 54 = .ok (.iconst 0, 1) := by decide +kernel
theorem dX12_against_55 : decode cX12_against 55 = .ok (.ireturn, 1) := by decide +kernel
theorem dX12_choices_0 : decode cX12_choices 0 = .ok (.iload_n 1, 1) := by decide +kernel
theorem dX12_choices_1 : decode cX12_choices 1 = .ok (.invokestatic 131, 3) := by decide +kernel
theorem dX12_choices_4 : decode cX12_choices 4 = .ok (.ifCond .eq 14, 3) := by decide +kernel
theorem dX12_choices_7 : decode cX12_choices 7 = .ok (.iload_n 2, 1) := by decide +kernel
theorem dX12_choices_8 : decode cX12_choices 8 = .ok (.invokestatic 206, 3) := by decide +kernel
theorem dX12_choices_11 : decode cX12_choices 11 = .ok (.ifCond .eq 7, 3) := by decide +kernel
theorem dX12_choices_14 : decode cX12_choices 14 = .ok (.iconst 1, 1) := by decide +kernel
theorem dX12_choices_15 : decode cX12_choices 15 = .ok (.goto 4, 3) := by decide +kernel
theorem dX12_choices_18 : decode cX12_choices 18 = .ok (.iconst 0, 1) := by decide +kernel
theorem dX12_choices_19 : decode cX12_choices 19 = .ok (.istore 4, 2) := by decide +kernel
theorem dX12_choices_21 : decode cX12_choices 21 = .ok (.aload_n 0, 1) := by decide +kernel
theorem dX12_choices_22 : decode cX12_choices 22 = .ok (.iload 4, 2) := by decide +kernel
theorem dX12_choices_24 : decode cX12_choices 24 = .ok (.ifCond .ne 7, 3) := by decide +kernel
theorem dX12_choices_27 : decode cX12_choices 27 = .ok (.iconst 1, 1) := by decide +kernel
theorem dX12_choices_28 : decode cX12_choices 28 = .ok (.goto 19, 3) := by decide +kernel
theorem dX12_choices_31 : decode cX12_choices 31 = .ok (.iload_n 3, 1) := by decide +kernel
theorem dX12_choices_32 : decode cX12_choices 32 = .ok (.iconst 1, 1) := by decide +kernel
theorem dX12_choices_33 : decode cX12_choices 33 = .ok (.sipush 10000, 3) := by decide +kernel
theorem dX12_choices_36 : decode cX12_choices 36 = .ok (.invokestatic 124, 3) := by decide +kernel
theorem dX12_choices_39 : decode cX12_choices 39 = .ok (.ifCond .eq 7, 3) := by decide +kernel
theorem dX12_choices_42 : decode cX12_choices 42 = .ok (.iconst 0, 1) := by decide +kernel
theorem dX12_choices_43 : decode cX12_choices 43 = .ok (.goto 4, 3) := by decide +kernel
theorem dX12_choices_46 : decode cX12_choices 46 = .ok (.iconst 2, 1) := by decide +kernel
theorem dX12_choices_47 : decode cX12_choices 47 = .ok (.invokevirtual 143, 3) := by decide +kernel
theorem dX12_choices_50 : decode cX12_choices 50 = .ok (.ifCond .ne 5, 3) := by decide +kernel
theorem dX12_choices_53 : decode cX12_choices 53 = .ok (.iconst 0, 1) := by decide +kernel
theorem dX12_choices_54 : decode cX12_choices 54 = .ok (.ireturn, 1) := by decide +kernel
theorem dX12_choices_55 : decode cX12_choices 55 = .ok (.iconst 0, 1) := by decide +kernel
theorem dX12_choices_56 : decode cX12_choices 56 = .ok (.istore 5, 2) := by decide +kernel
theorem dX12_choices_58 : decode cX12_choices 58 = .ok (.iconst 0, 1) := by decide +kernel
theorem dX12_choices_59 : decode cX12_choices 59 = .ok (.istore 6, 2) := by decide +kernel
theorem dX12_choices_61 : decode cX12_choices 61 = .ok (.iload 6, 2) := by decide +kernel
theorem dX12_choices_63 : decode cX12_choices 63 = .ok (.aload_n 0, 1) := by decide +kernel
theorem dX12_choices_64 : decode cX12_choices 64 = .ok (.getfield 128, 3) := by decide +kernel
theorem dX12_choices_67 : decode cX12_choices 67 = .ok (.if_icmp .ge 31, 3) := by decide +kernel
theorem dX12_choices_70 : decode cX12_choices 70 = .ok (.iload 5, 2) := by decide +kernel
theorem dX12_choices_72 : decode cX12_choices 72 = .ok (.aload_n 0, 1) := by decide +kernel
theorem dX12_choices_73 : decode cX12_choices 73 = .ok (.iload_n 1, 1) := by decide +kernel
theorem dX12_choices_74 : decode cX12_choices 74 = .ok (.iload_n 2, 1) := by decide +kernel
theorem dX12_choices_75 : decode cX12_choices 75 = .ok (.iload 6, 2) := by decide +kernel
theorem dX12_choices_77 : decode cX12_choices 77 = .ok (.iload_n 3, 1) := by decide +kernel
theorem dX12_choices_78 : decode cX12_choices 78 = .ok (.invokevirtual 254, 3) := by decide +kernel
theorem dX12_choices_81 : decode cX12_choices 81 = .ok (.ifCond .ne 7, 3) := by decide +kernel
theorem dX12_choices_84 : decode cX12_choices 84 = .ok (.iconst 1, 1) := by decide +kernel
theorem dX12_choices_85 : decode cX12_choices 85 = .ok (.goto 4, 3) := by decide +kernel
theorem dX12_choices_88 : decode cX12_choices 88 = .ok (.iconst 0, 1) := by decide +kernel
theorem dX12_choices_89 : decode cX12_choices 89 = .ok (.iadd, 1) := by decide +kernel
theorem dX12_choices_90 : decode cX12_choices 90 = .ok (.istore 5, 2) := by decide +kernel
theorem dX12_choices_92 : decode cX12_choices 92 = .ok (.iinc 6 1, 3) := by decide +kernel
theorem dX12_choices_95 : decode cX12_choices 95 = .ok (.goto (-34), 3) := by decide +kernel
theorem dX12_choices_98 : decode cX12_choices 98 = .ok (.iload 5, 2) := by decide +kernel
theorem dX12_choices_100 : decode cX12_choices 100 = .ok (.ireturn, 1) := by decide +kernel
theorem dX12_isThere_0 : decode cX12_isThere 0 = .ok (.aload_n 0, 1) := by decide +kernel
theorem dX12_isThere_1 : decode cX12_isThere 1 = .ok (.aload_n 0, 1) := by decide +kernel
theorem dX12_isThere_2 : decode cX12_isThere 2 = .ok (.iload_n 1, 1) := by decide +kernel
theorem dX12_isThere_3 : decode cX12_isThere 3 = .ok (.iload_n 2, 1) := by decide +kernel
theorem dX12_isThere_4 : decode cX12_isThere 4 = .ok (.invokevirtual 269, 3) := by decide +kernel
theorem dX12_isThere_7 : decode cX12_isThere 7 = .ok (.ifCond .eq 7, 3) := by decide +kernel
theorem dX12_isThere_10 : decode cX12_isThere 10 = .ok (.iconst 0, 1) := by decide +kernel
theorem dX12_isThere_11 : decode cX12_isThere 11 = .ok (.goto 4, 3) := by decide +kernel
theorem dX12_isThere_14 : decode cX12_isThere 14 = .ok (.iconst 1, 1) := by decide +kernel
theorem dX12_isThere_15 : decode cX12_isThere 15 = .ok (.invokevirtual 143, 3) := by decide +kernel
theorem dX12_isThere_18 : decode cX12_isThere 18 = .ok (.ireturn, 1) := by decide +kernel
theorem dX12_stands_0 : decode cX12_stands 0 = .ok (.aload_n 0, 1) := by decide +kernel
theorem dX12_stands_1 : decode cX12_stands 1 = .ok (.iload_n 1, 1) := by decide +kernel
theorem dX12_stands_2 : decode cX12_stands 2 = .ok (.iload_n 2, 1) := by decide +kernel
theorem dX12_stands_3 : decode cX12_stands 3 = .ok (.invokevirtual 290, 3) := by decide +kernel
theorem dX12_stands_6 : decode cX12_stands 6 = .ok (.ifCond .eq 27, 3) := by decide +kernel
theorem dX12_stands_9 : decode cX12_stands 9 = .ok (.aload_n 0, 1) := by decide +kernel
theorem dX12_stands_10 : decode cX12_stands 10 = .ok (.getfield 97, 3) := by decide +kernel
theorem dX12_stands_13 : decode cX12_stands 13 = .ok (.aload_n 0, 1) := by decide +kernel
theorem dX12_stands_14 : decode cX12_stands 14 = .ok (.getfield 82, 3) := by decide +kernel
theorem dX12_stands_17 : decode cX12_stands 17 = .ok (.sipush 160, 3) := by decide +kernel
theorem dX12_stands_20 : decode cX12_stands 20 = .ok (.iload_n 1, 1) := by decide +kernel
theorem dX12_stands_21 : decode cX12_stands 21 = .ok (.imul, 1) := by decide +kernel
theorem dX12_stands_22 : decode cX12_stands 22 = .ok (.iload_n 2, 1) := by decide +kernel
theorem dX12_stands_23 : decode cX12_stands 23 = .ok (.iadd, 1) := by decide +kernel
theorem dX12_stands_24 : decode cX12_stands 24 = .ok (.iaload, 1) := by decide +kernel
theorem dX12_stands_25 : decode cX12_stands 25 = .ok (.baload, 1) := by decide +kernel
theorem dX12_stands_26 : decode cX12_stands 26 = .ok (.ifCond .eq 7, 3) := by decide +kernel
theorem dX12_stands_29 : decode cX12_stands 29 = .ok (.iconst 1, 1) := by decide +kernel
theorem dX12_stands_30 : decode cX12_stands 30 = .ok (.goto 4, 3) := by decide +kernel
theorem dX12_stands_33 : decode cX12_stands 33 = .ok (.iconst 0, 1) := by decide +kernel
theorem dX12_stands_34 : decode cX12_stands 34 = .ok (.ireturn, 1) := by decide +kernel
theorem dX12_fault_0 : decode cX12_fault 0 = .ok (.aload_n 0, 1) := by decide +kernel
theorem dX12_fault_1 : decode cX12_fault 1 = .ok (.iload_n 1, 1) := by decide +kernel
theorem dX12_fault_2 : decode cX12_fault 2 = .ok (.iload_n 2, 1) := by decide +kernel
theorem dX12_fault_3 : decode cX12_fault 3 = .ok (.invokevirtual 290, 3) := by decide +kernel
theorem dX12_fault_6 : decode cX12_fault 6 = .ok (.ifCond .eq 22, 3) := by decide +kernel
theorem dX12_fault_9 : decode cX12_fault 9 = .ok (.aload_n 0, 1) := by decide +kernel
theorem dX12_fault_10 : decode cX12_fault 10 = .ok (.aload_n 0, 1) := by decide +kernel
theorem dX12_fault_11 : decode cX12_fault 11 = .ok (.getfield 82, 3) := by decide +kernel
theorem dX12_fault_14 : decode cX12_fault 14 = .ok (.sipush 160, 3) := by decide +kernel
theorem dX12_fault_17 : decode cX12_fault 17 = .ok (.iload_n 1, 1) := by decide +kernel
theorem dX12_fault_18 : decode cX12_fault 18 = .ok (.imul, 1) := by decide +kernel
theorem dX12_fault_19 : decode cX12_fault 19 = .ok (.iload_n 2, 1) := by decide +kernel
theorem dX12_fault_20 : decode cX12_fault 20 = .ok (.iadd, 1) := by decide +kernel
theorem dX12_fault_21 : decode cX12_fault 21 = .ok (.iaload, 1) := by decide +kernel
theorem dX12_fault_22 : decode cX12_fault 22 = .ok (.invokevirtual 266, 3) := by decide +kernel
theorem dX12_fault_25 : decode cX12_fault 25 = .ok (.goto 4, 3) := by decide +kernel
theorem dX12_fault_28 : decode cX12_fault 28 = .ok (.iconst 0, 1) := by decide +kernel
theorem dX12_fault_29 : decode cX12_fault 29 = .ok (.ireturn, 1) := by decide +kernel
theorem dX12_standing_0 : decode cX12_standing 0 = .ok (.aload_n 0, 1) := by decide +kernel
theorem dX12_standing_1 : decode cX12_standing 1 = .ok (.iconst 0, 1) := by decide +kernel
theorem dX12_standing_2 : decode cX12_standing 2 = .ok (.putfield 121, 3) := by decide +kernel
theorem dX12_standing_5 : decode cX12_standing 5 = .ok (.iconst 0, 1) := by decide +kernel
theorem dX12_standing_6 : decode cX12_standing 6 = .ok (.istore_n 1, 1) := by decide +kernel
theorem dX12_standing_7 : decode cX12_standing 7 = .ok (.iconst 0, 1) := by decide +kernel
theorem dX12_standing_8 : decode cX12_standing 8 = .ok (.istore_n 2, 1) := by decide +kernel
theorem dX12_standing_9 : decode cX12_standing 9 = .ok (.iload_n 2, 1) := by decide +kernel
theorem dX12_standing_10 : decode cX12_standing 10 = .ok (.aload_n 0, 1) := by decide +kernel
theorem dX12_standing_11 : decode cX12_standing 11 = .ok (.getfield 260, 3) := by decide +kernel
theorem dX12_standing_14 : decode cX12_standing 14 = .ok (.if_icmp .ge 26, 3) := by decide +kernel
theorem dX12_standing_17 : decode cX12_standing 17 = .ok (.iload_n 1, 1) := by decide +kernel
theorem dX12_standing_18 : decode cX12_standing 18 = .ok (.aload_n 0, 1) := by decide +kernel
theorem dX12_standing_19 : decode cX12_standing 19 = .ok (.getfield 97, 3) := by decide +kernel
theorem dX12_standing_22 : decode cX12_standing 22 = .ok (.iload_n 2, 1) := by decide +kernel
theorem dX12_standing_23 : decode cX12_standing 23 = .ok (.baload, 1) := by decide +kernel
theorem dX12_standing_24 : decode cX12_standing 24 = .ok (.ifCond .eq 7, 3) := by decide +kernel
theorem dX12_standing_27 : decode cX12_standing 27 = .ok (.iconst 1, 1) := by decide +kernel
theorem dX12_standing_28 : decode cX12_standing 28 = .ok (.goto 4, 3) := by decide +kernel
theorem dX12_standing_31 : decode cX12_standing 31 = .ok (.iconst 0, 1) := by decide +kernel
theorem dX12_standing_32 : decode cX12_standing 32 = .ok (.iadd, 1) := by decide +kernel
theorem dX12_standing_33 : decode cX12_standing 33 = .ok (.istore_n 1, 1) := by decide +kernel
theorem dX12_standing_34 : decode cX12_standing 34 = .ok (.iinc 2 1, 3) := by decide +kernel
theorem dX12_standing_37 : decode cX12_standing 37 = .ok (.goto (-28), 3) := by decide +kernel
theorem dX12_standing_40 : decode cX12_standing 40 = .ok (.iload_n 1, 1) := by decide +kernel
theorem dX12_standing_41 : decode cX12_standing 41 = .ok (.ireturn, 1) := by decide +kernel
theorem dX12_pieceOf_0 : decode cX12_pieceOf 0 = .ok (.aload_n 0, 1) := by decide +kernel
theorem dX12_pieceOf_1 : decode cX12_pieceOf 1 = .ok (.iload_n 1, 1) := by decide +kernel
theorem dX12_pieceOf_2 : decode cX12_pieceOf 2 = .ok (.iload_n 2, 1) := by decide +kernel
theorem dX12_pieceOf_3 : decode cX12_pieceOf 3 = .ok (.invokevirtual 290, 3) := by decide +kernel
theorem dX12_pieceOf_6 : decode cX12_pieceOf 6 = .ok (.ifCond .eq 23, 3) := by decide +kernel
theorem dX12_pieceOf_9 : decode cX12_pieceOf 9 = .ok (.aload_n 0, 1) := by decide +kernel
theorem dX12_pieceOf_10 : decode cX12_pieceOf 10 = .ok (.getfield 85, 3) := by decide +kernel
theorem dX12_pieceOf_13 : decode cX12_pieceOf 13 = .ok (.aload_n 0, 1) := by decide +kernel
theorem dX12_pieceOf_14 : decode cX12_pieceOf 14 = .ok (.getfield 82, 3) := by decide +kernel
theorem dX12_pieceOf_17 : decode cX12_pieceOf 17 = .ok (.sipush 160, 3) := by decide +kernel
theorem dX12_pieceOf_20 : decode cX12_pieceOf 20 = .ok (.iload_n 1, 1) := by decide +kernel
theorem dX12_pieceOf_21 : decode cX12_pieceOf 21 = .ok (.imul, 1) := by decide +kernel
theorem dX12_pieceOf_22 : decode cX12_pieceOf 22 = .ok (.iload_n 2, 1) := by decide +kernel
theorem dX12_pieceOf_23 : decode cX12_pieceOf 23 = .ok (.iadd, 1) := by decide +kernel
theorem dX12_pieceOf_24 : decode cX12_pieceOf 24 = .ok (.iaload, 1) := by decide +kernel
theorem dX12_pieceOf_25 : decode cX12_pieceOf 25 = .ok (.iaload, 1) := by decide +kernel
theorem dX12_pieceOf_26 : decode cX12_pieceOf 26 = .ok (.goto 4, 3) := by decide +kernel
theorem dX12_pieceOf_29 : decode cX12_pieceOf 29 = .ok (.iconst 0, 1) := by decide +kernel
theorem dX12_pieceOf_30 : decode cX12_pieceOf 30 = .ok (.ireturn, 1) := by decide +kernel
theorem dX12_part_0 : decode cX12_part 0 = .ok (.aload_n 0, 1) := by decide +kernel
theorem dX12_part_1 : decode cX12_part 1 = .ok (.iload_n 1, 1) := by decide +kernel
theorem dX12_part_2 : decode cX12_part 2 = .ok (.iload_n 2, 1) := by decide +kernel
theorem dX12_part_3 : decode cX12_part 3 = .ok (.invokevirtual 269, 3) := by decide +kernel
theorem dX12_part_6 : decode cX12_part 6 = .ok (.ifCond .eq 16, 3) := by decide +kernel
theorem dX12_part_9 : decode cX12_part 9 = .ok (.iload_n 3, 1) := by decide +kernel
theorem dX12_part_10 : decode cX12_part 10 = .ok (.iconst 0, 1) := by decide +kernel
theorem dX12_part_11 : decode cX12_part 11 = .ok (.iconst 5, 1) := by decide +kernel
theorem dX12_part_12 : decode cX12_part 12 = .ok (.invokestatic 124, 3) := by decide +kernel
theorem dX12_part_15 : decode cX12_part 15 = .ok (.ifCond .eq 7, 3) := by decide +kernel
theorem dX12_part_18 : decode cX12_part 18 = .ok (.iconst 1, 1) := by decide +kernel
theorem dX12_part_19 : decode cX12_part 19 = .ok (.goto 4, 3) := by decide +kernel
theorem dX12_part_22 : decode cX12_part 22 = .ok (.iconst 0, 1) := by decide +kernel
theorem dX12_part_23 : decode cX12_part 23 = .ok (.istore 4, 2) := by decide +kernel
theorem dX12_part_25 : decode cX12_part 25 = .ok (.aload_n 0, 1) := by decide +kernel
theorem dX12_part_26 : decode cX12_part 26 = .ok (.iload 4, 2) := by decide +kernel
theorem dX12_part_28 : decode cX12_part 28 = .ok (.ifCond .eq 7, 3) := by decide +kernel
theorem dX12_part_31 : decode cX12_part 31 = .ok (.iconst 0, 1) := by decide +kernel
theorem dX12_part_32 : decode cX12_part 32 = .ok (.goto 4, 3) := by decide +kernel
theorem dX12_part_35 : decode cX12_part 35 = .ok (.iconst 1, 1) := by decide +kernel
theorem dX12_part_36 : decode cX12_part 36 = .ok (.invokevirtual 143, 3) := by decide +kernel
theorem dX12_part_39 : decode cX12_part 39 = .ok (.ifCond .eq 28, 3) := by decide +kernel
theorem dX12_part_42 : decode cX12_part 42 = .ok (.aload_n 0, 1) := by decide +kernel
theorem dX12_part_43 : decode cX12_part 43 = .ok (.getfield 88, 3) := by decide +kernel
theorem dX12_part_46 : decode cX12_part 46 = .ok (.bipush 6, 2) := by decide +kernel
theorem dX12_part_48 : decode cX12_part 48 = .ok (.aload_n 0, 1) := by decide +kernel
theorem dX12_part_49 : decode cX12_part 49 = .ok (.getfield 82, 3) := by decide +kernel
theorem dX12_part_52 : decode cX12_part 52 = .ok (.sipush 160, 3) := by decide +kernel
theorem dX12_part_55 : decode cX12_part 55 = .ok (.iload_n 1, 1) := by decide +kernel
theorem dX12_part_56 : decode cX12_part 56 = .ok (.imul, 1) := by decide +kernel
theorem dX12_part_57 : decode cX12_part 57 = .ok (.iload_n 2, 1) := by decide +kernel
theorem dX12_part_58 : decode cX12_part 58 = .ok (.iadd, 1) := by decide +kernel
theorem dX12_part_59 : decode cX12_part 59 = .ok (.iaload, 1) := by decide +kernel
theorem dX12_part_60 : decode cX12_part 60 = .ok (.imul, 1) := by decide +kernel
theorem dX12_part_61 : decode cX12_part 61 = .ok (.iload_n 3, 1) := by decide +kernel
theorem dX12_part_62 : decode cX12_part 62 = .ok (.iadd, 1) := by decide +kernel
theorem dX12_part_63 : decode cX12_part 63 = .ok (.iaload, 1) := by decide +kernel
theorem dX12_part_64 : decode cX12_part 64 = .ok (.goto 4, 3) := by decide +kernel
theorem dX12_part_67 : decode cX12_part 67 = .ok (.iconst 0, 1) := by decide +kernel
theorem dX12_part_68 : decode cX12_part 68 = .ok (.ireturn, 1) := by decide +kernel
theorem dX12_seal_0 : decode cX12_seal 0 = .ok (.aload_n 0, 1) := by decide +kernel
theorem dX12_seal_1 : decode cX12_seal 1 = .ok (.iload_n 1, 1) := by decide +kernel
theorem dX12_seal_2 : decode cX12_seal 2 = .ok (.iload_n 2, 1) := by decide +kernel
theorem dX12_seal_3 : decode cX12_seal 3 = .ok (.invokevirtual 290, 3) := by decide +kernel
theorem dX12_seal_6 : decode cX12_seal 6 = .ok (.ifCond .eq 23, 3) := by decide +kernel
theorem dX12_seal_9 : decode cX12_seal 9 = .ok (.aload_n 0, 1) := by decide +kernel
theorem dX12_seal_10 : decode cX12_seal 10 = .ok (.getfield 94, 3) := by decide +kernel
theorem dX12_seal_13 : decode cX12_seal 13 = .ok (.aload_n 0, 1) := by decide +kernel
theorem dX12_seal_14 : decode cX12_seal 14 = .ok (.getfield 82, 3) := by decide +kernel
theorem dX12_seal_17 : decode cX12_seal 17 = .ok (.sipush 160, 3) := by decide +kernel
theorem dX12_seal_20 : decode cX12_seal 20 = .ok (.iload_n 1, 1) := by decide +kernel
theorem dX12_seal_21 : decode cX12_seal 21 = .ok (.imul, 1) := by decide +kernel
theorem dX12_seal_22 : decode cX12_seal 22 = .ok (.iload_n 2, 1) := by decide +kernel
theorem dX12_seal_23 : decode cX12_seal 23 = .ok (.iadd, 1) := by decide +kernel
theorem dX12_seal_24 : decode cX12_seal 24 = .ok (.iaload, 1) := by decide +kernel
theorem dX12_seal_25 : decode cX12_seal 25 = .ok (.iaload, 1) := by decide +kernel
theorem dX12_seal_26 : decode cX12_seal 26 = .ok (.goto 4, 3) := by decide +kernel
theorem dX12_seal_29 : decode cX12_seal 29 = .ok (.iconst 0, 1) := by decide +kernel
theorem dX12_seal_30 : decode cX12_seal 30 = .ok (.ireturn, 1) := by decide +kernel
theorem dX12_broken_0 : decode cX12_broken 0 = .ok (.aload_n 0, 1) := by decide +kernel
theorem dX12_broken_1 : decode cX12_broken 1 = .ok (.iload_n 1, 1) := by decide +kernel
theorem dX12_broken_2 : decode cX12_broken 2 = .ok (.invokestatic 131, 3) := by decide +kernel
theorem dX12_broken_5 : decode cX12_broken 5 = .ok (.ifCond .eq 7, 3) := by decide +kernel
theorem dX12_broken_8 : decode cX12_broken 8 = .ok (.iconst 0, 1) := by decide +kernel
theorem dX12_broken_9 : decode cX12_broken 9 = .ok (.goto 4, 3) := by decide +kernel
theorem dX12_broken_12 : decode cX12_broken 12 = .ok (.iconst 1, 1) := by decide +kernel
theorem dX12_broken_13 : decode cX12_broken 13 = .ok (.invokevirtual 143, 3) := by decide +kernel
theorem dX12_broken_16 : decode cX12_broken 16 = .ok (.ifCond .ne 5, 3) := by decide +kernel
theorem dX12_broken_19 : decode cX12_broken 19 = .ok (.iconst 0, 1) := by decide +kernel
theorem dX12_broken_20 : decode cX12_broken 20 = .ok (.ireturn, 1) := by decide +kernel
theorem dX12_broken_21 : decode cX12_broken 21 = .ok (.iconst 0, 1) := by decide +kernel
theorem dX12_broken_22 : decode cX12_broken 22 = .ok (.istore_n 2, 1) := by decide +kernel
theorem dX12_broken_23 : decode cX12_broken 23 = .ok (.iload_n 2, 1) := by decide +kernel
theorem dX12_broken_24 : decode cX12_broken 24 = .ok (.aload_n 0, 1) := by decide +kernel
theorem dX12_broken_25 : decode cX12_broken 25 = .ok (.getfield 79, 3) := by decide +kernel
theorem dX12_broken_28 : decode cX12_broken 28 = .ok (.iload_n 1, 1) := by decide +kernel
theorem dX12_broken_29 : decode cX12_broken 29 = .ok (.iaload, 1) := by decide +kernel
theorem dX12_broken_30 : decode cX12_broken 30 = .ok (.if_icmp .ge 37, 3) := by decide +kernel
theorem dX12_broken_33 : decode cX12_broken 33 = .ok (.aload_n 0, 1) := by decide +kernel
theorem dX12_broken_34 : decode cX12_broken 34 = .ok (.iload_n 1, 1) := by decide +kernel
theorem dX12_broken_35 : decode cX12_broken 35 = .ok (.iload_n 2, 1) := by decide +kernel
theorem dX12_broken_36 : decode cX12_broken 36 = .ok (.invokevirtual 263, 3) := by decide +kernel
theorem dX12_broken_39 : decode cX12_broken 39 = .ok (.aload_n 0, 1) := by decide +kernel
theorem dX12_broken_40 : decode cX12_broken 40 = .ok (.getfield 94, 3) := by decide +kernel
theorem dX12_broken_43 : decode cX12_broken 43 = .ok (.aload_n 0, 1) := by decide +kernel
theorem dX12_broken_44 : decode cX12_broken 44 = .ok (.getfield 82, 3) := by decide +kernel
theorem dX12_broken_47 : decode cX12_broken 47 = .ok (.sipush 160, 3) := by decide +kernel
theorem dX12_broken_50 : decode cX12_broken 50 = .ok (.iload_n 1, 1) := by decide +kernel
theorem dX12_broken_51 : decode cX12_broken 51 = .ok (.imul, 1) := by decide +kernel
theorem dX12_broken_52 : decode cX12_broken 52 = .ok (.iload_n 2, 1) := by decide +kernel
theorem dX12_broken_53 : decode cX12_broken 53 = .ok (.iadd, 1) := by decide +kernel
theorem dX12_broken_54 : decode cX12_broken 54 = .ok (.iaload, 1) := by decide +kernel
theorem dX12_broken_55 : decode cX12_broken 55 = .ok (.iaload, 1) := by decide +kernel
theorem dX12_broken_56 : decode cX12_broken 56 = .ok (.if_icmp .eq 5, 3) := by decide +kernel
theorem dX12_broken_59 : decode cX12_broken 59 = .ok (.iload_n 2, 1) := by decide +kernel
theorem dX12_broken_60 : decode cX12_broken 60 = .ok (.ireturn, 1) := by decide +kernel
theorem dX12_broken_61 : decode cX12_broken 61 = .ok (.iinc 2 1, 3) := by decide +kernel
theorem dX12_broken_64 : decode cX12_broken 64 = .ok (.goto (-41), 3) := by decide +kernel
theorem dX12_broken_67 : decode cX12_broken 67 = .ok (.iconst (-1), 1) := by decide +kernel
theorem dX12_broken_68 : decode cX12_broken 68 = .ok (.ireturn, 1) := by decide +kernel
theorem dX12_size_0 : decode cX12_size 0 = .ok (.aload_n 0, 1) := by decide +kernel
theorem dX12_size_1 : decode cX12_size 1 = .ok (.aload_n 0, 1) := by decide +kernel
theorem dX12_size_2 : decode cX12_size 2 = .ok (.iload_n 1, 1) := by decide +kernel
theorem dX12_size_3 : decode cX12_size 3 = .ok (.invokevirtual 281, 3) := by decide +kernel
theorem dX12_size_6 : decode cX12_size 6 = .ok (.ifCond .eq 7, 3) := by decide +kernel
theorem dX12_size_9 : decode cX12_size 9 = .ok (.iconst 0, 1) := by decide +kernel
theorem dX12_size_10 : decode cX12_size 10 = .ok (.goto 4, 3) := by decide +kernel
theorem dX12_size_13 : decode cX12_size 13 = .ok (.iconst 1, 1) := by decide +kernel
theorem dX12_size_14 : decode cX12_size 14 = .ok (.invokevirtual 143, 3) := by decide +kernel
theorem dX12_size_17 : decode cX12_size 17 = .ok (.ifCond .eq 12, 3) := by decide +kernel
theorem dX12_size_20 : decode cX12_size 20 = .ok (.aload_n 0, 1) := by decide +kernel
theorem dX12_size_21 : decode cX12_size 21 = .ok (.getfield 106, 3) := by decide +kernel
theorem dX12_size_24 : decode cX12_size 24 = .ok (.iload_n 1, 1) := by decide +kernel
theorem dX12_size_25 : decode cX12_size 25 = .ok (.iaload, 1) := by decide +kernel
theorem dX12_size_26 : decode cX12_size 26 = .ok (.goto 4, 3) := by decide +kernel
theorem dX12_size_29 : decode cX12_size 29 = .ok (.iconst 0, 1) := by decide +kernel
theorem dX12_size_30 : decode cX12_size 30 = .ok (.ireturn, 1) := by decide +kernel
theorem dX12_copied_0 : decode cX12_copied 0 = .ok (.aload_n 0, 1) := by decide +kernel
theorem dX12_copied_1 : decode cX12_copied 1 = .ok (.aload_n 0, 1) := by decide +kernel
theorem dX12_copied_2 : decode cX12_copied 2 = .ok (.iload_n 1, 1) := by decide +kernel
theorem dX12_copied_3 : decode cX12_copied 3 = .ok (.iload_n 2, 1) := by decide +kernel
theorem dX12_copied_4 : decode cX12_copied 4 = .ok (.iload_n 3, 1) := by decide +kernel
theorem dX12_copied_5 : decode cX12_copied 5 = .ok (.invokevirtual 284, 3) := by decide +kernel
theorem dX12_copied_8 : decode cX12_copied 8 = .ok (.ifCond .eq 7, 3) := by decide +kernel
theorem dX12_copied_11 : decode cX12_copied 11 = .ok (.iconst 0, 1) := by decide +kernel
theorem dX12_copied_12 : decode cX12_copied 12 = .ok (.goto 4, 3) := by decide +kernel
theorem dX12_copied_15 : decode cX12_copied 15 = .ok (.iconst 1, 1) := by decide +kernel
theorem dX12_copied_16 : decode cX12_copied 16 = .ok (.invokevirtual 143, 3) := by decide +kernel
theorem dX12_copied_19 : decode cX12_copied 19 = .ok (.ifCond .ne 5, 3) := by decide +kernel
theorem dX12_copied_22 : decode cX12_copied 22 = .ok (.iconst 0, 1) := by decide +kernel
theorem dX12_copied_23 : decode cX12_copied 23 = .ok (.ireturn, 1) := by decide +kernel
theorem dX12_copied_24 : decode cX12_copied 24 = .ok (.aload_n 0, 1) := by decide +kernel
theorem dX12_copied_25 : decode cX12_copied 25 = .ok (.iload_n 1, 1) := by decide +kernel
theorem dX12_copied_26 : decode cX12_copied 26 = .ok (.iload_n 3, 1) := by decide +kernel
theorem dX12_copied_27 : decode cX12_copied 27 = .ok (.invokevirtual 272, 3) := by decide +kernel
theorem dX12_copied_30 : decode cX12_copied 30 = .ok (.ifCond .eq 7, 3) := by decide +kernel
theorem dX12_copied_33 : decode cX12_copied 33 = .ok (.iconst (-1), 1) := by decide +kernel
theorem dX12_copied_34 : decode cX12_copied 34 = .ok (.goto 20, 3) := by decide +kernel
theorem dX12_copied_37 : decode cX12_copied 37 = .ok (.aload_n 0, 1) := by decide +kernel
theorem dX12_copied_38 : decode cX12_copied 38 = .ok (.getfield 115, 3) := by decide +kernel
theorem dX12_copied_41 : decode cX12_copied 41 = .ok (.bipush 6, 2) := by decide +kernel
theorem dX12_copied_43 : decode cX12_copied 43 = .ok (.sipush 160, 3) := by decide +kernel
theorem dX12_copied_46 : decode cX12_copied 46 = .ok (.iload_n 1, 1) := by decide +kernel
theorem dX12_copied_47 : decode cX12_copied 47 = .ok (.imul, 1) := by decide +kernel
theorem dX12_copied_48 : decode cX12_copied 48 = .ok (.iload_n 2, 1) := by decide +kernel
theorem dX12_copied_49 : decode cX12_copied 49 = .ok (.iadd, 1) := by decide +kernel
theorem dX12_copied_50 : decode cX12_copied 50 = .ok (.imul, 1) := by decide +kernel
theorem dX12_copied_51 : decode cX12_copied 51 = .ok (.iload_n 3, 1) := by decide +kernel
theorem dX12_copied_52 : decode cX12_copied 52 = .ok (.iadd, 1) := by decide +kernel
theorem dX12_copied_53 : decode cX12_copied 53 = .ok (.iaload, 1) := by decide +kernel
theorem dX12_copied_54 : decode cX12_copied 54 = .ok (.ireturn, 1) := by decide +kernel
theorem dX12_isBroken_0 : decode cX12_isBroken 0 = .ok (.iconst 1, 1) := by decide +kernel
theorem dX12_isBroken_1 : decode cX12_isBroken 1 = .ok (.istore_n 3, 1) := by decide +kernel
theorem dX12_isBroken_2 : decode cX12_isBroken 2 = .ok (.iconst 0, 1) := by decide +kernel
theorem dX12_isBroken_3 : decode cX12_isBroken 3 = .ok (.istore 4, 2) := by decide +kernel
theorem dX12_isBroken_5 : decode cX12_isBroken 5 = .ok (.iload 4, 2) := by decide +kernel
theorem dX12_isBroken_7 : decode cX12_isBroken 7 = .ok (.bipush 6, 2) := by decide +kernel
theorem dX12_isBroken_9 : decode cX12_isBroken 9 = .ok (.if_icmp .ge 70, 3) := by decide +kernel
theorem dX12_isBroken_12 : decode cX12_isBroken 12 = .ok (.aload_n 0, 1) := by decide +kernel
theorem dX12_isBroken_13 : decode cX12_isBroken 13 = .ok (.getfield 115, 3) := by decide +kernel
theorem dX12_isBroken_16 : decode cX12_isBroken 16 = .ok (.bipush 6, 2) := by decide +kernel
theorem dX12_isBroken_18 : decode cX12_isBroken 18 = .ok (.sipush 160, 3) := by decide +kernel
theorem dX12_isBroken_21 : decode cX12_isBroken 21 = .ok (.iload_n 1, 1) := by decide +kernel
theorem dX12_isBroken_22 : decode cX12_isBroken 22 = .ok (.imul, 1) := by decide +kernel
theorem dX12_isBroken_23 : decode cX12_isBroken 23 = .ok (.iload_n 2, 1) := by decide +kernel
theorem dX12_isBroken_24 : decode cX12_isBroken 24 = .ok (.iadd, 1) := by decide +kernel
theorem dX12_isBroken_25 : decode cX12_isBroken 25 = .ok (.imul, 1) := by decide +kernel
theorem dX12_isBroken_26 : decode cX12_isBroken 26 = .ok (.iload 4, 2) := by decide +kernel
theorem dX12_isBroken_28 : decode cX12_isBroken 28 = .ok (.iadd, 1) := by decide +kernel
theorem dX12_isBroken_29 : decode cX12_isBroken 29 = .ok (.iaload, 1) := by decide +kernel
theorem dX12_isBroken_30 : decode cX12_isBroken 30 = .ok (.istore 5, 2) := by decide +kernel
theorem dX12_isBroken_32 : decode cX12_isBroken 32 = .ok (.iload_n 3, 1) := by decide +kernel
theorem dX12_isBroken_33 : decode cX12_isBroken 33 = .ok (.aload_n 0, 1) := by decide +kernel
theorem dX12_isBroken_34 : decode cX12_isBroken 34 = .ok (.iload_n 1, 1) := by decide +kernel
theorem dX12_isBroken_35 : decode cX12_isBroken 35 = .ok (.iload 4, 2) := by decide +kernel
theorem dX12_isBroken_37 : decode cX12_isBroken 37 = .ok (.invokevirtual 272, 3) := by decide +kernel
theorem dX12_isBroken_40 : decode cX12_isBroken 40 = .ok (.ifCond .eq 8, 3) := by decide +kernel
theorem dX12_isBroken_43 : decode cX12_isBroken 43 = .ok (.iload 5, 2) := by decide +kernel
theorem dX12_isBroken_45 : decode cX12_isBroken 45 = .ok (.goto 24, 3) := by decide +kernel
theorem dX12_isBroken_48 : decode cX12_isBroken 48 = .ok (.aload_n 0, 1) := by decide +kernel
theorem dX12_isBroken_49 : decode cX12_isBroken 49 = .ok (.getfield 100, 3) := by decide +kernel
theorem dX12_isBroken_52 : decode cX12_isBroken 52 = .ok (.iload_n 1, 1) := by decide +kernel
theorem dX12_isBroken_53 : decode cX12_isBroken 53 = .ok (.iaload, 1) := by decide +kernel
theorem dX12_isBroken_54 : decode cX12_isBroken 54 = .ok (.aload_n 0, 1) := by decide +kernel
theorem dX12_isBroken_55 : decode cX12_isBroken 55 = .ok (.getfield 103, 3) := by decide +kernel
theorem dX12_isBroken_58 : decode cX12_isBroken 58 = .ok (.iload_n 1, 1) := by decide +kernel
theorem dX12_isBroken_59 : decode cX12_isBroken 59 = .ok (.iaload, 1) := by decide +kernel
theorem dX12_isBroken_60 : decode cX12_isBroken 60 = .ok (.iload_n 2, 1) := by decide +kernel
theorem dX12_isBroken_61 : decode cX12_isBroken 61 = .ok (.iadd, 1) := by decide +kernel
theorem dX12_isBroken_62 : decode cX12_isBroken 62 = .ok (.iload 4, 2) := by decide +kernel
theorem dX12_isBroken_64 : decode cX12_isBroken 64 = .ok (.iload 5, 2) := by decide +kernel
theorem dX12_isBroken_66 : decode cX12_isBroken 66 = .ok (.invokestatic 245, 3) := by decide +kernel
theorem dX12_isBroken_69 : decode cX12_isBroken 69 = .ok (.invokestatic 242, 3) := by decide +kernel
theorem dX12_isBroken_72 : decode cX12_isBroken 72 = .ok (.istore_n 3, 1) := by decide +kernel
theorem dX12_isBroken_73 : decode cX12_isBroken 73 = .ok (.iinc 4 1, 3) := by decide +kernel
theorem dX12_isBroken_76 : decode cX12_isBroken 76 = .ok (.goto (-71), 3) := by decide +kernel
theorem dX12_isBroken_79 : decode cX12_isBroken 79 = .ok (.iload_n 2, 1) := by decide +kernel
theorem dX12_isBroken_80 : decode cX12_isBroken 80 = .ok (.ifCond .ne 12, 3) := by decide +kernel
theorem dX12_isBroken_83 : decode cX12_isBroken 83 = .ok (.aload_n 0, 1) := by decide +kernel
theorem dX12_isBroken_84 : decode cX12_isBroken 84 = .ok (.getfield 112, 3) := by decide +kernel
theorem dX12_isBroken_87 : decode cX12_isBroken 87 = .ok (.iload_n 1, 1) := by decide +kernel
theorem dX12_isBroken_88 : decode cX12_isBroken 88 = .ok (.iaload, 1) := by decide +kernel
theorem dX12_isBroken_89 : decode cX12_isBroken 89 = .ok (.goto 17, 3) := by decide +kernel
theorem dX12_isBroken_92 : decode cX12_isBroken 92 = .ok (.aload_n 0, 1) := by decide +kernel
theorem dX12_isBroken_93 : decode cX12_isBroken 93 = .ok (.getfield 118, 3) := by decide +kernel
theorem dX12_isBroken_96 : decode cX12_isBroken 96 = .ok (.sipush 160, 3) := by decide +kernel
theorem dX12_isBroken_99 : decode cX12_isBroken 99 = .ok (.iload_n 1, 1) := by decide +kernel
theorem dX12_isBroken_100 : decode cX12_isBroken 100 = .ok (.imul, 1) := by decide +kernel
theorem dX12_isBroken_101 : decode cX12_isBroken 101 = .ok (.iload_n 2, 1) := by decide +kernel
theorem dX12_isBroken_102 : decode cX12_isBroken 102 = .ok (.iadd, 1) := by decide +kernel
theorem dX12_isBroken_103 : decode cX12_isBroken 103 = .ok (.iconst 1, 1) := by decide +kernel
theorem dX12_isBroken_104 : decode cX12_isBroken 104 = .ok (.isub, 1) := by decide +kernel
theorem dX12_isBroken_105 : decode cX12_isBroken 105 = .ok (.iaload, 1) := by decide +kernel
theorem dX12_isBroken_106 : decode cX12_isBroken 106 = .ok (.istore 4, 2) := by decide +kernel
theorem dX12_isBroken_108 : decode cX12_isBroken 108 = .ok (.iload 4, 2) := by decide +kernel
theorem dX12_isBroken_110 : decode cX12_isBroken 110 = .ok (.iload_n 3, 1) := by decide +kernel
theorem dX12_isBroken_111 : decode cX12_isBroken 111 = .ok (.invokestatic 242, 3) := by decide +kernel
theorem dX12_isBroken_114 : decode cX12_isBroken 114 = .ok (.aload_n 0, 1) := by decide +kernel
theorem dX12_isBroken_115 : decode cX12_isBroken 115 = .ok (.getfield 118, 3) := by decide +kernel
theorem dX12_isBroken_118 : decode cX12_isBroken 118 = .ok (.sipush 160, 3) := by decide +kernel
theorem dX12_isBroken_121 : decode cX12_isBroken 121 = .ok (.iload_n 1, 1) := by decide +kernel
theorem dX12_isBroken_122 : decode cX12_isBroken 122 = .ok (.imul, 1) := by decide +kernel
theorem dX12_isBroken_123 : decode cX12_isBroken 123 = .ok (.iload_n 2, 1) := by decide +kernel
theorem dX12_isBroken_124 : decode cX12_isBroken 124 = .ok (.iadd, 1) := by decide +kernel
theorem dX12_isBroken_125 : decode cX12_isBroken 125 = .ok (.iaload, 1) := by decide +kernel
theorem dX12_isBroken_126 : decode cX12_isBroken 126 = .ok (.if_icmp .eq 7, 3) := by decide +kernel
theorem dX12_isBroken_129 : decode cX12_isBroken 129 = .ok (.iconst 1, 1) := by decide +kernel
theorem dX12_isBroken_130 : decode cX12_isBroken 130 = .ok (.goto 4, 3) := by decide +kernel
theorem dX12_isBroken_133 : decode cX12_isBroken 133 = .ok (.iconst 0, 1) := by decide +kernel
theorem dX12_isBroken_134 : decode cX12_isBroken 134 = .ok (.ireturn, 1) := by decide +kernel
theorem dX12_brokenCopy_0 : decode cX12_brokenCopy 0 = .ok (.aload_n 0, 1) := by decide +kernel
theorem dX12_brokenCopy_1 : decode cX12_brokenCopy 1 = .ok (.aload_n 0, 1) := by decide +kernel
theorem dX12_brokenCopy_2 : decode cX12_brokenCopy 2 = .ok (.iload_n 1, 1) := by decide +kernel
theorem dX12_brokenCopy_3 : decode cX12_brokenCopy 3 = .ok (.invokevirtual 281, 3) := by decide +kernel
theorem dX12_brokenCopy_6 : decode cX12_brokenCopy 6 = .ok (.ifCond .eq 7, 3) := by decide +kernel
theorem dX12_brokenCopy_9 : decode cX12_brokenCopy 9 = .ok (.iconst 0, 1) := by decide +kernel
theorem dX12_brokenCopy_10 : decode cX12_brokenCopy 10 = .ok (.goto 4, 3) := by decide +kernel
theorem dX12_brokenCopy_13 : decode cX12_brokenCopy 13 = .ok (.iconst 1, 1) := by decide +kernel
theorem dX12_brokenCopy_14 : decode cX12_brokenCopy 14 = .ok (.invokevirtual 143, 3) := by decide +kernel
theorem dX12_brokenCopy_17 : decode cX12_brokenCopy 17 = .ok (.ifCond .ne 5, 3) := by decide +kernel
theorem dX12_brokenCopy_20 : decode cX12_brokenCopy 20 = .ok (.iconst 0, 1) := by decide +kernel
theorem dX12_brokenCopy_21 : decode cX12_brokenCopy 21 = .ok (.ireturn, 1) := by decide +kernel
theorem dX12_brokenCopy_22 : decode cX12_brokenCopy 22 = .ok (.iconst 0, 1) := by decide +kernel
theorem dX12_brokenCopy_23 : decode cX12_brokenCopy 23 = .ok (.istore_n 2, 1) := by decide +kernel
theorem dX12_brokenCopy_24 : decode cX12_brokenCopy 24 = .ok (.iload_n 2, 1) := by decide +kernel
theorem dX12_brokenCopy_25 : decode cX12_brokenCopy 25 = .ok (.aload_n 0, 1) := by decide +kernel
theorem dX12_brokenCopy_26 : decode cX12_brokenCopy 26 = .ok (.getfield 106, 3) := by decide +kernel
theorem dX12_brokenCopy_29 : decode cX12_brokenCopy 29 = .ok (.iload_n 1, 1) := by decide +kernel
theorem dX12_brokenCopy_30 : decode cX12_brokenCopy 30 = .ok (.iaload, 1) := by decide +kernel
theorem dX12_brokenCopy_31 : decode cX12_brokenCopy 31 = .ok (.if_icmp .ge 20, 3) := by decide +kernel
theorem dX12_brokenCopy_34 : decode cX12_brokenCopy 34 = .ok (.aload_n 0, 1) := by decide +kernel
theorem dX12_brokenCopy_35 : decode cX12_brokenCopy 35 = .ok (.iload_n 1, 1) := by decide +kernel
theorem dX12_brokenCopy_36 : decode cX12_brokenCopy 36 = .ok (.iload_n 2, 1) := by decide +kernel
theorem dX12_brokenCopy_37 : decode cX12_brokenCopy 37 = .ok (.invokevirtual 293, 3) := by decide +kernel
theorem dX12_brokenCopy_40 : decode cX12_brokenCopy 40 = .ok (.ifCond .eq 5, 3) := by decide +kernel
theorem dX12_brokenCopy_43 : decode cX12_brokenCopy 43 = .ok (.iload_n 2, 1) := by decide +kernel
theorem dX12_brokenCopy_44 : decode cX12_brokenCopy 44 = .ok (.ireturn, 1) := by decide +kernel
theorem dX12_brokenCopy_45 : decode cX12_brokenCopy 45 = .ok (.iinc 2 1, 3) := by decide +kernel
theorem dX12_brokenCopy_48 : decode cX12_brokenCopy 48 = .ok (.goto (-24), 3) := by decide +kernel
theorem dX12_brokenCopy_51 : decode cX12_brokenCopy 51 = .ok (.iconst (-1), 1) := by decide +kernel
theorem dX12_brokenCopy_52 : decode cX12_brokenCopy 52 = .ok (.ireturn, 1) := by decide +kernel
theorem dX12_isTrue_0 : decode cX12_isTrue 0 = .ok (.aload_n 0, 1) := by decide +kernel
theorem dX12_isTrue_1 : decode cX12_isTrue 1 = .ok (.aload_n 0, 1) := by decide +kernel
theorem dX12_isTrue_2 : decode cX12_isTrue 2 = .ok (.iload_n 1, 1) := by decide +kernel
theorem dX12_isTrue_3 : decode cX12_isTrue 3 = .ok (.invokevirtual 281, 3) := by decide +kernel
theorem dX12_isTrue_6 : decode cX12_isTrue 6 = .ok (.ifCond .eq 7, 3) := by decide +kernel
theorem dX12_isTrue_9 : decode cX12_isTrue 9 = .ok (.iconst 0, 1) := by decide +kernel
theorem dX12_isTrue_10 : decode cX12_isTrue 10 = .ok (.goto 4, 3) := by decide +kernel
theorem dX12_isTrue_13 : decode cX12_isTrue 13 = .ok (.iconst 1, 1) := by decide +kernel
theorem dX12_isTrue_14 : decode cX12_isTrue 14 = .ok (.invokevirtual 143, 3) := by decide +kernel
theorem dX12_isTrue_17 : decode cX12_isTrue 17 = .ok (.istore_n 2, 1) := by decide +kernel
theorem dX12_isTrue_18 : decode cX12_isTrue 18 = .ok (.iconst 0, 1) := by decide +kernel
theorem dX12_isTrue_19 : decode cX12_isTrue 19 = .ok (.istore_n 3, 1) := by decide +kernel
theorem dX12_isTrue_20 : decode cX12_isTrue 20 = .ok (.iload_n 2, 1) := by decide +kernel
theorem dX12_isTrue_21 : decode cX12_isTrue 21 = .ok (.ifCond .eq 136, 3) := by decide +kernel
theorem dX12_isTrue_24 : decode cX12_isTrue 24 = .ok (.iload_n 3, 1) := by decide +kernel
theorem dX12_isTrue_25 : decode cX12_isTrue 25 = .ok (.bipush 6, 2) := by decide +kernel
theorem dX12_isTrue_27 : decode cX12_isTrue 27 = .ok (.aload_n 0, 1) := by decide +kernel
theorem dX12_isTrue_28 : decode cX12_isTrue 28 = .ok (.getfield 106, 3) := by decide +kernel
theorem dX12_isTrue_31 : decode cX12_isTrue 31 = .ok (.iload_n 1, 1) := by decide +kernel
theorem dX12_isTrue_32 : decode cX12_isTrue 32 = .ok (.iaload, 1) := by decide +kernel
theorem dX12_isTrue_33 : decode cX12_isTrue 33 = .ok (.imul, 1) := by decide +kernel
theorem dX12_isTrue_34 : decode cX12_isTrue 34 = .ok (.if_icmp .ge 123, 3) := by decide +kernel
theorem dX12_isTrue_37 : decode cX12_isTrue 37 = .ok (.aload_n 0, 1) := by decide +kernel
theorem dX12_isTrue_38 : decode cX12_isTrue 38 = .ok (.getfield 82, 3) := by decide +kernel
theorem dX12_isTrue_41 : decode cX12_isTrue 41 = .ok (.sipush 160, 3) := by decide +kernel
theorem dX12_isTrue_44 : decode cX12_isTrue 44 = .ok (.aload_n 0, 1) := by decide +kernel
theorem dX12_isTrue_45 : decode cX12_isTrue 45 = .ok (.getfield 100, 3) := by decide +kernel
theorem dX12_isTrue_48 : decode cX12_isTrue 48 = .ok (.iload_n 1, 1) := by decide +kernel
theorem dX12_isTrue_49 : decode cX12_isTrue 49 = .ok (.iaload, 1) := by decide +kernel
theorem dX12_isTrue_50 : decode cX12_isTrue 50 = .ok (.imul, 1) := by decide +kernel
theorem dX12_isTrue_51 : decode cX12_isTrue 51 = .ok (.aload_n 0, 1) := by decide +kernel
theorem dX12_isTrue_52 : decode cX12_isTrue 52 = .ok (.getfield 103, 3) := by decide +kernel
theorem dX12_isTrue_55 : decode cX12_isTrue 55 = .ok (.iload_n 1, 1) := by decide +kernel
theorem dX12_isTrue_56 : decode cX12_isTrue 56 = .ok (.iaload, 1) := by decide +kernel
theorem dX12_isTrue_57 : decode cX12_isTrue 57 = .ok (.iadd, 1) := by decide +kernel
theorem dX12_isTrue_58 : decode cX12_isTrue 58 = .ok (.iload_n 3, 1) := by decide +kernel
theorem dX12_isTrue_59 : decode cX12_isTrue 59 = .ok (.bipush 6, 2) := by decide +kernel
theorem dX12_isTrue_61 : decode cX12_isTrue 61 = .ok (.idiv, 1) := by decide +kernel
theorem dX12_isTrue_62 : decode cX12_isTrue 62 = .ok (.iadd, 1) := by decide +kernel
theorem dX12_isTrue_63 : decode cX12_isTrue 63 = .ok (.iaload, 1) := by decide +kernel
theorem dX12_isTrue_64 : decode cX12_isTrue 64 = .ok (.istore 4, 2) := by decide +kernel
theorem dX12_isTrue_66 : decode cX12_isTrue 66 = .ok (.aload_n 0, 1) := by decide +kernel
theorem dX12_isTrue_67 : decode cX12_isTrue 67 = .ok (.getfield 115, 3) := by decide +kernel
theorem dX12_isTrue_70 : decode cX12_isTrue 70 = .ok (.sipush 960, 3) := by decide +kernel
theorem dX12_isTrue_73 : decode cX12_isTrue 73 = .ok (.iload_n 1, 1) := by decide +kernel
theorem dX12_isTrue_74 : decode cX12_isTrue 74 = .ok (.imul, 1) := by decide +kernel
theorem dX12_isTrue_75 : decode cX12_isTrue 75 = .ok (.iload_n 3, 1) := by decide +kernel
theorem dX12_isTrue_76 : decode cX12_isTrue 76 = .ok (.iadd, 1) := by decide +kernel
theorem dX12_isTrue_77 : decode cX12_isTrue 77 = .ok (.iaload, 1) := by decide +kernel
theorem dX12_isTrue_78 : decode cX12_isTrue 78 = .ok (.aload_n 0, 1) := by decide +kernel
theorem dX12_isTrue_79 : decode cX12_isTrue 79 = .ok (.getfield 88, 3) := by decide +kernel
theorem dX12_isTrue_82 : decode cX12_isTrue 82 = .ok (.bipush 6, 2) := by decide +kernel
theorem dX12_isTrue_84 : decode cX12_isTrue 84 = .ok (.iload 4, 2) := by decide +kernel
theorem dX12_isTrue_86 : decode cX12_isTrue 86 = .ok (.imul, 1) := by decide +kernel
theorem dX12_isTrue_87 : decode cX12_isTrue 87 = .ok (.iload_n 3, 1) := by decide +kernel
theorem dX12_isTrue_88 : decode cX12_isTrue 88 = .ok (.bipush 6, 2) := by decide +kernel
theorem dX12_isTrue_90 : decode cX12_isTrue 90 = .ok (.irem, 1) := by decide +kernel
theorem dX12_isTrue_91 : decode cX12_isTrue 91 = .ok (.iadd, 1) := by decide +kernel
theorem dX12_isTrue_92 : decode cX12_isTrue 92 = .ok (.iaload, 1) := by decide +kernel
theorem dX12_isTrue_93 : decode cX12_isTrue 93 = .ok (.if_icmp .ne 7, 3) := by decide +kernel
theorem dX12_isTrue_96 : decode cX12_isTrue 96 = .ok (.iconst 1, 1) := by decide +kernel
theorem dX12_isTrue_97 : decode cX12_isTrue 97 = .ok (.goto 4, 3) := by decide +kernel
theorem dX12_isTrue_100 : decode cX12_isTrue 100 = .ok (.iconst 0, 1) := by decide +kernel
theorem dX12_isTrue_101 : decode cX12_isTrue 101 = .ok (.istore 5, 2) := by decide +kernel
theorem dX12_isTrue_103 : decode cX12_isTrue 103 = .ok (.aload_n 0, 1) := by decide +kernel
theorem dX12_isTrue_104 : decode cX12_isTrue 104 = .ok (.iload_n 1, 1) := by decide +kernel
theorem dX12_isTrue_105 : decode cX12_isTrue 105 = .ok (.iload_n 3, 1) := by decide +kernel
theorem dX12_isTrue_106 : decode cX12_isTrue 106 = .ok (.bipush 6, 2) := by decide +kernel
theorem dX12_isTrue_108 : decode cX12_isTrue 108 = .ok (.irem, 1) := by decide +kernel
theorem dX12_isTrue_109 : decode cX12_isTrue 109 = .ok (.invokevirtual 272, 3) := by decide +kernel
theorem dX12_isTrue_112 : decode cX12_isTrue 112 = .ok (.ifCond .ne 8, 3) := by decide +kernel
theorem dX12_isTrue_115 : decode cX12_isTrue 115 = .ok (.iload 5, 2) := by decide +kernel
theorem dX12_isTrue_117 : decode cX12_isTrue 117 = .ok (.ifCond .eq 32, 3) := by decide +kernel
theorem dX12_isTrue_120 : decode cX12_isTrue 120 = .ok (.aload_n 0, 1) := by decide +kernel
theorem dX12_isTrue_121 : decode cX12_isTrue 121 = .ok (.getfield 118, 3) := by decide +kernel
theorem dX12_isTrue_124 : decode cX12_isTrue 124 = .ok (.sipush 160, 3) := by decide +kernel
theorem dX12_isTrue_127 : decode cX12_isTrue 127 = .ok (.iload_n 1, 1) := by decide +kernel
theorem dX12_isTrue_128 : decode cX12_isTrue 128 = .ok (.imul, 1) := by decide +kernel
theorem dX12_isTrue_129 : decode cX12_isTrue 129 = .ok (.iload_n 3, 1) := by decide +kernel
theorem dX12_isTrue_130 : decode cX12_isTrue 130 = .ok (.bipush 6, 2) := by decide +kernel
theorem dX12_isTrue_132 : decode cX12_isTrue 132 = .ok (.idiv, 1) := by decide +kernel
theorem dX12_isTrue_133 : decode cX12_isTrue 133 = .ok (.iadd, 1) := by decide +kernel
theorem dX12_isTrue_134 : decode cX12_isTrue 134 = .ok (.iaload, 1) := by decide +kernel
theorem dX12_isTrue_135 : decode cX12_isTrue 135 = .ok (.aload_n 0, 1) := by decide +kernel
theorem dX12_isTrue_136 : decode cX12_isTrue 136 = .ok (.getfield 94, 3) := by decide +kernel
theorem dX12_isTrue_139 : decode cX12_isTrue 139 = .ok (.iload 4, 2) := by decide +kernel
theorem dX12_isTrue_141 : decode cX12_isTrue 141 = .ok (.iaload, 1) := by decide +kernel
theorem dX12_isTrue_142 : decode cX12_isTrue 142 = .ok (.if_icmp .ne 7, 3) := by decide +kernel
theorem dX12_isTrue_145 : decode cX12_isTrue 145 = .ok (.iconst 1, 1) := by decide +kernel
theorem dX12_isTrue_146 : decode cX12_isTrue 146 = .ok (.goto 4, 3) := by decide +kernel
theorem dX12_isTrue_149 : decode cX12_isTrue 149 = .ok (.iconst 0, 1) := by decide +kernel
theorem dX12_isTrue_150 : decode cX12_isTrue 150 = .ok (.istore_n 2, 1) := by decide +kernel
theorem dX12_isTrue_151 : decode cX12_isTrue 151 = .ok (.iinc 3 1, 3) := by decide +kernel
theorem dX12_isTrue_154 : decode cX12_isTrue 154 = .ok (.goto (-134), 3) := by decide +kernel
theorem dX12_isTrue_157 : decode cX12_isTrue 157 = .ok (.iload_n 2, 1) := by decide +kernel
theorem dX12_isTrue_158 : decode cX12_isTrue 158 = .ok (.ireturn, 1) := by decide +kernel
