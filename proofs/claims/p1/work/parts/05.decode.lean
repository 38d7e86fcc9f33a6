theorem dX0_init_0 : decode cX0_init 0 = .ok (.aload_n 0, 1) := by decide +kernel
theorem dX0_init_1 : decode cX0_init 1 = .ok (.invokespecial 3, 3) := by decide +kernel
theorem dX0_init_4 : decode cX0_init 4 = .ok (.aload_n 0, 1) := by decide +kernel
theorem dX0_init_5 : decode cX0_init 5 = .ok (.bipush 80, 2) := by decide +kernel
theorem dX0_init_7 : decode cX0_init 7 = .ok (.newarray .int, 2) := by decide +kernel
theorem dX0_init_9 : decode cX0_init 9 = .ok (.putfield 11, 3) := by decide +kernel
theorem dX0_init_12 : decode cX0_init 12 = .ok (.aload_n 0, 1) := by decide +kernel
theorem dX0_init_13 : decode cX0_init 13 = .ok (.bipush 80, 2) := by decide +kernel
theorem dX0_init_15 : decode cX0_init 15 = .ok (.newarray .int, 2) := by decide +kernel
theorem dX0_init_17 : decode cX0_init 17 = .ok (.putfield 15, 3) := by decide +kernel
theorem dX0_init_20 : decode cX0_init 20 = .ok (.aload_n 0, 1) := by decide +kernel
theorem dX0_init_21 : decode cX0_init 21 = .ok (.bipush 80, 2) := by decide +kernel
theorem dX0_init_23 : decode cX0_init 23 = .ok (.newarray .int, 2) := by decide +kernel
theorem dX0_init_25 : decode cX0_init 25 = .ok (.putfield 18, 3) := by decide +kernel
theorem dX0_init_28 : decode cX0_init 28 = .ok (.aload_n 0, 1) := by decide +kernel
theorem dX0_init_29 : decode cX0_init 29 = .ok (.bipush 80, 2) := by decide +kernel
theorem dX0_init_31 : decode cX0_init 31 = .ok (.newarray .int, 2) := by decide +kernel
theorem dX0_init_33 : decode cX0_init 33 = .ok (.putfield 21, 3) := by decide +kernel
theorem dX0_init_36 : decode cX0_init 36 = .ok (.return_, 1) := by decide +kernel
theorem dX1_init_0 : decode cX1_init 0 = .ok (.aload_n 0, 1) := by decide +kernel
theorem dX1_init_1 : decode cX1_init 1 = .ok (.invokespecial 3, 3) := by decide +kernel
theorem dX1_init_4 : decode cX1_init 4 = .ok (.aload_n 0, 1) := by decide +kernel
theorem dX1_init_5 : decode cX1_init 5 = .ok (.bipush 12, 2) := by decide +kernel
theorem dX1_init_7 : decode cX1_init 7 = .ok (.newarray .int, 2) := by decide +kernel
theorem dX1_init_9 : decode cX1_init 9 = .ok (.putfield 9, 3) := by decide +kernel
theorem dX1_init_12 : decode cX1_init 12 = .ok (.aload_n 0, 1) := by decide +kernel
theorem dX1_init_13 : decode cX1_init 13 = .ok (.iconst 3, 1) := by decide +kernel
theorem dX1_init_14 : decode cX1_init 14 = .ok (.newarray .int, 2) := by decide +kernel
theorem dX1_init_16 : decode cX1_init 16 = .ok (.putfield 15, 3) := by decide +kernel
theorem dX1_init_19 : decode cX1_init 19 = .ok (.aload_n 0, 1) := by decide +kernel
theorem dX1_init_20 : decode cX1_init 20 = .ok (.bipush 30, 2) := by decide +kernel
theorem dX1_init_22 : decode cX1_init 22 = .ok (.newarray .int, 2) := by decide +kernel
theorem dX1_init_24 : decode cX1_init 24 = .ok (.putfield 18, 3) := by decide +kernel
theorem dX1_init_27 : decode cX1_init 27 = .ok (.aload_n 0, 1) := by decide +kernel
theorem dX1_init_28 : decode cX1_init 28 = .ok (.iconst 3, 1) := by decide +kernel
theorem dX1_init_29 : decode cX1_init 29 = .ok (.newarray .int, 2) := by decide +kernel
theorem dX1_init_31 : decode cX1_init 31 = .ok (.putfield 21, 3) := by decide +kernel
theorem dX1_init_34 : decode cX1_init 34 = .ok (.aload_n 0, 1) := by decide +kernel
theorem dX1_init_35 : decode cX1_init 35 = .ok (.bipush 12, 2) := by decide +kernel
theorem dX1_init_37 : decode cX1_init 37 = .ok (.newarray .int, 2) := by decide +kernel
theorem dX1_init_39 : decode cX1_init 39 = .ok (.putfield 24, 3) := by decide +kernel
theorem dX1_init_42 : decode cX1_init 42 = .ok (.aload_n 0, 1) := by decide +kernel
theorem dX1_init_43 : decode cX1_init 43 = .ok (.iconst 3, 1) := by decide +kernel
theorem dX1_init_44 : decode cX1_init 44 = .ok (.newarray .int, 2) := by decide +kernel
theorem dX1_init_46 : decode cX1_init 46 = .ok (.putfield 27, 3) := by decide +kernel
theorem dX1_init_49 : decode cX1_init 49 = .ok (.aload_n 0, 1) := by decide +kernel
theorem dX1_init_50 : decode cX1_init 50 = .ok (.iconst 3, 1) := by decide +kernel
theorem dX1_init_51 : decode cX1_init 51 = .ok (.newarray .int, 2) := by decide +kernel
theorem dX1_init_53 : decode cX1_init 53 = .ok (.putfield 30, 3) := by decide +kernel
theorem dX1_init_56 : decode cX1_init 56 = .ok (.aload_n 0, 1) := by decide +kernel
theorem dX1_init_57 : decode cX1_init 57 = .ok (.bipush 8, 2) := by decide +kernel
theorem dX1_init_59 : decode cX1_init 59 = .ok (.newarray .int, 2) := by decide +kernel
theorem dX1_init_61 : decode cX1_init 61 = .ok (.putfield 33, 3) := by decide +kernel
theorem dX1_init_64 : decode cX1_init 64 = .ok (.aload_n 0, 1) := by decide +kernel
theorem dX1_init_65 : decode cX1_init 65 = .ok (.iconst 3, 1) := by decide +kernel
theorem dX1_init_66 : decode cX1_init 66 = .ok (.newarray .int, 2) := by decide +kernel
theorem dX1_init_68 : decode cX1_init 68 = .ok (.putfield 36, 3) := by decide +kernel
theorem dX1_init_71 : decode cX1_init 71 = .ok (.aload_n 0, 1) := by decide +kernel
theorem dX1_init_72 : decode cX1_init 72 = .ok (.bipush 6, 2) := by decide +kernel
theorem dX1_init_74 : decode cX1_init 74 = .ok (.newarray .int, 2) := by decide +kernel
theorem dX1_init_76 : decode cX1_init 76 = .ok (.putfield 39, 3) := by decide +kernel
theorem dX1_init_79 : decode cX1_init 79 = .ok (.aload_n 0, 1) := by decide +kernel
theorem dX1_init_80 : decode cX1_init 80 = .ok (.bipush 6, 2) := by decide +kernel
theorem dX1_init_82 : decode cX1_init 82 = .ok (.newarray .int, 2) := by decide +kernel
theorem dX1_init_84 : decode cX1_init 84 = .ok (.putfield 42, 3) := by decide +kernel
theorem dX1_init_87 : decode cX1_init 87 = .ok (.aload_n 0, 1) := by decide +kernel
theorem dX1_init_88 : decode cX1_init 88 = .ok (.aload_n 1, 1) := by decide +kernel
theorem dX1_init_89 : decode cX1_init 89 = .ok (.putfield 45, 3) := by decide +kernel
theorem dX1_init_92 : decode cX1_init 92 = .ok (.aload_n 0, 1) := by decide +kernel
theorem dX1_init_93 : decode cX1_init 93 = .ok (.iload_n 2, 1) := by decide +kernel
theorem dX1_init_94 : decode cX1_init 94 = .ok (.putfield 49, 3) := by decide +kernel
theorem dX1_init_97 : decode cX1_init 97 = .ok (.aload_n 0, 1) := by decide +kernel
theorem dX1_init_98 : decode cX1_init 98 = .ok (.getfield 15, 3) := by decide +kernel
theorem dX1_init_101 : decode cX1_init 101 = .ok (.iconst (-1), 1) := by decide +kernel
theorem dX1_init_102 : decode cX1_init 102 = .ok (.invokestatic 53, 3) := by decide +kernel
theorem dX1_init_105 : decode cX1_init 105 = .ok (.aload_n 0, 1) := by decide +kernel
theorem dX1_init_106 : decode cX1_init 106 = .ok (.getfield 27, 3) := by decide +kernel
theorem dX1_init_109 : decode cX1_init 109 = .ok (.iconst (-1), 1) := by decide +kernel
theorem dX1_init_110 : decode cX1_init 110 = .ok (.invokestatic 53, 3) := by decide +kernel
theorem dX1_init_113 : decode cX1_init 113 = .ok (.aload_n 0, 1) := by decide +kernel
theorem dX1_init_114 : decode cX1_init 114 = .ok (.getfield 33, 3) := by decide +kernel
theorem dX1_init_117 : decode cX1_init 117 = .ok (.iconst (-1), 1) := by decide +kernel
theorem dX1_init_118 : decode cX1_init 118 = .ok (.invokestatic 53, 3) := by decide +kernel
theorem dX1_init_121 : decode cX1_init 121 = .ok (.aload_n 0, 1) := by decide +kernel
theorem dX1_init_122 : decode cX1_init 122 = .ok (.getfield 36, 3) := by decide +kernel
theorem dX1_init_125 : decode cX1_init 125 = .ok (.iconst (-1), 1) := by decide +kernel
theorem dX1_init_126 : decode cX1_init 126 = .ok (.invokestatic 53, 3) := by decide +kernel
theorem dX1_init_129 : decode cX1_init 129 = .ok (.return_, 1) := by decide +kernel
theorem dX1_copyFrom_0 : decode cX1_copyFrom 0 = .ok (.aload_n 0, 1) := by decide +kernel
theorem dX1_copyFrom_1 : decode cX1_copyFrom 1 = .ok (.aload_n 1, 1) := by decide +kernel
theorem dX1_copyFrom_2 : decode cX1_copyFrom 2 = .ok (.getfield 59, 3) := by decide +kernel
theorem dX1_copyFrom_5 : decode cX1_copyFrom 5 = .ok (.putfield 59, 3) := by decide +kernel
theorem dX1_copyFrom_8 : decode cX1_copyFrom 8 = .ok (.aload_n 1, 1) := by decide +kernel
theorem dX1_copyFrom_9 : decode cX1_copyFrom 9 = .ok (.getfield 9, 3) := by decide +kernel
theorem dX1_copyFrom_12 : decode cX1_copyFrom 12 = .ok (.iconst 0, 1) := by decide +kernel
theorem dX1_copyFrom_13 : decode cX1_copyFrom 13 = .ok (.aload_n 0, 1) := by decide +kernel
theorem dX1_copyFrom_14 : decode cX1_copyFrom 14 = .ok (.getfield 9, 3) := by decide +kernel
theorem dX1_copyFrom_17 : decode cX1_copyFrom 17 = .ok (.iconst 0, 1) := by decide +kernel
theorem dX1_copyFrom_18 : decode cX1_copyFrom 18 = .ok (.aload_n 0, 1) := by decide +kernel
theorem dX1_copyFrom_19 : decode cX1_copyFrom 19 = .ok (.getfield 9, 3) := by decide +kernel
theorem dX1_copyFrom_22 : decode cX1_copyFrom 22 = .ok (.arraylength, 1) := by decide +kernel
theorem dX1_copyFrom_23 : decode cX1_copyFrom 23 = .ok (.invokestatic 63, 3) := by decide +kernel
theorem dX1_copyFrom_26 : decode cX1_copyFrom 26 = .ok (.aload_n 1, 1) := by decide +kernel
theorem dX1_copyFrom_27 : decode cX1_copyFrom 27 = .ok (.getfield 15, 3) := by decide +kernel
theorem dX1_copyFrom_30 : decode cX1_copyFrom 30 = .ok (.iconst 0, 1) := by decide +kernel
theorem dX1_copyFrom_31 : decode cX1_copyFrom 31 = .ok (.aload_n 0, 1) := by decide +kernel
theorem dX1_copyFrom_32 : decode cX1_copyFrom 32 = .ok (.getfield 15, 3) := by decide +kernel
theorem dX1_copyFrom_35 : decode cX1_copyFrom 35 = .ok (.iconst 0, 1) := by decide +kernel
theorem dX1_copyFrom_36 : decode cX1_copyFrom 36 = .ok (.aload_n 0, 1) := by decide +kernel
theorem dX1_copyFrom_37 : decode cX1_copyFrom 37 = .ok (.getfield 15, 3) := by decide +kernel
theorem dX1_copyFrom_40 : decode cX1_copyFrom 40 = .ok (.arraylength, 1) := by decide +kernel
theorem dX1_copyFrom_41 : decode cX1_copyFrom 41 = .ok (.invokestatic 63, 3) := by decide +kernel
theorem dX1_copyFrom_44 : decode cX1_copyFrom 44 = .ok (.aload_n 1, 1) := by decide +kernel
theorem dX1_copyFrom_45 : decode cX1_copyFrom 45 = .ok (.getfield 18, 3) := by decide +kernel
theorem dX1_copyFrom_48 : decode cX1_copyFrom 48 = .ok (.iconst 0, 1) := by decide +kernel
theorem dX1_copyFrom_49 : decode cX1_copyFrom 49 = .ok (.aload_n 0, 1) := by decide +kernel
theorem dX1_copyFrom_50 : decode cX1_copyFrom 50 = .ok (.getfield 18, 3) := by decide +kernel
theorem dX1_copyFrom_53 : decode cX1_copyFrom 53 = .ok (.iconst 0, 1) := by decide +kernel
theorem dX1_copyFrom_54 : decode cX1_copyFrom 54 = .ok (.aload_n 0, 1) := by decide +kernel
theorem dX1_copyFrom_55 : decode cX1_copyFrom 55 = .ok (.getfield 18, 3) := by decide +kernel
theorem dX1_copyFrom_58 : decode cX1_copyFrom 58 = .ok (.arraylength, 1) := by decide +kernel
theorem dX1_copyFrom_59 : decode cX1_copyFrom 59 = .ok (.invokestatic 63, 3) := by decide +kernel
theorem dX1_copyFrom_62 : decode cX1_copyFrom 62 = .ok (.aload_n 1, 1) := by decide +kernel
theorem dX1_copyFrom_63 : decode cX1_copyFrom 63 = .ok (.getfield 21, 3) := by decide +kernel
theorem dX1_copyFrom_66 : decode cX1_copyFrom 66 = .ok (.iconst 0, 1) := by decide +kernel
theorem dX1_copyFrom_67 : decode cX1_copyFrom 67 = .ok (.aload_n 0, 1) := by decide +kernel
theorem dX1_copyFrom_68 : decode cX1_copyFrom 68 = .ok (.getfield 21, 3) := by decide +kernel
theorem dX1_copyFrom_71 : decode cX1_copyFrom 71 = .ok (.iconst 0, 1) := by decide +kernel
theorem dX1_copyFrom_72 : decode cX1_copyFrom 72 = .ok (.aload_n 0, 1) := by decide +kernel
theorem dX1_copyFrom_73 : decode cX1_copyFrom 73 = .ok (.getfield 21, 3) := by decide +kernel
theorem dX1_copyFrom_76 : decode cX1_copyFrom 76 = .ok (.arraylength, 1) := by decide +kernel
theorem dX1_copyFrom_77 : decode cX1_copyFrom 77 = .ok (.invokestatic 63, 3) := by decide +kernel
theorem dX1_copyFrom_80 : decode cX1_copyFrom 80 = .ok (.aload_n 1, 1) := by decide +kernel
theorem dX1_copyFrom_81 : decode cX1_copyFrom 81 = .ok (.getfield 24, 3) := by decide +kernel
theorem dX1_copyFrom_84 : decode cX1_copyFrom 84 = .ok (.iconst 0, 1) := by decide +kernel
theorem dX1_copyFrom_85 : decode cX1_copyFrom 85 = .ok (.aload_n 0, 1) := by decide +kernel
theorem dX1_copyFrom_86 : decode cX1_copyFrom 86 = .ok (.getfield 24, 3) := by decide +kernel
theorem dX1_copyFrom_89 : decode cX1_copyFrom 89 = .ok (.iconst 0, 1) := by decide +kernel
theorem dX1_copyFrom_90 : decode cX1_copyFrom 90 = .ok (.aload_n 0, 1) := by decide +kernel
theorem dX1_copyFrom_91 : decode cX1_copyFrom 91 = .ok (.getfield 24, 3) := by decide +kernel
theorem dX1_copyFrom_94 : decode cX1_copyFrom 94 = .ok (.arraylength, 1) := by decide +kernel
theorem dX1_copyFrom_95 : decode cX1_copyFrom 95 = .ok (.invokestatic 63, 3) := by decide +kernel
theorem dX1_copyFrom_98 : decode cX1_copyFrom 98 = .ok (.aload_n 1, 1) := by decide +kernel
theorem dX1_copyFrom_99 : decode cX1_copyFrom 99 = .ok (.getfield 27, 3) := by decide +kernel
theorem dX1_copyFrom_102 : decode cX1_copyFrom 102 = .ok (.iconst 0, 1) := by decide +kernel
theorem dX1_copyFrom_103 : decode cX1_copyFrom 103 = .ok (.aload_n 0, 1) := by decide +kernel
theorem dX1_copyFrom_104 : decode cX1_copyFrom 104 = .ok (.getfield 27, 3) := by decide +kernel
theorem dX1_copyFrom_107 : decode cX1_copyFrom 107 = .ok (.iconst 0, 1) := by decide +kernel
theorem dX1_copyFrom_108 : decode cX1_copyFrom 108 = .ok (.aload_n 0, 1) := by decide +kernel
theorem dX1_copyFrom_109 : decode cX1_copyFrom 109 = .ok (.getfield 27, 3) := by decide +kernel
theorem dX1_copyFrom_112 : decode cX1_copyFrom 112 = .ok (.arraylength, 1) := by decide +kernel
theorem dX1_copyFrom_113 : decode cX1_copyFrom 113 = .ok (.invokestatic 63, 3) := by decide +kernel
theorem dX1_copyFrom_116 : decode cX1_copyFrom 116 = .ok (.aload_n 1, 1) := by decide +kernel
theorem dX1_copyFrom_117 : decode cX1_copyFrom 117 = .ok (.getfield 30, 3) := by decide +kernel
theorem dX1_copyFrom_120 : decode cX1_copyFrom 120 = .ok (.iconst 0, 1) := by decide +kernel
theorem dX1_copyFrom_121 : decode cX1_copyFrom 121 = .ok (.aload_n 0, 1) := by decide +kernel
theorem dX1_copyFrom_122 : decode cX1_copyFrom 122 = .ok (.getfield 30, 3) := by decide +kernel
theorem dX1_copyFrom_125 : decode cX1_copyFrom 125 = .ok (.iconst 0, 1) := by decide +kernel
theorem dX1_copyFrom_126 : decode cX1_copyFrom 126 = .ok (.aload_n 0, 1) := by decide +kernel
theorem dX1_copyFrom_127 : decode cX1_copyFrom 127 = .ok (.getfield 30, 3) := by decide +kernel
theorem dX1_copyFrom_130 : decode cX1_copyFrom 130 = .ok (.arraylength, 1) := by decide +kernel
theorem dX1_copyFrom_131 : decode cX1_copyFrom 131 = .ok (.invokestatic 63, 3) := by decide +kernel
theorem dX1_copyFrom_134 : decode cX1_copyFrom 134 = .ok (.aload_n 1, 1) := by decide +kernel
theorem dX1_copyFrom_135 : decode cX1_copyFrom 135 = .ok (.getfield 33, 3) := by decide +kernel
theorem dX1_copyFrom_138 : decode cX1_copyFrom 138 = .ok (.iconst 0, 1) := by decide +kernel
theorem dX1_copyFrom_139 : decode cX1_copyFrom 139 = .ok (.aload_n 0, 1) := by decide +kernel
theorem dX1_copyFrom_140 : decode cX1_copyFrom 140 = .ok (.getfield 33, 3) := by decide +kernel
theorem dX1_copyFrom_143 : decode cX1_copyFrom 143 = .ok (.iconst 0, 1) := by decide +kernel
theorem dX1_copyFrom_144 : decode cX1_copyFrom 144 = .ok (.aload_n 0, 1) := by decide +kernel
theorem dX1_copyFrom_145 : decode cX1_copyFrom 145 = .ok (.getfield 33, 3) := by decide +kernel
theorem dX1_copyFrom_148 : decode cX1_copyFrom 148 = .ok (.arraylength, 1) := by decide +kernel
theorem dX1_copyFrom_149 : decode cX1_copyFrom 149 = .ok (.invokestatic 63, 3) := by decide +kernel
theorem dX1_copyFrom_152 : decode cX1_copyFrom 152 = .ok (.aload_n 1, 1) := by decide +kernel
theorem dX1_copyFrom_153 : decode cX1_copyFrom 153 = .ok (.getfield 36, 3) := by decide +kernel
theorem dX1_copyFrom_156 : decode cX1_copyFrom 156 = .ok (.iconst 0, 1) := by decide +kernel
theorem dX1_copyFrom_157 : decode cX1_copyFrom 157 = .ok (.aload_n 0, 1) := by decide +kernel
theorem dX1_copyFrom_158 : decode cX1_copyFrom 158 = .ok (.getfield 36, 3) := by decide +kernel
theorem dX1_copyFrom_161 : decode cX1_copyFrom 161 = .ok (.iconst 0, 1) := by decide +kernel
theorem dX1_copyFrom_162 : decode cX1_copyFrom 162 = .ok (.aload_n 0, 1) := by decide +kernel
theorem dX1_copyFrom_163 : decode cX1_copyFrom 163 = .ok (.getfield 36, 3) := by decide +kernel
theorem dX1_copyFrom_166 : decode cX1_copyFrom 166 = .ok (.arraylength, 1) := by decide +kernel
theorem dX1_copyFrom_167 : decode cX1_copyFrom 167 = .ok (.invokestatic 63, 3) := by decide +kernel
theorem dX1_copyFrom_170 : decode cX1_copyFrom 170 = .ok (.aload_n 0, 1) := by decide +kernel
theorem dX1_copyFrom_171 : decode cX1_copyFrom 171 = .ok (.aload_n 1, 1) := by decide +kernel
theorem dX1_copyFrom_172 : decode cX1_copyFrom 172 = .ok (.getfield 69, 3) := by decide +kernel
theorem dX1_copyFrom_175 : decode cX1_copyFrom 175 = .ok (.putfield 69, 3) := by decide +kernel
theorem dX1_copyFrom_178 : decode cX1_copyFrom 178 = .ok (.aload_n 1, 1) := by decide +kernel
theorem dX1_copyFrom_179 : decode cX1_copyFrom 179 = .ok (.getfield 39, 3) := by decide +kernel
theorem dX1_copyFrom_182 : decode cX1_copyFrom 182 = .ok (.iconst 0, 1) := by decide +kernel
theorem dX1_copyFrom_183 : decode cX1_copyFrom 183 = .ok (.aload_n 0, 1) := by decide +kernel
theorem dX1_copyFrom_184 : decode cX1_copyFrom 184 = .ok (.getfield 39, 3) := by decide +kernel
theorem dX1_copyFrom_187 : decode cX1_copyFrom 187 = .ok (.iconst 0, 1) := by decide +kernel
theorem dX1_copyFrom_188 : decode cX1_copyFrom 188 = .ok (.aload_n 0, 1) := by decide +kernel
theorem dX1_copyFrom_189 : decode cX1_copyFrom 189 = .ok (.getfield 39, 3) := by decide +kernel
theorem dX1_copyFrom_192 : decode cX1_copyFrom 192 = .ok (.arraylength, 1) := by decide +kernel
theorem dX1_copyFrom_193 : decode cX1_copyFrom 193 = .ok (.invokestatic 63, 3) := by decide +kernel
theorem dX1_copyFrom_196 : decode cX1_copyFrom 196 = .ok (.aload_n 1, 1) := by decide +kernel
theorem dX1_copyFrom_197 : decode cX1_copyFrom 197 = .ok (.getfield 42, 3) := by decide +kernel
theorem dX1_copyFrom_200 : decode cX1_copyFrom 200 = .ok (.iconst 0, 1) := by decide +kernel
theorem dX1_copyFrom_201 : decode cX1_copyFrom 201 = .ok (.aload_n 0, 1) := by decide +kernel
theorem dX1_copyFrom_202 : decode cX1_copyFrom 202 = .ok (.getfield 42, 3) := by decide +kernel
theorem dX1_copyFrom_205 : decode cX1_copyFrom 205 = .ok (.iconst 0, 1) := by decide +kernel
theorem dX1_copyFrom_206 : decode cX1_copyFrom 206 = .ok (.aload_n 0, 1) := by decide +kernel
theorem dX1_copyFrom_207 : decode cX1_copyFrom 207 = .ok (.getfield 42, 3) := by decide +kernel
theorem dX1_copyFrom_210 : decode cX1_copyFrom 210 = .ok (.arraylength, 1) := by decide +kernel
theorem dX1_copyFrom_211 : decode cX1_copyFrom 211 = .ok (.invokestatic 63, 3) := by decide +kernel
theorem dX1_copyFrom_214 : decode cX1_copyFrom 214 = .ok (.aload_n 0, 1) := by decide +kernel
theorem dX1_copyFrom_215 : decode cX1_copyFrom 215 = .ok (.aload_n 1, 1) := by decide +kernel
theorem dX1_copyFrom_216 : decode cX1_copyFrom 216 = .ok (.getfield 72, 3) := by decide +kernel
theorem dX1_copyFrom_219 : decode cX1_copyFrom 219 = .ok (.putfield 72, 3) := by decide +kernel
theorem dX1_copyFrom_222 : decode cX1_copyFrom 222 = .ok (.aload_n 0, 1) := by decide +kernel
theorem dX1_copyFrom_223 : decode cX1_copyFrom 223 = .ok (.iconst 0, 1) := by decide +kernel
theorem dX1_copyFrom_224 : decode cX1_copyFrom 224 = .ok (.putfield 75, 3) := by decide +kernel
theorem dX1_copyFrom_227 : decode cX1_copyFrom 227 = .ok (.return_, 1) := by decide +kernel
theorem dX1_onIn_0 : decode cX1_onIn 0 = .ok (.aload_n 0, 1) := by decide +kernel
theorem dX1_onIn_1 : decode cX1_onIn 1 = .ok (.getfield 15, 3) := by decide +kernel
theorem dX1_onIn_4 : decode cX1_onIn 4 = .ok (.iload_n 1, 1) := by decide +kernel
theorem dX1_onIn_5 : decode cX1_onIn 5 = .ok (.iconst (-1), 1) := by decide +kernel
theorem dX1_onIn_6 : decode cX1_onIn 6 = .ok (.invokestatic 78, 3) := by decide +kernel
theorem dX1_onIn_9 : decode cX1_onIn 9 = .ok (.ireturn, 1) := by decide +kernel
theorem dX1_queuedIn_0 : decode cX1_queuedIn 0 = .ok (.aload_n 0, 1) := by decide +kernel
theorem dX1_queuedIn_1 : decode cX1_queuedIn 1 = .ok (.getfield 21, 3) := by decide +kernel
theorem dX1_queuedIn_4 : decode cX1_queuedIn 4 = .ok (.iload_n 1, 1) := by decide +kernel
theorem dX1_queuedIn_5 : decode cX1_queuedIn 5 = .ok (.iconst 0, 1) := by decide +kernel
theorem dX1_queuedIn_6 : decode cX1_queuedIn 6 = .ok (.invokestatic 78, 3) := by decide +kernel
theorem dX1_queuedIn_9 : decode cX1_queuedIn 9 = .ok (.ireturn, 1) := by decide +kernel
theorem dX1_firstIn_0 : decode cX1_firstIn 0 = .ok (.aload_n 0, 1) := by decide +kernel
theorem dX1_firstIn_1 : decode cX1_firstIn 1 = .ok (.iload_n 1, 1) := by decide +kernel
theorem dX1_firstIn_2 : decode cX1_firstIn 2 = .ok (.invokevirtual 82, 3) := by decide +kernel
theorem dX1_firstIn_5 : decode cX1_firstIn 5 = .ok (.ifCond .le 12, 3) := by decide +kernel
theorem dX1_firstIn_8 : decode cX1_firstIn 8 = .ok (.aload_n 0, 1) := by decide +kernel
theorem dX1_firstIn_9 : decode cX1_firstIn 9 = .ok (.iload_n 1, 1) := by decide +kernel
theorem dX1_firstIn_10 : decode cX1_firstIn 10 = .ok (.iconst 0, 1) := by decide +kernel
theorem dX1_firstIn_11 : decode cX1_firstIn 11 = .ok (.invokevirtual 86, 3) := by decide +kernel
theorem dX1_firstIn_14 : decode cX1_firstIn 14 = .ok (.goto 4, 3) := by decide +kernel
theorem dX1_firstIn_17 : decode cX1_firstIn 17 = .ok (.iconst (-1), 1) := by decide +kernel
theorem dX1_firstIn_18 : decode cX1_firstIn 18 = .ok (.ireturn, 1) := by decide +kernel
theorem dX1_standsIn_0 : decode cX1_standsIn 0 = .ok (.aload_n 0, 1) := by decide +kernel
theorem dX1_standsIn_1 : decode cX1_standsIn 1 = .ok (.getfield 33, 3) := by decide +kernel
theorem dX1_standsIn_4 : decode cX1_standsIn 4 = .ok (.iload_n 1, 1) := by decide +kernel
theorem dX1_standsIn_5 : decode cX1_standsIn 5 = .ok (.iconst (-1), 1) := by decide +kernel
theorem dX1_standsIn_6 : decode cX1_standsIn 6 = .ok (.invokestatic 78, 3) := by decide +kernel
theorem dX1_standsIn_9 : decode cX1_standsIn 9 = .ok (.ireturn, 1) := by decide +kernel
theorem dX1_dressedIn_0 : decode cX1_dressedIn 0 = .ok (.aload_n 0, 1) := by decide +kernel
theorem dX1_dressedIn_1 : decode cX1_dressedIn 1 = .ok (.getfield 45, 3) := by decide +kernel
theorem dX1_dressedIn_4 : decode cX1_dressedIn 4 = .ok (.aload_n 0, 1) := by decide +kernel
theorem dX1_dressedIn_5 : decode cX1_dressedIn 5 = .ok (.iload_n 1, 1) := by decide +kernel
theorem dX1_dressedIn_6 : decode cX1_dressedIn 6 = .ok (.invokevirtual 90, 3) := by decide +kernel
theorem dX1_dressedIn_9 : decode cX1_dressedIn 9 = .ok (.invokevirtual 93, 3) := by decide +kernel
theorem dX1_dressedIn_12 : decode cX1_dressedIn 12 = .ok (.astore_n 2, 1) := by decide +kernel
theorem dX1_dressedIn_13 : decode cX1_dressedIn 13 = .ok (.aload_n 2, 1) := by decide +kernel
theorem dX1_dressedIn_14 : decode cX1_dressedIn 14 = .ok (.ifnull 31, 3) := by decide +kernel
theorem dX1_dressedIn_17 : decode cX1_dressedIn 17 = .ok (.aload_n 0, 1) := by decide +kernel
theorem dX1_dressedIn_18 : decode cX1_dressedIn 18 = .ok (.getfield 27, 3) := by decide +kernel
theorem dX1_dressedIn_21 : decode cX1_dressedIn 21 = .ok (.iload_n 1, 1) := by decide +kernel
theorem dX1_dressedIn_22 : decode cX1_dressedIn 22 = .ok (.iconst (-1), 1) := by decide +kernel
theorem dX1_dressedIn_23 : decode cX1_dressedIn 23 = .ok (.invokestatic 78, 3) := by decide +kernel
theorem dX1_dressedIn_26 : decode cX1_dressedIn 26 = .ok (.aload_n 2, 1) := by decide +kernel
theorem dX1_dressedIn_27 : decode cX1_dressedIn 27 = .ok (.getfield 99, 3) := by decide +kernel
theorem dX1_dressedIn_30 : decode cX1_dressedIn 30 = .ok (.if_icmp .ne 15, 3) := by decide +kernel
theorem dX1_dressedIn_33 : decode cX1_dressedIn 33 = .ok (.aload_n 0, 1) := by decide +kernel
theorem dX1_dressedIn_34 : decode cX1_dressedIn 34 = .ok (.getfield 30, 3) := by decide +kernel
theorem dX1_dressedIn_37 : decode cX1_dressedIn 37 = .ok (.iload_n 1, 1) := by decide +kernel
theorem dX1_dressedIn_38 : decode cX1_dressedIn 38 = .ok (.iconst (-1), 1) := by decide +kernel
theorem dX1_dressedIn_39 : decode cX1_dressedIn 39 = .ok (.invokestatic 78, 3) := by decide +kernel
theorem dX1_dressedIn_42 : decode cX1_dressedIn 42 = .ok (.goto 4, 3) := by decide +kernel
theorem dX1_dressedIn_45 : decode cX1_dressedIn 45 = .ok (.iconst (-1), 1) := by decide +kernel
theorem dX1_dressedIn_46 : decode cX1_dressedIn 46 = .ok (.ireturn, 1) := by decide +kernel
theorem dX1_addAnimator_0 : decode cX1_addAnimator 0 = .ok (.aload_n 0, 1) := by decide +kernel
theorem dX1_addAnimator_1 : decode cX1_addAnimator 1 = .ok (.getfield 69, 3) := by decide +kernel
theorem dX1_addAnimator_4 : decode cX1_addAnimator 4 = .ok (.istore_n 2, 1) := by decide +kernel
theorem dX1_addAnimator_5 : decode cX1_addAnimator 5 = .ok (.iload_n 2, 1) := by decide +kernel
theorem dX1_addAnimator_6 : decode cX1_addAnimator 6 = .ok (.bipush 6, 2) := by decide +kernel
theorem dX1_addAnimator_8 : decode cX1_addAnimator 8 = .ok (.if_icmp .lt 5, 3) := by decide +kernel
theorem dX1_addAnimator_11 : decode cX1_addAnimator 11 = .ok (.iconst (-1), 1) := by decide +kernel
theorem dX1_addAnimator_12 : decode cX1_addAnimator 12 = .ok (.ireturn, 1) := by decide +kernel
theorem dX1_addAnimator_13 : decode cX1_addAnimator 13 = .ok (.aload_n 0, 1) := by decide +kernel
theorem dX1_addAnimator_14 : decode cX1_addAnimator 14 = .ok (.getfield 39, 3) := by decide +kernel
theorem dX1_addAnimator_17 : decode cX1_addAnimator 17 = .ok (.iload_n 2, 1) := by decide +kernel
theorem dX1_addAnimator_18 : decode cX1_addAnimator 18 = .ok (.iload_n 1, 1) := by decide +kernel
theorem dX1_addAnimator_19 : decode cX1_addAnimator 19 = .ok (.iastore, 1) := by decide +kernel
theorem dX1_addAnimator_20 : decode cX1_addAnimator 20 = .ok (.aload_n 0, 1) := by decide +kernel
theorem dX1_addAnimator_21 : decode cX1_addAnimator 21 = .ok (.dup, 1) := by decide +kernel
theorem dX1_addAnimator_22 : decode cX1_addAnimator 22 = .ok (.getfield 69, 3) := by decide +kernel
theorem dX1_addAnimator_25 : decode cX1_addAnimator 25 = .ok (.iconst 1, 1) := by decide +kernel
theorem dX1_addAnimator_26 : decode cX1_addAnimator 26 = .ok (.iadd, 1) := by decide +kernel
theorem dX1_addAnimator_27 : decode cX1_addAnimator 27 = .ok (.putfield 69, 3) := by decide +kernel
theorem dX1_addAnimator_30 : decode cX1_addAnimator 30 = .ok (.iload_n 2, 1) := by decide +kernel
theorem dX1_addAnimator_31 : decode cX1_addAnimator 31 = .ok (.ireturn, 1) := by decide +kernel
theorem dX1_turnWeek_0 : decode cX1_turnWeek 0 = .ok (.aload_n 0, 1) := by decide +kernel
theorem dX1_turnWeek_1 : decode cX1_turnWeek 1 = .ok (.getfield 59, 3) := by decide +kernel
theorem dX1_turnWeek_4 : decode cX1_turnWeek 4 = .ok (.bipush 14, 2) := by decide +kernel
theorem dX1_turnWeek_6 : decode cX1_turnWeek 6 = .ok (.idiv, 1) := by decide +kernel
theorem dX1_turnWeek_7 : decode cX1_turnWeek 7 = .ok (.istore_n 1, 1) := by decide +kernel
theorem dX1_turnWeek_8 : decode cX1_turnWeek 8 = .ok (.iload_n 1, 1) := by decide +kernel
theorem dX1_turnWeek_9 : decode cX1_turnWeek 9 = .ok (.aload_n 0, 1) := by decide +kernel
theorem dX1_turnWeek_10 : decode cX1_turnWeek 10 = .ok (.getfield 72, 3) := by decide +kernel
theorem dX1_turnWeek_13 : decode cX1_turnWeek 13 = .ok (.if_icmp .eq 16, 3) := by decide +kernel
theorem dX1_turnWeek_16 : decode cX1_turnWeek 16 = .ok (.aload_n 0, 1) := by decide +kernel
theorem dX1_turnWeek_17 : decode cX1_turnWeek 17 = .ok (.iload_n 1, 1) := by decide +kernel
theorem dX1_turnWeek_18 : decode cX1_turnWeek 18 = .ok (.putfield 72, 3) := by decide +kernel
theorem dX1_turnWeek_21 : decode cX1_turnWeek 21 = .ok (.aload_n 0, 1) := by decide +kernel
theorem dX1_turnWeek_22 : decode cX1_turnWeek 22 = .ok (.getfield 42, 3) := by decide +kernel
theorem dX1_turnWeek_25 : decode cX1_turnWeek 25 = .ok (.iconst 0, 1) := by decide +kernel
theorem dX1_turnWeek_26 : decode cX1_turnWeek 26 = .ok (.invokestatic 53, 3) := by decide +kernel
theorem dX1_turnWeek_29 : decode cX1_turnWeek 29 = .ok (.return_, 1) := by decide +kernel
theorem dX1_pass_0 : decode cX1_pass 0 = .ok (.aload_n 0, 1) := by decide +kernel
theorem dX1_pass_1 : decode cX1_pass 1 = .ok (.iconst 0, 1) := by decide +kernel
theorem dX1_pass_2 : decode cX1_pass 2 = .ok (.putfield 127, 3) := by decide +kernel
theorem dX1_pass_5 : decode cX1_pass 5 = .ok (.aload_n 0, 1) := by decide +kernel
theorem dX1_pass_6 : decode cX1_pass 6 = .ok (.invokevirtual 104, 3) := by decide +kernel
theorem dX1_pass_9 : decode cX1_pass 9 = .ok (.iconst 0, 1) := by decide +kernel
theorem dX1_pass_10 : decode cX1_pass 10 = .ok (.istore_n 1, 1) := by decide +kernel
theorem dX1_pass_11 : decode cX1_pass 11 = .ok (.iload_n 1, 1) := by decide +kernel
theorem dX1_pass_12 : decode cX1_pass 12 = .ok (.iconst 3, 1) := by decide +kernel
theorem dX1_pass_13 : decode cX1_pass 13 = .ok (.if_icmp .ge 14, 3) := by decide +kernel
theorem dX1_pass_16 : decode cX1_pass 16 = .ok (.aload_n 0, 1) := by decide +kernel
theorem dX1_pass_17 : decode cX1_pass 17 = .ok (.iload_n 1, 1) := by decide +kernel
theorem dX1_pass_18 : decode cX1_pass 18 = .ok (.invokevirtual 130, 3) := by decide +kernel
theorem dX1_pass_21 : decode cX1_pass 21 = .ok (.iinc 1 1, 3) := by decide +kernel
theorem dX1_pass_24 : decode cX1_pass 24 = .ok (.goto (-13), 3) := by decide +kernel
theorem dX1_pass_27 : decode cX1_pass 27 = .ok (.aload_n 0, 1) := by decide +kernel
theorem dX1_pass_28 : decode cX1_pass 28 = .ok (.dup, 1) := by decide +kernel
theorem dX1_pass_29 : decode cX1_pass 29 = .ok (.getfield 59, 3) := by decide +kernel
theorem dX1_pass_32 : decode cX1_pass 32 = .ok (.iconst 1, 1) := by decide +kernel
theorem dX1_pass_33 : decode cX1_pass 33 = .ok (.iadd, 1) := by decide +kernel
theorem dX1_pass_34 : decode cX1_pass 34 = .ok (.putfield 59, 3) := by decide +kernel
theorem dX1_pass_37 : decode cX1_pass 37 = .ok (.aload_n 0, 1) := by decide +kernel
theorem dX1_pass_38 : decode cX1_pass 38 = .ok (.aload_n 0, 1) := by decide +kernel
theorem dX1_pass_39 : decode cX1_pass 39 = .ok (.getfield 127, 3) := by decide +kernel
theorem dX1_pass_42 : decode cX1_pass 42 = .ok (.ifCond .eq 7, 3) := by decide +kernel
theorem dX1_pass_45 : decode cX1_pass 45 = .ok (.iconst 0, 1) := by decide +kernel
theorem dX1_pass_46 : decode cX1_pass 46 = .ok (.goto 9, 3) := by decide +kernel
theorem dX1_pass_49 : decode cX1_pass 49 = .ok (.aload_n 0, 1) := by decide +kernel
theorem dX1_pass_50 : decode cX1_pass 50 = .ok (.getfield 75, 3) := by decide +kernel
theorem dX1_pass_53 : decode cX1_pass 53 = .ok (.iconst 1, 1) := by decide +kernel
theorem dX1_pass_54 : decode cX1_pass 54 = .ok (.iadd, 1) := by decide +kernel
theorem dX1_pass_55 : decode cX1_pass 55 = .ok (.putfield 75, 3) := by decide +kernel
theorem dX1_pass_58 : decode cX1_pass 58 = .ok (.return_, 1) := by decide +kernel
theorem dX1_isDone_0 : decode cX1_isDone 0 = .ok (.iconst 0, 1) := by decide +kernel
theorem dX1_isDone_1 : decode cX1_isDone 1 = .ok (.istore_n 1, 1) := by decide +kernel
theorem dX1_isDone_2 : decode cX1_isDone 2 = .ok (.iload_n 1, 1) := by decide +kernel
theorem dX1_isDone_3 : decode cX1_isDone 3 = .ok (.iconst 3, 1) := by decide +kernel
theorem dX1_isDone_4 : decode cX1_isDone 4 = .ok (.if_icmp .ge 30, 3) := by decide +kernel
theorem dX1_isDone_7 : decode cX1_isDone 7 = .ok (.aload_n 0, 1) := by decide +kernel
theorem dX1_isDone_8 : decode cX1_isDone 8 = .ok (.getfield 15, 3) := by decide +kernel
theorem dX1_isDone_11 : decode cX1_isDone 11 = .ok (.iload_n 1, 1) := by decide +kernel
theorem dX1_isDone_12 : decode cX1_isDone 12 = .ok (.iaload, 1) := by decide +kernel
theorem dX1_isDone_13 : decode cX1_isDone 13 = .ok (.iconst (-1), 1) := by decide +kernel
theorem dX1_isDone_14 : decode cX1_isDone 14 = .ok (.if_icmp .ne 12, 3) := by decide +kernel
theorem dX1_isDone_17 : decode cX1_isDone 17 = .ok (.aload_n 0, 1) := by decide +kernel
theorem dX1_isDone_18 : decode cX1_isDone 18 = .ok (.getfield 21, 3) := by decide +kernel
theorem dX1_isDone_21 : decode cX1_isDone 21 = .ok (.iload_n 1, 1) := by decide +kernel
theorem dX1_isDone_22 : decode cX1_isDone 22 = .ok (.iaload, 1) := by decide +kernel
theorem dX1_isDone_23 : decode cX1_isDone 23 = .ok (.ifCond .le 5, 3) := by decide +kernel
theorem dX1_isDone_26 : decode cX1_isDone 26 = .ok (.iconst 0, 1) := by decide +kernel
theorem dX1_isDone_27 : decode cX1_isDone 27 = .ok (.ireturn, 1) := by decide +kernel
theorem dX1_isDone_28 : decode cX1_isDone 28 = .ok (.iinc 1 1, 3) := by decide +kernel
theorem dX1_isDone_31 : decode cX1_isDone 31 = .ok (.goto (-29), 3) := by decide +kernel
theorem dX1_isDone_34 : decode cX1_isDone 34 = .ok (.iconst 1, 1) := by decide +kernel
theorem dX1_isDone_35 : decode cX1_isDone 35 = .ok (.ireturn, 1) := by decide +kernel
theorem dX1_attend_0 : decode cX1_attend 0 = .ok (.aload_n 0, 1) := by decide +kernel
theorem dX1_attend_1 : decode cX1_attend 1 = .ok (.getfield 15, 3) := by decide +kernel
theorem dX1_attend_4 : decode cX1_attend 4 = .ok (.iload_n 1, 1) := by decide +kernel
theorem dX1_attend_5 : decode cX1_attend 5 = .ok (.iaload, 1) := by decide +kernel
theorem dX1_attend_6 : decode cX1_attend 6 = .ok (.iconst (-1), 1) := by decide +kernel
theorem dX1_attend_7 : decode cX1_attend 7 = .ok (.if_icmp .ne 13, 3) := by decide +kernel
theorem dX1_attend_10 : decode cX1_attend 10 = .ok (.aload_n 0, 1) := by decide +kernel
theorem dX1_attend_11 : decode cX1_attend 11 = .ok (.iload_n 1, 1) := by decide +kernel
theorem dX1_attend_12 : decode cX1_attend 12 = .ok (.invokevirtual 134, 3) := by decide +kernel
theorem dX1_attend_15 : decode cX1_attend 15 = .ok (.aload_n 0, 1) := by decide +kernel
theorem dX1_attend_16 : decode cX1_attend 16 = .ok (.iload_n 1, 1) := by decide +kernel
theorem dX1_attend_17 : decode cX1_attend 17 = .ok (.invokevirtual 137, 3) := by decide +kernel
theorem dX1_attend_20 : decode cX1_attend 20 = .ok (.aload_n 0, 1) := by decide +kernel
theorem dX1_attend_21 : decode cX1_attend 21 = .ok (.getfield 45, 3) := by decide +kernel
theorem dX1_attend_24 : decode cX1_attend 24 = .ok (.aload_n 0, 1) := by decide +kernel
theorem dX1_attend_25 : decode cX1_attend 25 = .ok (.getfield 15, 3) := by decide +kernel
theorem dX1_attend_28 : decode cX1_attend 28 = .ok (.iload_n 1, 1) := by decide +kernel
theorem dX1_attend_29 : decode cX1_attend 29 = .ok (.iaload, 1) := by decide +kernel
theorem dX1_attend_30 : decode cX1_attend 30 = .ok (.invokevirtual 93, 3) := by decide +kernel
theorem dX1_attend_33 : decode cX1_attend 33 = .ok (.astore_n 2, 1) := by decide +kernel
theorem dX1_attend_34 : decode cX1_attend 34 = .ok (.aload_n 2, 1) := by decide +kernel
theorem dX1_attend_35 : decode cX1_attend 35 = .ok (.ifnonnull 4, 3) := by decide +kernel
theorem dX1_attend_38 : decode cX1_attend 38 = .ok (.return_, 1) := by decide +kernel
theorem dX1_attend_39 : decode cX1_attend 39 = .ok (.aload_n 0, 1) := by decide +kernel
theorem dX1_attend_40 : decode cX1_attend 40 = .ok (.getfield 27, 3) := by decide +kernel
theorem dX1_attend_43 : decode cX1_attend 43 = .ok (.iload_n 1, 1) := by decide +kernel
theorem dX1_attend_44 : decode cX1_attend 44 = .ok (.iaload, 1) := by decide +kernel
theorem dX1_attend_45 : decode cX1_attend 45 = .ok (.aload_n 2, 1) := by decide +kernel
theorem dX1_attend_46 : decode cX1_attend 46 = .ok (.getfield 99, 3) := by decide +kernel
theorem dX1_attend_49 : decode cX1_attend 49 = .ok (.if_icmp .eq 33, 3) := by decide +kernel
theorem dX1_attend_52 : decode cX1_attend 52 = .ok (.aload_n 0, 1) := by decide +kernel
theorem dX1_attend_53 : decode cX1_attend 53 = .ok (.iload_n 1, 1) := by decide +kernel
theorem dX1_attend_54 : decode cX1_attend 54 = .ok (.invokevirtual 140, 3) := by decide +kernel
theorem dX1_attend_57 : decode cX1_attend 57 = .ok (.aload_n 0, 1) := by decide +kernel
theorem dX1_attend_58 : decode cX1_attend 58 = .ok (.aload_n 2, 1) := by decide +kernel
theorem dX1_attend_59 : decode cX1_attend 59 = .ok (.getfield 99, 3) := by decide +kernel
theorem dX1_attend_62 : decode cX1_attend 62 = .ok (.invokevirtual 143, 3) := by decide +kernel
theorem dX1_attend_65 : decode cX1_attend 65 = .ok (.iload_n 1, 1) := by decide +kernel
theorem dX1_attend_66 : decode cX1_attend 66 = .ok (.if_icmp .eq 16, 3) := by decide +kernel
theorem dX1_attend_69 : decode cX1_attend 69 = .ok (.aload_n 0, 1) := by decide +kernel
theorem dX1_attend_70 : decode cX1_attend 70 = .ok (.iload_n 1, 1) := by decide +kernel
theorem dX1_attend_71 : decode cX1_attend 71 = .ok (.aload_n 2, 1) := by decide +kernel
theorem dX1_attend_72 : decode cX1_attend 72 = .ok (.getfield 99, 3) := by decide +kernel
theorem dX1_attend_75 : decode cX1_attend 75 = .ok (.invokevirtual 146, 3) := by decide +kernel
theorem dX1_attend_78 : decode cX1_attend 78 = .ok (.ifCond .ne 4, 3) := by decide +kernel
theorem dX1_attend_81 : decode cX1_attend 81 = .ok (.return_, 1) := by decide +kernel
theorem dX1_attend_82 : decode cX1_attend 82 = .ok (.aload_n 0, 1) := by decide +kernel
theorem dX1_attend_83 : decode cX1_attend 83 = .ok (.getfield 27, 3) := by decide +kernel
theorem dX1_attend_86 : decode cX1_attend 86 = .ok (.iload_n 1, 1) := by decide +kernel
theorem dX1_attend_87 : decode cX1_attend 87 = .ok (.iaload, 1) := by decide +kernel
theorem dX1_attend_88 : decode cX1_attend 88 = .ok (.aload_n 2, 1) := by decide +kernel
theorem dX1_attend_89 : decode cX1_attend 89 = .ok (.getfield 99, 3) := by decide +kernel
theorem dX1_attend_92 : decode cX1_attend 92 = .ok (.if_icmp .ne 16, 3) := by decide +kernel
theorem dX1_attend_95 : decode cX1_attend 95 = .ok (.aload_n 0, 1) := by decide +kernel
theorem dX1_attend_96 : decode cX1_attend 96 = .ok (.iload_n 1, 1) := by decide +kernel
theorem dX1_attend_97 : decode cX1_attend 97 = .ok (.aload_n 2, 1) := by decide +kernel
theorem dX1_attend_98 : decode cX1_attend 98 = .ok (.getfield 99, 3) := by decide +kernel
theorem dX1_attend_101 : decode cX1_attend 101 = .ok (.invokevirtual 150, 3) := by decide +kernel
theorem dX1_attend_104 : decode cX1_attend 104 = .ok (.ifCond .eq 4, 3) := by decide +kernel
theorem dX1_attend_107 : decode cX1_attend 107 = .ok (.return_, 1) := by decide +kernel
theorem dX1_attend_108 : decode cX1_attend 108 = .ok (.aload_n 0, 1) := by decide +kernel
theorem dX1_attend_109 : decode cX1_attend 109 = .ok (.aload_n 2, 1) := by decide +kernel
theorem dX1_attend_110 : decode cX1_attend 110 = .ok (.getfield 99, 3) := by decide +kernel
theorem dX1_attend_113 : decode cX1_attend 113 = .ok (.invokevirtual 143, 3) := by decide +kernel
theorem dX1_attend_116 : decode cX1_attend 116 = .ok (.iload_n 1, 1) := by decide +kernel
theorem dX1_attend_117 : decode cX1_attend 117 = .ok (.if_icmp .ne 9, 3) := by decide +kernel
theorem dX1_attend_120 : decode cX1_attend 120 = .ok (.aload_n 0, 1) := by decide +kernel
theorem dX1_attend_121 : decode cX1_attend 121 = .ok (.iload_n 1, 1) := by decide +kernel
theorem dX1_attend_122 : decode cX1_attend 122 = .ok (.aload_n 2, 1) := by decide +kernel
theorem dX1_attend_123 : decode cX1_attend 123 = .ok (.invokevirtual 153, 3) := by decide +kernel
theorem dX1_attend_126 : decode cX1_attend 126 = .ok (.return_, 1) := by decide +kernel
theorem dX1_dropAllShot_0 : decode cX1_dropAllShot 0 = .ok (.iconst 0, 1) := by decide +kernel
theorem dX1_dropAllShot_1 : decode cX1_dropAllShot 1 = .ok (.istore_n 2, 1) := by decide +kernel
theorem dX1_dropAllShot_2 : decode cX1_dropAllShot 2 = .ok (.iconst 0, 1) := by decide +kernel
theorem dX1_dropAllShot_3 : decode cX1_dropAllShot 3 = .ok (.istore_n 3, 1) := by decide +kernel
theorem dX1_dropAllShot_4 : decode cX1_dropAllShot 4 = .ok (.iload_n 3, 1) := by decide +kernel
theorem dX1_dropAllShot_5 : decode cX1_dropAllShot 5 = .ok (.aload_n 0, 1) := by decide +kernel
theorem dX1_dropAllShot_6 : decode cX1_dropAllShot 6 = .ok (.getfield 21, 3) := by decide +kernel
theorem dX1_dropAllShot_9 : decode cX1_dropAllShot 9 = .ok (.iload_n 1, 1) := by decide +kernel
theorem dX1_dropAllShot_10 : decode cX1_dropAllShot 10 = .ok (.iaload, 1) := by decide +kernel
theorem dX1_dropAllShot_11 : decode cX1_dropAllShot 11 = .ok (.if_icmp .ge 51, 3) := by decide +kernel
theorem dX1_dropAllShot_14 : decode cX1_dropAllShot 14 = .ok (.aload_n 0, 1) := by decide +kernel
theorem dX1_dropAllShot_15 : decode cX1_dropAllShot 15 = .ok (.iload_n 1, 1) := by decide +kernel
theorem dX1_dropAllShot_16 : decode cX1_dropAllShot 16 = .ok (.iload_n 3, 1) := by decide +kernel
theorem dX1_dropAllShot_17 : decode cX1_dropAllShot 17 = .ok (.invokevirtual 86, 3) := by decide +kernel
theorem dX1_dropAllShot_20 : decode cX1_dropAllShot 20 = .ok (.istore 4, 2) := by decide +kernel
theorem dX1_dropAllShot_22 : decode cX1_dropAllShot 22 = .ok (.aload_n 0, 1) := by decide +kernel
theorem dX1_dropAllShot_23 : decode cX1_dropAllShot 23 = .ok (.iload 4, 2) := by decide +kernel
theorem dX1_dropAllShot_25 : decode cX1_dropAllShot 25 = .ok (.invokevirtual 157, 3) := by decide +kernel
theorem dX1_dropAllShot_28 : decode cX1_dropAllShot 28 = .ok (.ifCond .eq 17, 3) := by decide +kernel
theorem dX1_dropAllShot_31 : decode cX1_dropAllShot 31 = .ok (.aload_n 0, 1) := by decide +kernel
theorem dX1_dropAllShot_32 : decode cX1_dropAllShot 32 = .ok (.getfield 24, 3) := by decide +kernel
theorem dX1_dropAllShot_35 : decode cX1_dropAllShot 35 = .ok (.iload 4, 2) := by decide +kernel
theorem dX1_dropAllShot_37 : decode cX1_dropAllShot 37 = .ok (.iconst 0, 1) := by decide +kernel
theorem dX1_dropAllShot_38 : decode cX1_dropAllShot 38 = .ok (.invokestatic 111, 3) := by decide +kernel
theorem dX1_dropAllShot_41 : decode cX1_dropAllShot 41 = .ok (.pop, 1) := by decide +kernel
theorem dX1_dropAllShot_42 : decode cX1_dropAllShot 42 = .ok (.goto 14, 3) := by decide +kernel
theorem dX1_dropAllShot_45 : decode cX1_dropAllShot 45 = .ok (.aload_n 0, 1) := by decide +kernel
theorem dX1_dropAllShot_46 : decode cX1_dropAllShot 46 = .ok (.iload_n 1, 1) := by decide +kernel
theorem dX1_dropAllShot_47 : decode cX1_dropAllShot 47 = .ok (.iload_n 2, 1) := by decide +kernel
theorem dX1_dropAllShot_48 : decode cX1_dropAllShot 48 = .ok (.iload 4, 2) := by decide +kernel
theorem dX1_dropAllShot_50 : decode cX1_dropAllShot 50 = .ok (.invokevirtual 107, 3) := by decide +kernel
theorem dX1_dropAllShot_53 : decode cX1_dropAllShot 53 = .ok (.iinc 2 1, 3) := by decide +kernel
theorem dX1_dropAllShot_56 : decode cX1_dropAllShot 56 = .ok (.iinc 3 1, 3) := by decide +kernel
theorem dX1_dropAllShot_59 : decode cX1_dropAllShot 59 = .ok (.goto (-55), 3) := by decide +kernel
theorem dX1_dropAllShot_62 : decode cX1_dropAllShot 62 = .ok (.aload_n 0, 1) := by decide +kernel
theorem dX1_dropAllShot_63 : decode cX1_dropAllShot 63 = .ok (.dup, 1) := by decide +kernel
theorem dX1_dropAllShot_64 : decode cX1_dropAllShot 64 = .ok (.getfield 127, 3) := by decide +kernel
theorem dX1_dropAllShot_67 : decode cX1_dropAllShot 67 = .ok (.iload_n 2, 1) := by decide +kernel
theorem dX1_dropAllShot_68 : decode cX1_dropAllShot 68 = .ok (.aload_n 0, 1) := by decide +kernel
theorem dX1_dropAllShot_69 : decode cX1_dropAllShot 69 = .ok (.getfield 21, 3) := by decide +kernel
theorem dX1_dropAllShot_72 : decode cX1_dropAllShot 72 = .ok (.iload_n 1, 1) := by decide +kernel
theorem dX1_dropAllShot_73 : decode cX1_dropAllShot 73 = .ok (.iaload, 1) := by decide +kernel
theorem dX1_dropAllShot_74 : decode cX1_dropAllShot 74 = .ok (.if_icmp .eq 7, 3) := by decide +kernel
theorem dX1_dropAllShot_77 : decode cX1_dropAllShot 77 = .ok (.iconst 1, 1) := by decide +kernel
theorem dX1_dropAllShot_78 : decode cX1_dropAllShot 78 = .ok (.goto 4, 3) := by decide +kernel
theorem dX1_dropAllShot_81 : decode cX1_dropAllShot 81 = .ok (.iconst 0, 1) := by decide +kernel
theorem dX1_dropAllShot_82 : decode cX1_dropAllShot 82 = .ok (.ior, 1) := by decide +kernel
theorem dX1_dropAllShot_83 : decode cX1_dropAllShot 83 = .ok (.putfield 127, 3) := by decide +kernel
theorem dX1_dropAllShot_86 : decode cX1_dropAllShot 86 = .ok (.aload_n 0, 1) := by decide +kernel
theorem dX1_dropAllShot_87 : decode cX1_dropAllShot 87 = .ok (.getfield 21, 3) := by decide +kernel
theorem dX1_dropAllShot_90 : decode cX1_dropAllShot 90 = .ok (.iload_n 1, 1) := by decide +kernel
theorem dX1_dropAllShot_91 : decode cX1_dropAllShot 91 = .ok (.iload_n 2, 1) := by decide +kernel
theorem dX1_dropAllShot_92 : decode cX1_dropAllShot 92 = .ok (.iastore, 1) := by decide +kernel
theorem dX1_dropAllShot_93 : decode cX1_dropAllShot 93 = .ok (.return_, 1) := by decide +kernel
theorem dX1_beginFirst_0 : decode cX1_beginFirst 0 = .ok (.iconst 0, 1) := by decide +kernel
theorem dX1_beginFirst_1 : decode cX1_beginFirst 1 = .ok (.istore_n 2, 1) := by decide +kernel
theorem dX1_beginFirst_2 : decode cX1_beginFirst 2 = .ok (.iload_n 2, 1) := by decide +kernel
theorem dX1_beginFirst_3 : decode cX1_beginFirst 3 = .ok (.aload_n 0, 1) := by decide +kernel
theorem dX1_beginFirst_4 : decode cX1_beginFirst 4 = .ok (.getfield 21, 3) := by decide +kernel
theorem dX1_beginFirst_7 : decode cX1_beginFirst 7 = .ok (.iload_n 1, 1) := by decide +kernel
theorem dX1_beginFirst_8 : decode cX1_beginFirst 8 = .ok (.iaload, 1) := by decide +kernel
theorem dX1_beginFirst_9 : decode cX1_beginFirst 9 = .ok (.if_icmp .ge 44, 3) := by decide +kernel
theorem dX1_beginFirst_12 : decode cX1_beginFirst 12 = .ok (.aload_n 0, 1) := by decide +kernel
theorem dX1_beginFirst_13 : decode cX1_beginFirst 13 = .ok (.iload_n 1, 1) := by decide +kernel
theorem dX1_beginFirst_14 : decode cX1_beginFirst 14 = .ok (.iload_n 2, 1) := by decide +kernel
theorem dX1_beginFirst_15 : decode cX1_beginFirst 15 = .ok (.invokevirtual 86, 3) := by decide +kernel
theorem dX1_beginFirst_18 : decode cX1_beginFirst 18 = .ok (.istore_n 3, 1) := by decide +kernel
theorem dX1_beginFirst_19 : decode cX1_beginFirst 19 = .ok (.aload_n 0, 1) := by decide +kernel
theorem dX1_beginFirst_20 : decode cX1_beginFirst 20 = .ok (.iload_n 1, 1) := by decide +kernel
theorem dX1_beginFirst_21 : decode cX1_beginFirst 21 = .ok (.iload_n 3, 1) := by decide +kernel
theorem dX1_beginFirst_22 : decode cX1_beginFirst 22 = .ok (.invokevirtual 161, 3) := by decide +kernel
theorem dX1_beginFirst_25 : decode cX1_beginFirst 25 = .ok (.ifCond .eq 22, 3) := by decide +kernel
theorem dX1_beginFirst_28 : decode cX1_beginFirst 28 = .ok (.aload_n 0, 1) := by decide +kernel
theorem dX1_beginFirst_29 : decode cX1_beginFirst 29 = .ok (.getfield 15, 3) := by decide +kernel
theorem dX1_beginFirst_32 : decode cX1_beginFirst 32 = .ok (.iload_n 1, 1) := by decide +kernel
theorem dX1_beginFirst_33 : decode cX1_beginFirst 33 = .ok (.iload_n 3, 1) := by decide +kernel
theorem dX1_beginFirst_34 : decode cX1_beginFirst 34 = .ok (.iastore, 1) := by decide +kernel
theorem dX1_beginFirst_35 : decode cX1_beginFirst 35 = .ok (.aload_n 0, 1) := by decide +kernel
theorem dX1_beginFirst_36 : decode cX1_beginFirst 36 = .ok (.iload_n 1, 1) := by decide +kernel
theorem dX1_beginFirst_37 : decode cX1_beginFirst 37 = .ok (.iload_n 2, 1) := by decide +kernel
theorem dX1_beginFirst_38 : decode cX1_beginFirst 38 = .ok (.invokevirtual 164, 3) := by decide +kernel
theorem dX1_beginFirst_41 : decode cX1_beginFirst 41 = .ok (.aload_n 0, 1) := by decide +kernel
theorem dX1_beginFirst_42 : decode cX1_beginFirst 42 = .ok (.iconst 1, 1) := by decide +kernel
theorem dX1_beginFirst_43 : decode cX1_beginFirst 43 = .ok (.putfield 127, 3) := by decide +kernel
theorem dX1_beginFirst_46 : decode cX1_beginFirst 46 = .ok (.return_, 1) := by decide +kernel
theorem dX1_beginFirst_47 : decode cX1_beginFirst 47 = .ok (.iinc 2 1, 3) := by decide +kernel
theorem dX1_beginFirst_50 : decode cX1_beginFirst 50 = .ok (.goto (-48), 3) := by decide +kernel
theorem dX1_beginFirst_53 : decode cX1_beginFirst 53 = .ok (.return_, 1) := by decide +kernel
theorem dX2_init_0 : decode cX2_init 0 = .ok (.aload_n 0, 1) := by decide +kernel
theorem dX2_init_1 : decode cX2_init 1 = .ok (.invokespecial 1, 3) := by decide +kernel
theorem dX2_init_4 : decode cX2_init 4 = .ok (.return_, 1) := by decide +kernel
theorem dX3_init_0 : decode cX3_init 0 = .ok (.aload_n 0, 1) := by decide +kernel
theorem dX3_init_1 : decode cX3_init 1 = .ok (.invokespecial 3, 3) := by decide +kernel
theorem dX3_init_4 : decode cX3_init 4 = .ok (.aload_n 0, 1) := by decide +kernel
theorem dX3_init_5 : decode cX3_init 5 = .ok (.bipush 12, 2) := by decide +kernel
theorem dX3_init_7 : decode cX3_init 7 = .ok (.newarray .int, 2) := by decide +kernel
theorem dX3_init_9 : decode cX3_init 9 = .ok (.putfield 11, 3) := by decide +kernel
theorem dX3_init_12 : decode cX3_init 12 = .ok (.aload_n 0, 1) := by decide +kernel
theorem dX3_init_13 : decode cX3_init 13 = .ok (.bipush 12, 2) := by decide +kernel
theorem dX3_init_15 : decode cX3_init 15 = .ok (.newarray .int, 2) := by decide +kernel
theorem dX3_init_17 : decode cX3_init 17 = .ok (.putfield 15, 3) := by decide +kernel
theorem dX3_init_20 : decode cX3_init 20 = .ok (.aload_n 0, 1) := by decide +kernel
theorem dX3_init_21 : decode cX3_init 21 = .ok (.bipush 12, 2) := by decide +kernel
theorem dX3_init_23 : decode cX3_init 23 = .ok (.newarray .int, 2) := by decide +kernel
theorem dX3_init_25 : decode cX3_init 25 = .ok (.putfield 18, 3) := by decide +kernel
theorem dX3_init_28 : decode cX3_init 28 = .ok (.aload_n 0, 1) := by decide +kernel
theorem dX3_init_29 : decode cX3_init 29 = .ok (.aload_n 1, 1) := by decide +kernel
theorem dX3_init_30 : decode cX3_init 30 = .ok (.putfield 21, 3) := by decide +kernel
theorem dX3_init_33 : decode cX3_init 33 = .ok (.return_, 1) := by decide +kernel
theorem dX4_init_0 : decode cX4_init 0 = .ok (.aload_n 0, 1) := by decide +kernel
theorem dX4_init_1 : decode cX4_init 1 = .ok (.invokespecial 3, 3) := by decide +kernel
theorem dX4_init_4 : decode cX4_init 4 = .ok (.aload_n 0, 1) := by decide +kernel
theorem dX4_init_5 : decode cX4_init 5 = .ok (.iconst 5, 1) := by decide +kernel
theorem dX4_init_6 : decode cX4_init 6 = .ok (.newarray .int, 2) := by decide +kernel
theorem dX4_init_8 : decode cX4_init 8 = .ok (.putfield 11, 3) := by decide +kernel
theorem dX4_init_11 : decode cX4_init 11 = .ok (.aload_n 0, 1) := by decide +kernel
theorem dX4_init_12 : decode cX4_init 12 = .ok (.iconst 5, 1) := by decide +kernel
theorem dX4_init_13 : decode cX4_init 13 = .ok (.newarray .int, 2) := by decide +kernel
theorem dX4_init_15 : decode cX4_init 15 = .ok (.putfield 15, 3) := by decide +kernel
theorem dX4_init_18 : decode cX4_init 18 = .ok (.aload_n 0, 1) := by decide +kernel
theorem dX4_init_19 : decode cX4_init 19 = .ok (.iconst 5, 1) := by decide +kernel
theorem dX4_init_20 : decode cX4_init 20 = .ok (.newarray .int, 2) := by decide +kernel
theorem dX4_init_22 : decode cX4_init 22 = .ok (.putfield 18, 3) := by decide +kernel
theorem dX4_init_25 : decode cX4_init 25 = .ok (.aload_n 0, 1) := by decide +kernel
theorem dX4_init_26 : decode cX4_init 26 = .ok (.bipush 15, 2) := by decide +kernel
theorem dX4_init_28 : decode cX4_init 28 = .ok (.newarray .int, 2) := by decide +kernel
theorem dX4_init_30 : decode cX4_init 30 = .ok (.putfield 21, 3) := by decide +kernel
theorem dX4_init_33 : decode cX4_init 33 = .ok (.aload_n 0, 1) := by decide +kernel
theorem dX4_init_34 : decode cX4_init 34 = .ok (.iconst 5, 1) := by decide +kernel
theorem dX4_init_35 : decode cX4_init 35 = .ok (.newarray .int, 2) := by decide +kernel
theorem dX4_init_37 : decode cX4_init 37 = .ok (.putfield 24, 3) := by decide +kernel
theorem dX4_init_40 : decode cX4_init 40 = .ok (.aload_n 0, 1) := by decide +kernel
theorem dX4_init_41 : decode cX4_init 41 = .ok (.iconst 5, 1) := by decide +kernel
theorem dX4_init_42 : decode cX4_init 42 = .ok (.newarray .int, 2) := by decide +kernel
theorem dX4_init_44 : decode cX4_init 44 = .ok (.putfield 27, 3) := by decide +kernel
theorem dX4_init_47 : decode cX4_init 47 = .ok (.aload_n 0, 1) := by decide +kernel
theorem dX4_init_48 : decode cX4_init 48 = .ok (.iconst 5, 1) := by decide +kernel
theorem dX4_init_49 : decode cX4_init 49 = .ok (.newarray .int, 2) := by decide +kernel
theorem dX4_init_51 : decode cX4_init 51 = .ok (.putfield 30, 3) := by decide +kernel
theorem dX4_init_54 : decode cX4_init 54 = .ok (.aload_n 0, 1) := by decide +kernel
theorem dX4_init_55 : decode cX4_init 55 = .ok (.iconst 3, 1) := by decide +kernel
theorem dX4_init_56 : decode cX4_init 56 = .ok (.newarray .int, 2) := by decide +kernel
theorem dX4_init_58 : decode cX4_init 58 = .ok (.putfield 33, 3) := by decide +kernel
theorem dX4_init_61 : decode cX4_init 61 = .ok (.aload_n 0, 1) := by decide +kernel
theorem dX4_init_62 : decode cX4_init 62 = .ok (.iconst 3, 1) := by decide +kernel
theorem dX4_init_63 : decode cX4_init 63 = .ok (.newarray .int, 2) := by decide +kernel
theorem dX4_init_65 : decode cX4_init 65 = .ok (.putfield 36, 3) := by decide +kernel
theorem dX4_init_68 : decode cX4_init 68 = .ok (.aload_n 0, 1) := by decide +kernel
theorem dX4_init_69 : decode cX4_init 69 = .ok (.bipush 20, 2) := by decide +kernel
theorem dX4_init_71 : decode cX4_init 71 = .ok (.newarray .int, 2) := by decide +kernel
theorem dX4_init_73 : decode cX4_init 73 = .ok (.putfield 39, 3) := by decide +kernel
theorem dX4_init_76 : decode cX4_init 76 = .ok (.aload_n 0, 1) := by decide +kernel
theorem dX4_init_77 : decode cX4_init 77 = .ok (.bipush 20, 2) := by decide +kernel
theorem dX4_init_79 : decode cX4_init 79 = .ok (.newarray .int, 2) := by decide +kernel
theorem dX4_init_81 : decode cX4_init 81 = .ok (.putfield 42, 3) := by decide +kernel
theorem dX4_init_84 : decode cX4_init 84 = .ok (.aload_n 0, 1) := by decide +kernel
theorem dX4_init_85 : decode cX4_init 85 = .ok (.aload_n 1, 1) := by decide +kernel
theorem dX4_init_86 : decode cX4_init 86 = .ok (.putfield 45, 3) := by decide +kernel
theorem dX4_init_89 : decode cX4_init 89 = .ok (.return_, 1) := by decide +kernel
theorem dX5_init_0 : decode cX5_init 0 = .ok (.aload_n 0, 1) := by decide +kernel
theorem dX5_init_1 : decode cX5_init 1 = .ok (.invokespecial 3, 3) := by decide +kernel
theorem dX5_init_4 : decode cX5_init 4 = .ok (.aload_n 0, 1) := by decide +kernel
theorem dX5_init_5 : decode cX5_init 5 = .ok (.bipush 12, 2) := by decide +kernel
theorem dX5_init_7 : decode cX5_init 7 = .ok (.newarray .int, 2) := by decide +kernel
theorem dX5_init_9 : decode cX5_init 9 = .ok (.putfield 9, 3) := by decide +kernel
theorem dX5_init_12 : decode cX5_init 12 = .ok (.aload_n 0, 1) := by decide +kernel
theorem dX5_init_13 : decode cX5_init 13 = .ok (.bipush 12, 2) := by decide +kernel
theorem dX5_init_15 : decode cX5_init 15 = .ok (.newarray .int, 2) := by decide +kernel
theorem dX5_init_17 : decode cX5_init 17 = .ok (.putfield 15, 3) := by decide +kernel
theorem dX5_init_20 : decode cX5_init 20 = .ok (.aload_n 0, 1) := by decide +kernel
theorem dX5_init_21 : decode cX5_init 21 = .ok (.bipush 12, 2) := by decide +kernel
theorem dX5_init_23 : decode cX5_init 23 = .ok (.newarray .int, 2) := by decide +kernel
theorem dX5_init_25 : decode cX5_init 25 = .ok (.putfield 18, 3) := by decide +kernel
theorem dX5_init_28 : decode cX5_init 28 = .ok (.aload_n 0, 1) := by decide +kernel
theorem dX5_init_29 : decode cX5_init 29 = .ok (.bipush 12, 2) := by decide +kernel
theorem dX5_init_31 : decode cX5_init 31 = .ok (.newarray .int, 2) := by decide +kernel
theorem dX5_init_33 : decode cX5_init 33 = .ok (.putfield 21, 3) := by decide +kernel
theorem dX5_init_36 : decode cX5_init 36 = .ok (.aload_n 0, 1) := by decide +kernel
theorem dX5_init_37 : decode cX5_init 37 = .ok (.bipush 12, 2) := by decide +kernel
theorem dX5_init_39 : decode cX5_init 39 = .ok (.newarray .int, 2) := by decide +kernel
theorem dX5_init_41 : decode cX5_init 41 = .ok (.putfield 24, 3) := by decide +kernel
theorem dX5_init_44 : decode cX5_init 44 = .ok (.aload_n 0, 1) := by decide +kernel
theorem dX5_init_45 : decode cX5_init 45 = .ok (.bipush 12, 2) := by decide +kernel
theorem dX5_init_47 : decode cX5_init 47 = .ok (.newarray .int, 2) := by decide +kernel
theorem dX5_init_49 : decode cX5_init 49 = .ok (.putfield 27, 3) := by decide +kernel
theorem dX5_init_52 : decode cX5_init 52 = .ok (.aload_n 0, 1) := by decide +kernel
theorem dX5_init_53 : decode cX5_init 53 = .ok (.bipush 12, 2) := by decide +kernel
theorem dX5_init_55 : decode cX5_init 55 = .ok (.newarray .int, 2) := by decide +kernel
theorem dX5_init_57 : decode cX5_init 57 = .ok (.putfield 30, 3) := by decide +kernel
theorem dX5_init_60 : decode cX5_init 60 = .ok (.return_, 1) := by decide +kernel
theorem dX6_init_0 : decode cX6_init 0 = .ok (.aload_n 0, 1) := by decide +kernel
theorem dX6_init_1 : decode cX6_init 1 = .ok (.invokespecial 3, 3) := by decide +kernel
theorem dX6_init_4 : decode cX6_init 4 = .ok (.aload_n 0, 1) := by decide +kernel
theorem dX6_init_5 : decode cX6_init 5 = .ok (.new 9, 3) := by decide +kernel
theorem dX6_init_8 : decode cX6_init 8 = .ok (.dup, 1) := by decide +kernel
theorem dX6_init_9 : decode cX6_init 9 = .ok (.invokespecial 11, 3) := by decide +kernel
theorem dX6_init_12 : decode cX6_init 12 = .ok (.putfield 12, 3) := by decide +kernel
theorem dX6_init_15 : decode cX6_init 15 = .ok (.aload_n 0, 1) := by decide +kernel
theorem dX6_init_16 : decode cX6_init 16 = .ok (.bipush 60, 2) := by decide +kernel
theorem dX6_init_18 : decode cX6_init 18 = .ok (.anewarray 18, 3) := by decide +kernel
theorem dX6_init_21 : decode cX6_init 21 = .ok (.putfield 20, 3) := by decide +kernel
theorem dX6_init_24 : decode cX6_init 24 = .ok (.aload_n 0, 1) := by decide +kernel
theorem dX6_init_25 : decode cX6_init 25 = .ok (.bipush 100, 2) := by decide +kernel
theorem dX6_init_27 : decode cX6_init 27 = .ok (.newarray .int, 2) := by decide +kernel
theorem dX6_init_29 : decode cX6_init 29 = .ok (.putfield 24, 3) := by decide +kernel
theorem dX6_init_32 : decode cX6_init 32 = .ok (.aload_n 0, 1) := by decide +kernel
theorem dX6_init_33 : decode cX6_init 33 = .ok (.bipush 100, 2) := by decide +kernel
theorem dX6_init_35 : decode cX6_init 35 = .ok (.newarray .int, 2) := by decide +kernel
theorem dX6_init_37 : decode cX6_init 37 = .ok (.putfield 28, 3) := by decide +kernel
theorem dX6_init_40 : decode cX6_init 40 = .ok (.aload_n 0, 1) := by decide +kernel
theorem dX6_init_41 : decode cX6_init 41 = .ok (.bipush 100, 2) := by decide +kernel
theorem dX6_init_43 : decode cX6_init 43 = .ok (.newarray .int, 2) := by decide +kernel
theorem dX6_init_45 : decode cX6_init 45 = .ok (.putfield 31, 3) := by decide +kernel
theorem dX6_init_48 : decode cX6_init 48 = .ok (.aload_n 0, 1) := by decide +kernel
theorem dX6_init_49 : decode cX6_init 49 = .ok (.iconst 5, 1) := by decide +kernel
theorem dX6_init_50 : decode cX6_init 50 = .ok (.newarray .int, 2) := by decide +kernel
theorem dX6_init_52 : decode cX6_init 52 = .ok (.putfield 34, 3) := by decide +kernel
theorem dX6_init_55 : decode cX6_init 55 = .ok (.aload_n 0, 1) := by decide +kernel
theorem dX6_init_56 : decode cX6_init 56 = .ok (.iconst 5, 1) := by decide +kernel
theorem dX6_init_57 : decode cX6_init 57 = .ok (.newarray .long, 2) := by decide +kernel
theorem dX6_init_59 : decode cX6_init 59 = .ok (.putfield 37, 3) := by decide +kernel
theorem dX6_init_62 : decode cX6_init 62 = .ok (.aload_n 0, 1) := by decide +kernel
theorem dX6_init_63 : decode cX6_init 63 = .ok (.iconst 5, 1) := by decide +kernel
theorem dX6_init_64 : decode cX6_init 64 = .ok (.newarray .long, 2) := by decide +kernel
theorem dX6_init_66 : decode cX6_init 66 = .ok (.putfield 41, 3) := by decide +kernel
theorem dX6_init_69 : decode cX6_init 69 = .ok (.aload_n 0, 1) := by decide +kernel
theorem dX6_init_70 : decode cX6_init 70 = .ok (.aload_n 1, 1) := by decide +kernel
theorem dX6_init_71 : decode cX6_init 71 = .ok (.putfield 44, 3) := by decide +kernel
theorem dX6_init_74 : decode cX6_init 74 = .ok (.iconst 0, 1) := by decide +kernel
theorem dX6_init_75 : decode cX6_init 75 = .ok (.istore_n 2, 1) := by decide +kernel
theorem dX6_init_76 : decode cX6_init 76 = .ok (.iload_n 2, 1) := by decide +kernel
theorem dX6_init_77 : decode cX6_init 77 = .ok (.bipush 60, 2) := by decide +kernel
theorem dX6_init_79 : decode cX6_init 79 = .ok (.if_icmp .ge 22, 3) := by decide +kernel
theorem dX6_init_82 : decode cX6_init 82 = .ok (.aload_n 0, 1) := by decide +kernel
theorem dX6_init_83 : decode cX6_init 83 = .ok (.getfield 20, 3) := by decide +kernel
theorem dX6_init_86 : decode cX6_init 86 = .ok (.iload_n 2, 1) := by decide +kernel
theorem dX6_init_87 : decode cX6_init 87 = .ok (.new 18, 3) := by decide +kernel
theorem dX6_init_90 : decode cX6_init 90 = .ok (.dup, 1) := by decide +kernel
theorem dX6_init_91 : decode cX6_init 91 = .ok (.invokespecial 48, 3) := by decide +kernel
theorem dX6_init_94 : decode cX6_init 94 = .ok (.aastore, 1) := by decide +kernel
theorem dX6_init_95 : decode cX6_init 95 = .ok (.iinc 2 1, 3) := by decide +kernel
theorem dX6_init_98 : decode cX6_init 98 = .ok (.goto (-22), 3) := by decide +kernel
theorem dX6_init_101 : decode cX6_init 101 = .ok (.return_, 1) := by decide +kernel
theorem dX6_read_0 : decode cX6_read 0 = .ok (.aload_n 0, 1) := by decide +kernel
theorem dX6_read_1 : decode cX6_read 1 = .ok (.getfield 12, 3) := by decide +kernel
theorem dX6_read_4 : decode cX6_read 4 = .ok (.aload_n 1, 1) := by decide +kernel
theorem dX6_read_5 : decode cX6_read 5 = .ok (.iload_n 2, 1) := by decide +kernel
theorem dX6_read_6 : decode cX6_read 6 = .ok (.invokevirtual 49, 3) := by decide +kernel
theorem dX6_read_9 : decode cX6_read 9 = .ok (.aload_n 0, 1) := by decide +kernel
theorem dX6_read_10 : decode cX6_read 10 = .ok (.iconst 0, 1) := by decide +kernel
theorem dX6_read_11 : decode cX6_read 11 = .ok (.putfield 53, 3) := by decide +kernel
theorem dX6_read_14 : decode cX6_read 14 = .ok (.aload_n 0, 1) := by decide +kernel
theorem dX6_read_15 : decode cX6_read 15 = .ok (.iconst 0, 1) := by decide +kernel
theorem dX6_read_16 : decode cX6_read 16 = .ok (.putfield 57, 3) := by decide +kernel
theorem dX6_read_19 : decode cX6_read 19 = .ok (.aload_n 0, 1) := by decide +kernel
theorem dX6_read_20 : decode cX6_read 20 = .ok (.iconst 0, 1) := by decide +kernel
theorem dX6_read_21 : decode cX6_read 21 = .ok (.putfield 60, 3) := by decide +kernel
theorem dX6_read_24 : decode cX6_read 24 = .ok (.aload_n 0, 1) := by decide +kernel
theorem dX6_read_25 : decode cX6_read 25 = .ok (.iconst 0, 1) := by decide +kernel
theorem dX6_read_26 : decode cX6_read 26 = .ok (.putfield 63, 3) := by decide +kernel
theorem dX6_read_29 : decode cX6_read 29 = .ok (.aload_n 0, 1) := by decide +kernel
theorem dX6_read_30 : decode cX6_read 30 = .ok (.iconst 0, 1) := by decide +kernel
theorem dX6_read_31 : decode cX6_read 31 = .ok (.putfield 66, 3) := by decide +kernel
theorem dX6_read_34 : decode cX6_read 34 = .ok (.aload_n 0, 1) := by decide +kernel
theorem dX6_read_35 : decode cX6_read 35 = .ok (.getfield 37, 3) := by decide +kernel
theorem dX6_read_38 : decode cX6_read 38 = .ok (.lconst 0, 1) := by decide +kernel
theorem dX6_read_39 : decode cX6_read 39 = .ok (.invokestatic 69, 3) := by decide +kernel
theorem dX6_read_42 : decode cX6_read 42 = .ok (.aload_n 0, 1) := by decide +kernel
theorem dX6_read_43 : decode cX6_read 43 = .ok (.getfield 41, 3) := by decide +kernel
theorem dX6_read_46 : decode cX6_read 46 = .ok (.lconst 0, 1) := by decide +kernel
theorem dX6_read_47 : decode cX6_read 47 = .ok (.invokestatic 69, 3) := by decide +kernel
theorem dX6_read_50 : decode cX6_read 50 = .ok (.iconst 0, 1) := by decide +kernel
theorem dX6_read_51 : decode cX6_read 51 = .ok (.istore_n 3, 1) := by decide +kernel
theorem dX6_read_52 : decode cX6_read 52 = .ok (.iload_n 3, 1) := by decide +kernel
theorem dX6_read_53 : decode cX6_read 53 = .ok (.sipush 400, 3) := by decide +kernel
theorem dX6_read_56 : decode cX6_read 56 = .ok (.if_icmp .gt 64, 3) := by decide +kernel
theorem dX6_read_59 : decode cX6_read 59 = .ok (.aload_n 0, 1) := by decide +kernel
theorem dX6_read_60 : decode cX6_read 60 = .ok (.getfield 12, 3) := by decide +kernel
theorem dX6_read_63 : decode cX6_read 63 = .ok (.getfield 75, 3) := by decide +kernel
theorem dX6_read_66 : decode cX6_read 66 = .ok (.ifCond .ne 54, 3) := by decide +kernel
theorem dX6_read_69 : decode cX6_read 69 = .ok (.aload_n 0, 1) := by decide +kernel
theorem dX6_read_70 : decode cX6_read 70 = .ok (.getfield 12, 3) := by decide +kernel
theorem dX6_read_73 : decode cX6_read 73 = .ok (.invokevirtual 78, 3) := by decide +kernel
theorem dX6_read_76 : decode cX6_read 76 = .ok (.iconst (-1), 1) := by decide +kernel
theorem dX6_read_77 : decode cX6_read 77 = .ok (.if_icmp .eq 43, 3) := by decide +kernel
theorem dX6_read_80 : decode cX6_read 80 = .ok (.aload_n 0, 1) := by decide +kernel
theorem dX6_read_81 : decode cX6_read 81 = .ok (.getfield 66, 3) := by decide +kernel
theorem dX6_read_84 : decode cX6_read 84 = .ok (.ifCond .le 22, 3) := by decide +kernel
theorem dX6_read_87 : decode cX6_read 87 = .ok (.aload_n 0, 1) := by decide +kernel
theorem dX6_read_88 : decode cX6_read 88 = .ok (.getfield 12, 3) := by decide +kernel
theorem dX6_read_91 : decode cX6_read 91 = .ok (.bipush 93, 2) := by decide +kernel
theorem dX6_read_93 : decode cX6_read 93 = .ok (.invokevirtual 82, 3) := by decide +kernel
theorem dX6_read_96 : decode cX6_read 96 = .ok (.ifCond .eq 10, 3) := by decide +kernel
theorem dX6_read_99 : decode cX6_read 99 = .ok (.aload_n 0, 1) := by decide +kernel
theorem dX6_read_100 : decode cX6_read 100 = .ok (.invokevirtual 86, 3) := by decide +kernel
theorem dX6_read_103 : decode cX6_read 103 = .ok (.goto 11, 3) := by decide +kernel
theorem dX6_read_106 : decode cX6_read 106 = .ok (.aload_n 0, 1) := by decide +kernel
theorem dX6_read_107 : decode cX6_read 107 = .ok (.aload_n 0, 1) := by decide +kernel
theorem dX6_read_108 : decode cX6_read 108 = .ok (.invokevirtual 89, 3) := by decide +kernel
theorem dX6_read_111 : decode cX6_read 111 = .ok (.invokevirtual 93, 3) := by decide +kernel
theorem dX6_read_114 : decode cX6_read 114 = .ok (.iinc 3 1, 3) := by decide +kernel
theorem dX6_read_117 : decode cX6_read 117 = .ok (.goto (-65), 3) := by decide +kernel
theorem dX6_read_120 : decode cX6_read 120 = .ok (.aload_n 0, 1) := by decide +kernel
theorem dX6_read_121 : decode cX6_read 121 = .ok (.getfield 66, 3) := by decide +kernel
theorem dX6_read_124 : decode cX6_read 124 = .ok (.ifCond .le 18, 3) := by decide +kernel
theorem dX6_read_127 : decode cX6_read 127 = .ok (.aload_n 0, 1) := by decide +kernel
theorem dX6_read_128 : decode cX6_read 128 = .ok (.getfield 12, 3) := by decide +kernel
theorem dX6_read_131 : decode cX6_read 131 = .ok (.iconst 1, 1) := by decide +kernel
theorem dX6_read_132 : decode cX6_read 132 = .ok (.aload_n 0, 1) := by decide +kernel
theorem dX6_read_133 : decode cX6_read 133 = .ok (.getfield 12, 3) := by decide +kernel
theorem dX6_read_136 : decode cX6_read 136 = .ok (.getfield 97, 3) := by decide +kernel
theorem dX6_read_139 : decode cX6_read 139 = .ok (.invokevirtual 100, 3) := by decide +kernel
theorem dX6_read_142 : decode cX6_read 142 = .ok (.aload_n 0, 1) := by decide +kernel
theorem dX6_read_143 : decode cX6_read 143 = .ok (.getfield 37, 3) := by decide +kernel
theorem dX6_read_146 : decode cX6_read 146 = .ok (.iconst 0, 1) := by decide +kernel
theorem dX6_read_147 : decode cX6_read 147 = .ok (.laload, 1) := by decide +kernel
theorem dX6_read_148 : decode cX6_read 148 = .ok (.lconst 1, 1) := by decide +kernel
theorem dX6_read_149 : decode cX6_read 149 = .ok (.lcmp, 1) := by decide +kernel
theorem dX6_read_150 : decode cX6_read 150 = .ok (.ifCond .lt 29, 3) := by decide +kernel
theorem dX6_read_153 : decode cX6_read 153 = .ok (.aload_n 0, 1) := by decide +kernel
theorem dX6_read_154 : decode cX6_read 154 = .ok (.getfield 37, 3) := by decide +kernel
theorem dX6_read_157 : decode cX6_read 157 = .ok (.iconst 0, 1) := by decide +kernel
theorem dX6_read_158 : decode cX6_read 158 = .ok (.laload, 1) := by decide +kernel
theorem dX6_read_159 : decode cX6_read 159 = .ok (.ldc2_w 104, 3) := by decide +kernel
theorem dX6_read_162 : decode cX6_read 162 = .ok (.lcmp, 1) := by decide +kernel
theorem dX6_read_163 : decode cX6_read 163 = .ok (.ifCond .gt 16, 3) := by decide +kernel
theorem dX6_read_166 : decode cX6_read 166 = .ok (.aload_n 0, 1) := by decide +kernel
theorem dX6_read_167 : decode cX6_read 167 = .ok (.getfield 41, 3) := by decide +kernel
theorem dX6_read_170 : decode cX6_read 170 = .ok (.iconst 0, 1) := by decide +kernel
theorem dX6_read_171 : decode cX6_read 171 = .ok (.laload, 1) := by decide +kernel
theorem dX6_read_172 : decode cX6_read 172 = .ok (.ldc2_w 106, 3) := by decide +kernel
theorem dX6_read_175 : decode cX6_read 175 = .ok (.lcmp, 1) := by decide +kernel
theorem dX6_read_176 : decode cX6_read 176 = .ok (.ifCond .le 18, 3) := by decide +kernel
theorem dX6_read_179 : decode cX6_read 179 = .ok (.aload_n 0, 1) := by decide +kernel
theorem dX6_read_180 : decode cX6_read 180 = .ok (.getfield 12, 3) := by decide +kernel
theorem dX6_read_183 : decode cX6_read 183 = .ok (.iconst 4, 1) := by decide +kernel
theorem dX6_read_184 : decode cX6_read 184 = .ok (.aload_n 0, 1) := by decide +kernel
theorem dX6_read_185 : decode cX6_read 185 = .ok (.getfield 12, 3) := by decide +kernel
theorem dX6_read_188 : decode cX6_read 188 = .ok (.getfield 97, 3) := by decide +kernel
theorem dX6_read_191 : decode cX6_read 191 = .ok (.invokevirtual 100, 3) := by decide +kernel
theorem dX6_read_194 : decode cX6_read 194 = .ok (.return_, 1) := by decide +kernel
theorem dX8_init_0 : decode cX8_init 0 = .ok (.aload_n 0, 1) := by decide +kernel
theorem dX8_init_1 : decode cX8_init 1 = .ok (.invokespecial 3, 3) := by decide +kernel
theorem dX8_init_4 : decode cX8_init 4 = .ok (.aload_n 0, 1) := by decide +kernel
theorem dX8_init_5 : decode cX8_init 5 = .ok (.bipush 8, 2) := by decide +kernel
theorem dX8_init_7 : decode cX8_init 7 = .ok (.anewarray 9, 3) := by decide +kernel
theorem dX8_init_10 : decode cX8_init 10 = .ok (.putfield 11, 3) := by decide +kernel
theorem dX8_init_13 : decode cX8_init 13 = .ok (.aload_n 0, 1) := by decide +kernel
theorem dX8_init_14 : decode cX8_init 14 = .ok (.bipush 12, 2) := by decide +kernel
theorem dX8_init_16 : decode cX8_init 16 = .ok (.anewarray 17, 3) := by decide +kernel
theorem dX8_init_19 : decode cX8_init 19 = .ok (.putfield 19, 3) := by decide +kernel
theorem dX8_init_22 : decode cX8_init 22 = .ok (.aload_n 0, 1) := by decide +kernel
theorem dX8_init_23 : decode cX8_init 23 = .ok (.bipush 26, 2) := by decide +kernel
theorem dX8_init_25 : decode cX8_init 25 = .ok (.newarray .int, 2) := by decide +kernel
theorem dX8_init_27 : decode cX8_init 27 = .ok (.putfield 23, 3) := by decide +kernel
theorem dX8_init_30 : decode cX8_init 30 = .ok (.aload_n 0, 1) := by decide +kernel
theorem dX8_init_31 : decode cX8_init 31 = .ok (.iconst 3, 1) := by decide +kernel
theorem dX8_init_32 : decode cX8_init 32 = .ok (.newarray .int, 2) := by decide +kernel
theorem dX8_init_34 : decode cX8_init 34 = .ok (.putfield 27, 3) := by decide +kernel
theorem dX8_init_37 : decode cX8_init 37 = .ok (.aload_n 0, 1) := by decide +kernel
theorem dX8_init_38 : decode cX8_init 38 = .ok (.bipush 8, 2) := by decide +kernel
theorem dX8_init_40 : decode cX8_init 40 = .ok (.newarray .int, 2) := by decide +kernel
theorem dX8_init_42 : decode cX8_init 42 = .ok (.putfield 30, 3) := by decide +kernel
theorem dX8_init_45 : decode cX8_init 45 = .ok (.iconst 0, 1) := by decide +kernel
theorem dX8_init_46 : decode cX8_init 46 = .ok (.istore_n 1, 1) := by decide +kernel
theorem dX8_init_47 : decode cX8_init 47 = .ok (.iload_n 1, 1) := by decide +kernel
theorem dX8_init_48 : decode cX8_init 48 = .ok (.bipush 26, 2) := by decide +kernel
theorem dX8_init_50 : decode cX8_init 50 = .ok (.if_icmp .ge 21, 3) := by decide +kernel
theorem dX8_init_53 : decode cX8_init 53 = .ok (.aload_n 0, 1) := by decide +kernel
theorem dX8_init_54 : decode cX8_init 54 = .ok (.getfield 23, 3) := by decide +kernel
theorem dX8_init_57 : decode cX8_init 57 = .ok (.iload_n 1, 1) := by decide +kernel
theorem dX8_init_58 : decode cX8_init 58 = .ok (.iload_n 1, 1) := by decide +kernel
theorem dX8_init_59 : decode cX8_init 59 = .ok (.bipush 9, 2) := by decide +kernel
theorem dX8_init_61 : decode cX8_init 61 = .ok (.irem, 1) := by decide +kernel
theorem dX8_init_62 : decode cX8_init 62 = .ok (.iconst 1, 1) := by decide +kernel
theorem dX8_init_63 : decode cX8_init 63 = .ok (.iadd, 1) := by decide +kernel
theorem dX8_init_64 : decode cX8_init 64 = .ok (.iastore, 1) := by decide +kernel
theorem dX8_init_65 : decode cX8_init 65 = .ok (.iinc 1 1, 3) := by decide +kernel
theorem dX8_init_68 : decode cX8_init 68 = .ok (.goto (-21), 3) := by decide +kernel
theorem dX8_init_71 : decode cX8_init 71 = .ok (.aload_n 0, 1) := by decide +kernel
theorem dX8_init_72 : decode cX8_init 72 = .ok (.getfield 27, 3) := by decide +kernel
theorem dX8_init_75 : decode cX8_init 75 = .ok (.bipush 10, 2) := by decide +kernel
theorem dX8_init_77 : decode cX8_init 77 = .ok (.invokestatic 33, 3) := by decide +kernel
theorem dX8_init_80 : decode cX8_init 80 = .ok (.aload_n 0, 1) := by decide +kernel
theorem dX8_init_81 : decode cX8_init 81 = .ok (.getfield 30, 3) := by decide +kernel
theorem dX8_init_84 : decode cX8_init 84 = .ok (.iconst 1, 1) := by decide +kernel
theorem dX8_init_85 : decode cX8_init 85 = .ok (.invokestatic 33, 3) := by decide +kernel
theorem dX8_init_88 : decode cX8_init 88 = .ok (.return_, 1) := by decide +kernel
theorem dX8_puppetAt_0 : decode cX8_puppetAt 0 = .ok (.iload_n 1, 1) := by decide +kernel
theorem dX8_puppetAt_1 : decode cX8_puppetAt 1 = .ok (.ifCond .lt 21, 3) := by decide +kernel
theorem dX8_puppetAt_4 : decode cX8_puppetAt 4 = .ok (.iload_n 1, 1) := by decide +kernel
theorem dX8_puppetAt_5 : decode cX8_puppetAt 5 = .ok (.aload_n 0, 1) := by decide +kernel
theorem dX8_puppetAt_6 : decode cX8_puppetAt 6 = .ok (.getfield 11, 3) := by decide +kernel
theorem dX8_puppetAt_9 : decode cX8_puppetAt 9 = .ok (.arraylength, 1) := by decide +kernel
theorem dX8_puppetAt_10 : decode cX8_puppetAt 10 = .ok (.if_icmp .ge 12, 3) := by decide +kernel
theorem dX8_puppetAt_13 : decode cX8_puppetAt 13 = .ok (.aload_n 0, 1) := by decide +kernel
theorem dX8_puppetAt_14 : decode cX8_puppetAt 14 = .ok (.getfield 11, 3) := by decide +kernel
theorem dX8_puppetAt_17 : decode cX8_puppetAt 17 = .ok (.iload_n 1, 1) := by decide +kernel
theorem dX8_puppetAt_18 : decode cX8_puppetAt 18 = .ok (.aaload, 1) := by decide +kernel
theorem dX8_puppetAt_19 : decode cX8_puppetAt 19 = .ok (.goto 4, 3) := by decide +kernel
theorem dX8_puppetAt_22 : decode cX8_puppetAt 22 = .ok (.aconst_null, 1) := by decide +kernel
theorem dX8_puppetAt_23 : decode cX8_puppetAt 23 = .ok (.areturn, 1) := by decide +kernel
theorem dX8_addPuppet_0 : decode cX8_addPuppet 0 = .ok (.aload_n 0, 1) := by decide +kernel
theorem dX8_addPuppet_1 : decode cX8_addPuppet 1 = .ok (.getfield 39, 3) := by decide +kernel
theorem dX8_addPuppet_4 : decode cX8_addPuppet 4 = .ok (.istore_n 2, 1) := by decide +kernel
theorem dX8_addPuppet_5 : decode cX8_addPuppet 5 = .ok (.iload_n 2, 1) := by decide +kernel
theorem dX8_addPuppet_6 : decode cX8_addPuppet 6 = .ok (.aload_n 0, 1) := by decide +kernel
theorem dX8_addPuppet_7 : decode cX8_addPuppet 7 = .ok (.getfield 11, 3) := by decide +kernel
theorem dX8_addPuppet_10 : decode cX8_addPuppet 10 = .ok (.arraylength, 1) := by decide +kernel
theorem dX8_addPuppet_11 : decode cX8_addPuppet 11 = .ok (.if_icmp .lt 5, 3) := by decide +kernel
theorem dX8_addPuppet_14 : decode cX8_addPuppet 14 = .ok (.iconst (-1), 1) := by decide +kernel
theorem dX8_addPuppet_15 : decode cX8_addPuppet 15 = .ok (.ireturn, 1) := by decide +kernel
theorem dX8_addPuppet_16 : decode cX8_addPuppet 16 = .ok (.aload_n 0, 1) := by decide +kernel
theorem dX8_addPuppet_17 : decode cX8_addPuppet 17 = .ok (.getfield 11, 3) := by decide +kernel
theorem dX8_addPuppet_20 : decode cX8_addPuppet 20 = .ok (.iload_n 2, 1) := by decide +kernel
theorem dX8_addPuppet_21 : decode cX8_addPuppet 21 = .ok (.aload_n 1, 1) := by decide +kernel
theorem dX8_addPuppet_22 : decode cX8_addPuppet 22 = .ok (.aastore, 1) := by decide +kernel
theorem dX8_addPuppet_23 : decode cX8_addPuppet 23 = .ok (.aload_n 0, 1) := by decide +kernel
theorem dX8_addPuppet_24 : decode cX8_addPuppet 24 = .ok (.dup, 1) := by decide +kernel
theorem dX8_addPuppet_25 : decode cX8_addPuppet 25 = .ok (.getfield 39, 3) := by decide +kernel
theorem dX8_addPuppet_28 : decode cX8_addPuppet 28 = .ok (.iconst 1, 1) := by decide +kernel
theorem dX8_addPuppet_29 : decode cX8_addPuppet 29 = .ok (.iadd, 1) := by decide +kernel
theorem dX8_addPuppet_30 : decode cX8_addPuppet 30 = .ok (.putfield 39, 3) := by decide +kernel
theorem dX8_addPuppet_33 : decode cX8_addPuppet 33 = .ok (.iload_n 2, 1) := by decide +kernel
theorem dX8_addPuppet_34 : decode cX8_addPuppet 34 = .ok (.ireturn, 1) := by decide +kernel
theorem dX8_shotAt_0 : decode cX8_shotAt 0 = .ok (.iload_n 1, 1) := by decide +kernel
theorem dX8_shotAt_1 : decode cX8_shotAt 1 = .ok (.ifCond .lt 21, 3) := by decide +kernel
theorem dX8_shotAt_4 : decode cX8_shotAt 4 = .ok (.iload_n 1, 1) := by decide +kernel
theorem dX8_shotAt_5 : decode cX8_shotAt 5 = .ok (.aload_n 0, 1) := by decide +kernel
theorem dX8_shotAt_6 : decode cX8_shotAt 6 = .ok (.getfield 19, 3) := by decide +kernel
theorem dX8_shotAt_9 : decode cX8_shotAt 9 = .ok (.arraylength, 1) := by decide +kernel
theorem dX8_shotAt_10 : decode cX8_shotAt 10 = .ok (.if_icmp .ge 12, 3) := by decide +kernel
theorem dX8_shotAt_13 : decode cX8_shotAt 13 = .ok (.aload_n 0, 1) := by decide +kernel
theorem dX8_shotAt_14 : decode cX8_shotAt 14 = .ok (.getfield 19, 3) := by decide +kernel
theorem dX8_shotAt_17 : decode cX8_shotAt 17 = .ok (.iload_n 1, 1) := by decide +kernel
theorem dX8_shotAt_18 : decode cX8_shotAt 18 = .ok (.aaload, 1) := by decide +kernel
theorem dX8_shotAt_19 : decode cX8_shotAt 19 = .ok (.goto 4, 3) := by decide +kernel
theorem dX8_shotAt_22 : decode cX8_shotAt 22 = .ok (.aconst_null, 1) := by decide +kernel
theorem dX8_shotAt_23 : decode cX8_shotAt 23 = .ok (.areturn, 1) := by decide +kernel
theorem dX9_init_0 : decode cX9_init 0 = .ok (.aload_n 0, 1) := by decide +kernel
theorem dX9_init_1 : decode cX9_init 1 = .ok (.invokespecial 3, 3) := by decide +kernel
theorem dX9_init_4 : decode cX9_init 4 = .ok (.aload_n 0, 1) := by decide +kernel
theorem dX9_init_5 : decode cX9_init 5 = .ok (.bipush 100, 2) := by decide +kernel
theorem dX9_init_7 : decode cX9_init 7 = .ok (.newarray .int, 2) := by decide +kernel
theorem dX9_init_9 : decode cX9_init 9 = .ok (.putfield 11, 3) := by decide +kernel
theorem dX9_init_12 : decode cX9_init 12 = .ok (.aload_n 0, 1) := by decide +kernel
theorem dX9_init_13 : decode cX9_init 13 = .ok (.bipush 100, 2) := by decide +kernel
theorem dX9_init_15 : decode cX9_init 15 = .ok (.newarray .int, 2) := by decide +kernel
theorem dX9_init_17 : decode cX9_init 17 = .ok (.putfield 17, 3) := by decide +kernel
theorem dX9_init_20 : decode cX9_init 20 = .ok (.aload_n 0, 1) := by decide +kernel
theorem dX9_init_21 : decode cX9_init 21 = .ok (.iconst 3, 1) := by decide +kernel
theorem dX9_init_22 : decode cX9_init 22 = .ok (.newarray .int, 2) := by decide +kernel
theorem dX9_init_24 : decode cX9_init 24 = .ok (.putfield 20, 3) := by decide +kernel
theorem dX9_init_27 : decode cX9_init 27 = .ok (.aload_n 0, 1) := by decide +kernel
theorem dX9_init_28 : decode cX9_init 28 = .ok (.iconst 3, 1) := by decide +kernel
theorem dX9_init_29 : decode cX9_init 29 = .ok (.newarray .int, 2) := by decide +kernel
theorem dX9_init_31 : decode cX9_init 31 = .ok (.putfield 23, 3) := by decide +kernel
theorem dX9_init_34 : decode cX9_init 34 = .ok (.aload_n 0, 1) := by decide +kernel
theorem dX9_init_35 : decode cX9_init 35 = .ok (.iconst 3, 1) := by decide +kernel
theorem dX9_init_36 : decode cX9_init 36 = .ok (.newarray .int, 2) := by decide +kernel
theorem dX9_init_38 : decode cX9_init 38 = .ok (.putfield 26, 3) := by decide +kernel
theorem dX9_init_41 : decode cX9_init 41 = .ok (.aload_n 0, 1) := by decide +kernel
theorem dX9_init_42 : decode cX9_init 42 = .ok (.iconst 3, 1) := by decide +kernel
theorem dX9_init_43 : decode cX9_init 43 = .ok (.newarray .int, 2) := by decide +kernel
theorem dX9_init_45 : decode cX9_init 45 = .ok (.putfield 29, 3) := by decide +kernel
theorem dX9_init_48 : decode cX9_init 48 = .ok (.aload_n 0, 1) := by decide +kernel
theorem dX9_init_49 : decode cX9_init 49 = .ok (.iconst 3, 1) := by decide +kernel
theorem dX9_init_50 : decode cX9_init 50 = .ok (.newarray .int, 2) := by decide +kernel
theorem dX9_init_52 : decode cX9_init 52 = .ok (.putfield 32, 3) := by decide +kernel
theorem dX9_init_55 : decode cX9_init 55 = .ok (.aload_n 0, 1) := by decide +kernel
theorem dX9_init_56 : decode cX9_init 56 = .ok (.iconst 3, 1) := by decide +kernel
theorem dX9_init_57 : decode cX9_init 57 = .ok (.newarray .int, 2) := by decide +kernel
theorem dX9_init_59 : decode cX9_init 59 = .ok (.putfield 35, 3) := by decide +kernel
theorem dX9_init_62 : decode cX9_init 62 = .ok (.aload_n 0, 1) := by decide +kernel
theorem dX9_init_63 : decode cX9_init 63 = .ok (.aload_n 1, 1) := by decide +kernel
theorem dX9_init_64 : decode cX9_init 64 = .ok (.putfield 38, 3) := by decide +kernel
theorem dX9_init_67 : decode cX9_init 67 = .ok (.return_, 1) := by decide +kernel
theorem dX10_init_0 : decode cX10_init 0 = .ok (.aload_n 0, 1) := by decide +kernel
theorem dX10_init_1 : decode cX10_init 1 = .ok (.invokespecial 3, 3) := by decide +kernel
theorem dX10_init_4 : decode cX10_init 4 = .ok (.aload_n 0, 1) := by decide +kernel
theorem dX10_init_5 : decode cX10_init 5 = .ok (.sipush 400, 3) := by decide +kernel
theorem dX10_init_8 : decode cX10_init 8 = .ok (.newarray .byte, 2) := by decide +kernel
theorem dX10_init_10 : decode cX10_init 10 = .ok (.putfield 9, 3) := by decide +kernel
theorem dX10_init_13 : decode cX10_init 13 = .ok (.return_, 1) := by decide +kernel
theorem dX10_load_0 : decode cX10_load 0 = .ok (.aload_n 0, 1) := by decide +kernel
theorem dX10_load_1 : decode cX10_load 1 = .ok (.iconst 0, 1) := by decide +kernel
theorem dX10_load_2 : decode cX10_load 2 = .ok (.iload_n 2, 1) := by decide +kernel
theorem dX10_load_3 : decode cX10_load 3 = .ok (.aload_n 1, 1) := by decide +kernel
theorem dX10_load_4 : decode cX10_load 4 = .ok (.arraylength, 1) := by decide +kernel
theorem dX10_load_5 : decode cX10_load 5 = .ok (.aload_n 0, 1) := by decide +kernel
theorem dX10_load_6 : decode cX10_load 6 = .ok (.getfield 9, 3) := by decide +kernel
theorem dX10_load_9 : decode cX10_load 9 = .ok (.arraylength, 1) := by decide +kernel
theorem dX10_load_10 : decode cX10_load 10 = .ok (.invokestatic 15, 3) := by decide +kernel
theorem dX10_load_13 : decode cX10_load 13 = .ok (.invokestatic 15, 3) := by decide +kernel
theorem dX10_load_16 : decode cX10_load 16 = .ok (.invokestatic 21, 3) := by decide +kernel
theorem dX10_load_19 : decode cX10_load 19 = .ok (.putfield 24, 3) := by decide +kernel
theorem dX10_load_22 : decode cX10_load 22 = .ok (.aload_n 1, 1) := by decide +kernel
theorem dX10_load_23 : decode cX10_load 23 = .ok (.iconst 0, 1) := by decide +kernel
theorem dX10_load_24 : decode cX10_load 24 = .ok (.aload_n 0, 1) := by decide +kernel
theorem dX10_load_25 : decode cX10_load 25 = .ok (.getfield 9, 3) := by decide +kernel
theorem dX10_load_28 : decode cX10_load 28 = .ok (.iconst 0, 1) := by decide +kernel
theorem dX10_load_29 : decode cX10_load 29 = .ok (.aload_n 0, 1) := by decide +kernel
theorem dX10_load_30 : decode cX10_load 30 = .ok (.getfield 24, 3) := by decide +kernel
theorem dX10_load_33 : decode cX10_load 33 = .ok (.invokestatic 28, 3) := by decide +kernel
theorem dX10_load_36 : decode cX10_load 36 = .ok (.aload_n 0, 1) := by decide +kernel
theorem dX10_load_37 : decode cX10_load 37 = .ok (.iconst 0, 1) := by decide +kernel
theorem dX10_load_38 : decode cX10_load 38 = .ok (.putfield 34, 3) := by decide +kernel
theorem dX10_load_41 : decode cX10_load 41 = .ok (.aload_n 0, 1) := by decide +kernel
theorem dX10_load_42 : decode cX10_load 42 = .ok (.iconst 0, 1) := by decide +kernel
theorem dX10_load_43 : decode cX10_load 43 = .ok (.putfield 37, 3) := by decide +kernel
theorem dX10_load_46 : decode cX10_load 46 = .ok (.aload_n 0, 1) := by decide +kernel
theorem dX10_load_47 : decode cX10_load 47 = .ok (.iconst (-1), 1) := by decide +kernel
theorem dX10_load_48 : decode cX10_load 48 = .ok (.putfield 40, 3) := by decide +kernel
theorem dX10_load_51 : decode cX10_load 51 = .ok (.return_, 1) := by decide +kernel
theorem dX10_fail_0 : decode cX10_fail 0 = .ok (.aload_n 0, 1) := by decide +kernel
theorem dX10_fail_1 : decode cX10_fail 1 = .ok (.getfield 37, 3) := by decide +kernel
theorem dX10_fail_4 : decode cX10_fail 4 = .ok (.ifCond .ne 13, 3) := by decide +kernel
theorem dX10_fail_7 : decode cX10_fail 7 = .ok (.aload_n 0, 1) := by decide +kernel
theorem dX10_fail_8 : decode cX10_fail 8 = .ok (.iload_n 1, 1) := by decide +kernel
theorem dX10_fail_9 : decode cX10_fail 9 = .ok (.putfield 37, 3) := by decide +kernel
theorem dX10_fail_12 : decode cX10_fail 12 = .ok (.aload_n 0, 1) := by decide +kernel
theorem dX10_fail_13 : decode cX10_fail 13 = .ok (.iload_n 2, 1) := by decide +kernel
theorem dX10_fail_14 : decode cX10_fail 14 = .ok (.putfield 40, 3) := by decide +kernel
theorem dX10_fail_17 : decode cX10_fail 17 = .ok (.return_, 1) := by decide +kernel
theorem dX10_peek_0 : decode cX10_peek 0 = .ok (.aload_n 0, 1) := by decide +kernel
theorem dX10_peek_1 : decode cX10_peek 1 = .ok (.getfield 34, 3) := by decide +kernel
theorem dX10_peek_4 : decode cX10_peek 4 = .ok (.aload_n 0, 1) := by decide +kernel
theorem dX10_peek_5 : decode cX10_peek 5 = .ok (.getfield 24, 3) := by decide +kernel
theorem dX10_peek_8 : decode cX10_peek 8 = .ok (.if_icmp .ge 30, 3) := by decide +kernel
theorem dX10_peek_11 : decode cX10_peek 11 = .ok (.aload_n 0, 1) := by decide +kernel
theorem dX10_peek_12 : decode cX10_peek 12 = .ok (.getfield 9, 3) := by decide +kernel
theorem dX10_peek_15 : decode cX10_peek 15 = .ok (.aload_n 0, 1) := by decide +kernel
theorem dX10_peek_16 : decode cX10_peek 16 = .ok (.getfield 34, 3) := by decide +kernel
theorem dX10_peek_19 : decode cX10_peek 19 = .ok (.baload, 1) := by decide +kernel
theorem dX10_peek_20 : decode cX10_peek 20 = .ok (.bipush 32, 2) := by decide +kernel
theorem dX10_peek_22 : decode cX10_peek 22 = .ok (.if_icmp .ne 16, 3) := by decide +kernel
theorem dX10_peek_25 : decode cX10_peek 25 = .ok (.aload_n 0, 1) := by decide +kernel
theorem dX10_peek_26 : decode cX10_peek 26 = .ok (.dup, 1) := by decide +kernel
theorem dX10_peek_27 : decode cX10_peek 27 = .ok (.getfield 34, 3) := by decide +kernel
theorem dX10_peek_30 : decode cX10_peek 30 = .ok (.iconst 1, 1) := by decide +kernel
theorem dX10_peek_31 : decode cX10_peek 31 = .ok (.iadd, 1) := by decide +kernel
theorem dX10_peek_32 : decode cX10_peek 32 = .ok (.putfield 34, 3) := by decide +kernel
theorem dX10_peek_35 : decode cX10_peek 35 = .ok (.goto (-35), 3) := by decide +kernel
theorem dX10_peek_38 : decode cX10_peek 38 = .ok (.aload_n 0, 1) := by decide +kernel
theorem dX10_peek_39 : decode cX10_peek 39 = .ok (.getfield 34, 3) := by decide +kernel
theorem dX10_peek_42 : decode cX10_peek 42 = .ok (.aload_n 0, 1) := by decide +kernel
theorem dX10_peek_43 : decode cX10_peek 43 = .ok (.getfield 24, 3) := by decide +kernel
theorem dX10_peek_46 : decode cX10_peek 46 = .ok (.if_icmp .ge 19, 3) := by decide +kernel
theorem dX10_peek_49 : decode cX10_peek 49 = .ok (.aload_n 0, 1) := by decide +kernel
theorem dX10_peek_50 : decode cX10_peek 50 = .ok (.getfield 9, 3) := by decide +kernel
theorem dX10_peek_53 : decode cX10_peek 53 = .ok (.aload_n 0, 1) := by decide +kernel
theorem dX10_peek_54 : decode cX10_peek 54 = .ok (.getfield 34, 3) := by decide +kernel
theorem dX10_peek_57 : decode cX10_peek 57 = .ok (.baload, 1) := by decide +kernel
theorem dX10_peek_58 : decode cX10_peek 58 = .ok (.sipush 255, 3) := by decide +kernel
theorem dX10_peek_61 : decode cX10_peek 61 = .ok (.iand, 1) := by decide +kernel
theorem dX10_peek_62 : decode cX10_peek 62 = .ok (.goto 4, 3) := by decide +kernel
theorem dX10_peek_65 : decode cX10_peek 65 = .ok (.iconst (-1), 1) := by decide +kernel
theorem dX10_peek_66 : decode cX10_peek 66 = .ok (.ireturn, 1) := by decide +kernel
theorem dX11_init_0 : decode cX11_init 0 = .ok (.aload_n 0, 1) := by decide +kernel
theorem dX11_init_1 : decode cX11_init 1 = .ok (.invokespecial 1, 3) := by decide +kernel
theorem dX11_init_4 : decode cX11_init 4 = .ok (.aload_n 0, 1) := by decide +kernel
theorem dX11_init_5 : decode cX11_init 5 = .ok (.new 7, 3) := by decide +kernel
theorem dX11_init_8 : decode cX11_init 8 = .ok (.dup, 1) := by decide +kernel
theorem dX11_init_9 : decode cX11_init 9 = .ok (.invokespecial 9, 3) := by decide +kernel
theorem dX11_init_12 : decode cX11_init 12 = .ok (.putfield 10, 3) := by decide +kernel
theorem dX11_init_15 : decode cX11_init 15 = .ok (.aload_n 0, 1) := by decide +kernel
theorem dX11_init_16 : decode cX11_init 16 = .ok (.new 16, 3) := by decide +kernel
theorem dX11_init_19 : decode cX11_init 19 = .ok (.dup, 1) := by decide +kernel
theorem dX11_init_20 : decode cX11_init 20 = .ok (.aload_n 0, 1) := by decide +kernel
theorem dX11_init_21 : decode cX11_init 21 = .ok (.getfield 10, 3) := by decide +kernel
theorem dX11_init_24 : decode cX11_init 24 = .ok (.invokespecial 18, 3) := by decide +kernel
theorem dX11_init_27 : decode cX11_init 27 = .ok (.putfield 21, 3) := by decide +kernel
theorem dX11_init_30 : decode cX11_init 30 = .ok (.aload_n 0, 1) := by decide +kernel
theorem dX11_init_31 : decode cX11_init 31 = .ok (.new 25, 3) := by decide +kernel
theorem dX11_init_34 : decode cX11_init 34 = .ok (.dup, 1) := by decide +kernel
theorem dX11_init_35 : decode cX11_init 35 = .ok (.aload_n 0, 1) := by decide +kernel
theorem dX11_init_36 : decode cX11_init 36 = .ok (.getfield 21, 3) := by decide +kernel
theorem dX11_init_39 : decode cX11_init 39 = .ok (.invokespecial 27, 3) := by decide +kernel
theorem dX11_init_42 : decode cX11_init 42 = .ok (.putfield 30, 3) := by decide +kernel
theorem dX11_init_45 : decode cX11_init 45 = .ok (.aload_n 0, 1) := by decide +kernel
theorem dX11_init_46 : decode cX11_init 46 = .ok (.new 34, 3) := by decide +kernel
theorem dX11_init_49 : decode cX11_init 49 = .ok (.dup, 1) := by decide +kernel
theorem dX11_init_50 : decode cX11_init 50 = .ok (.aload_n 0, 1) := by decide +kernel
theorem dX11_init_51 : decode cX11_init 51 = .ok (.getfield 10, 3) := by decide +kernel
theorem dX11_init_54 : decode cX11_init 54 = .ok (.invokespecial 36, 3) := by decide +kernel
theorem dX11_init_57 : decode cX11_init 57 = .ok (.putfield 37, 3) := by decide +kernel
theorem dX11_init_60 : decode cX11_init 60 = .ok (.aload_n 0, 1) := by decide +kernel
theorem dX11_init_61 : decode cX11_init 61 = .ok (.new 41, 3) := by decide +kernel
theorem dX11_init_64 : decode cX11_init 64 = .ok (.dup, 1) := by decide +kernel
theorem dX11_init_65 : decode cX11_init 65 = .ok (.aload_n 0, 1) := by decide +kernel
theorem dX11_init_66 : decode cX11_init 66 = .ok (.getfield 10, 3) := by decide +kernel
theorem dX11_init_69 : decode cX11_init 69 = .ok (.invokespecial 43, 3) := by decide +kernel
theorem dX11_init_72 : decode cX11_init 72 = .ok (.putfield 44, 3) := by decide +kernel
theorem dX11_init_75 : decode cX11_init 75 = .ok (.aload_n 0, 1) := by decide +kernel
theorem dX11_init_76 : decode cX11_init 76 = .ok (.new 48, 3) := by decide +kernel
theorem dX11_init_79 : decode cX11_init 79 = .ok (.dup, 1) := by decide +kernel
theorem dX11_init_80 : decode cX11_init 80 = .ok (.invokespecial 50, 3) := by decide +kernel
theorem dX11_init_83 : decode cX11_init 83 = .ok (.putfield 51, 3) := by decide +kernel
theorem dX11_init_86 : decode cX11_init 86 = .ok (.aload_n 0, 1) := by decide +kernel
theorem dX11_init_87 : decode cX11_init 87 = .ok (.new 55, 3) := by decide +kernel
theorem dX11_init_90 : decode cX11_init 90 = .ok (.dup, 1) := by decide +kernel
theorem dX11_init_91 : decode cX11_init 91 = .ok (.aload_n 0, 1) := by decide +kernel
theorem dX11_init_92 : decode cX11_init 92 = .ok (.getfield 10, 3) := by decide +kernel
theorem dX11_init_95 : decode cX11_init 95 = .ok (.iconst 1, 1) := by decide +kernel
theorem dX11_init_96 : decode cX11_init 96 = .ok (.invokespecial 57, 3) := by decide +kernel
theorem dX11_init_99 : decode cX11_init 99 = .ok (.putfield 60, 3) := by decide +kernel
theorem dX11_init_102 : decode cX11_init 102 = .ok (.aload_n 0, 1) := by decide +kernel
theorem dX11_init_103 : decode cX11_init 103 = .ok (.new 55, 3) := by decide +kernel
theorem dX11_init_106 : decode cX11_init 106 = .ok (.dup, 1) := by decide +kernel
theorem dX11_init_107 : decode cX11_init 107 = .ok (.aload_n 0, 1) := by decide +kernel
theorem dX11_init_108 : decode cX11_init 108 = .ok (.getfield 10, 3) := by decide +kernel
theorem dX11_init_111 : decode cX11_init 111 = .ok (.iconst 0, 1) := by decide +kernel
theorem dX11_init_112 : decode cX11_init 112 = .ok (.invokespecial 57, 3) := by decide +kernel
theorem dX11_init_115 : decode cX11_init 115 = .ok (.putfield 64, 3) := by decide +kernel
theorem dX11_init_118 : decode cX11_init 118 = .ok (.aload_n 0, 1) := by decide +kernel
theorem dX11_init_119 : decode cX11_init 119 = .ok (.sipush 400, 3) := by decide +kernel
theorem dX11_init_122 : decode cX11_init 122 = .ok (.newarray .byte, 2) := by decide +kernel
theorem dX11_init_124 : decode cX11_init 124 = .ok (.putfield 67, 3) := by decide +kernel
theorem dX11_init_127 : decode cX11_init 127 = .ok (.aload_n 0, 1) := by decide +kernel
theorem dX11_init_128 : decode cX11_init 128 = .ok (.iconst (-1), 1) := by decide +kernel
theorem dX11_init_129 : decode cX11_init 129 = .ok (.putfield 71, 3) := by decide +kernel
theorem dX11_init_132 : decode cX11_init 132 = .ok (.return_, 1) := by decide +kernel
theorem dX11_puppet_0 : decode cX11_puppet 0 = .ok (.aload_n 0, 1) := by decide +kernel
theorem dX11_puppet_1 : decode cX11_puppet 1 = .ok (.getfield 10, 3) := by decide +kernel
theorem dX11_puppet_4 : decode cX11_puppet 4 = .ok (.getfield 75, 3) := by decide +kernel
theorem dX11_puppet_7 : decode cX11_puppet 7 = .ok (.bipush 8, 2) := by decide +kernel
theorem dX11_puppet_9 : decode cX11_puppet 9 = .ok (.if_icmp .lt 5, 3) := by decide +kernel
theorem dX11_puppet_12 : decode cX11_puppet 12 = .ok (.iconst (-1), 1) := by decide +kernel
theorem dX11_puppet_13 : decode cX11_puppet 13 = .ok (.ireturn, 1) := by decide +kernel
theorem dX11_puppet_14 : decode cX11_puppet 14 = .ok (.aload_n 0, 1) := by decide +kernel
theorem dX11_puppet_15 : decode cX11_puppet 15 = .ok (.getfield 10, 3) := by decide +kernel
theorem dX11_puppet_18 : decode cX11_puppet 18 = .ok (.new 78, 3) := by decide +kernel
theorem dX11_puppet_21 : decode cX11_puppet 21 = .ok (.dup, 1) := by decide +kernel
theorem dX11_puppet_22 : decode cX11_puppet 22 = .ok (.invokespecial 80, 3) := by decide +kernel
theorem dX11_puppet_25 : decode cX11_puppet 25 = .ok (.invokevirtual 81, 3) := by decide +kernel
theorem dX11_puppet_28 : decode cX11_puppet 28 = .ok (.ireturn, 1) := by decide +kernel
theorem dX11_joint_0 : decode cX11_joint 0 = .ok (.aload_n 0, 1) := by decide +kernel
theorem dX11_joint_1 : decode cX11_joint 1 = .ok (.iload_n 1, 1) := by decide +kernel
theorem dX11_joint_2 : decode cX11_joint 2 = .ok (.invokevirtual 85, 3) := by decide +kernel
theorem dX11_joint_5 : decode cX11_joint 5 = .ok (.astore 7, 2) := by decide +kernel
theorem dX11_joint_7 : decode cX11_joint 7 = .ok (.iload_n 2, 1) := by decide +kernel
theorem dX11_joint_8 : decode cX11_joint 8 = .ok (.iconst (-1), 1) := by decide +kernel
theorem dX11_joint_9 : decode cX11_joint 9 = .ok (.if_icmp .eq 12, 3) := by decide +kernel
theorem dX11_joint_12 : decode cX11_joint 12 = .ok (.aload 7, 2) := by decide +kernel
theorem dX11_joint_14 : decode cX11_joint 14 = .ok (.iload_n 2, 1) := by decide +kernel
theorem dX11_joint_15 : decode cX11_joint 15 = .ok (.invokevirtual 89, 3) := by decide +kernel
theorem dX11_joint_18 : decode cX11_joint 18 = .ok (.ifCond .eq 7, 3) := by decide +kernel
theorem dX11_joint_21 : decode cX11_joint 21 = .ok (.iconst 1, 1) := by decide +kernel
theorem dX11_joint_22 : decode cX11_joint 22 = .ok (.goto 4, 3) := by decide +kernel
theorem dX11_joint_25 : decode cX11_joint 25 = .ok (.iconst 0, 1) := by decide +kernel
theorem dX11_joint_26 : decode cX11_joint 26 = .ok (.invokestatic 93, 3) := by decide +kernel
theorem dX11_joint_29 : decode cX11_joint 29 = .ok (.iload_n 3, 1) := by decide +kernel
theorem dX11_joint_30 : decode cX11_joint 30 = .ok (.bipush (-32), 2) := by decide +kernel
theorem dX11_joint_32 : decode cX11_joint 32 = .ok (.iconst 0, 1) := by decide +kernel
theorem dX11_joint_33 : decode cX11_joint 33 = .ok (.invokestatic 97, 3) := by decide +kernel
theorem dX11_joint_36 : decode cX11_joint 36 = .ok (.ifCond .eq 18, 3) := by decide +kernel
theorem dX11_joint_39 : decode cX11_joint 39 = .ok (.iload 4, 2) := by decide +kernel
theorem dX11_joint_41 : decode cX11_joint 41 = .ok (.iconst 0, 1) := by decide +kernel
theorem dX11_joint_42 : decode cX11_joint 42 = .ok (.bipush 32, 2) := by decide +kernel
theorem dX11_joint_44 : decode cX11_joint 44 = .ok (.invokestatic 97, 3) := by decide +kernel
theorem dX11_joint_47 : decode cX11_joint 47 = .ok (.ifCond .eq 7, 3) := by decide +kernel
theorem dX11_joint_50 : decode cX11_joint 50 = .ok (.iconst 1, 1) := by decide +kernel
theorem dX11_joint_51 : decode cX11_joint 51 = .ok (.goto 4, 3) := by decide +kernel
theorem dX11_joint_54 : decode cX11_joint 54 = .ok (.iconst 0, 1) := by decide +kernel
theorem dX11_joint_55 : decode cX11_joint 55 = .ok (.invokestatic 93, 3) := by decide +kernel
theorem dX11_joint_58 : decode cX11_joint 58 = .ok (.iload 5, 2) := by decide +kernel
theorem dX11_joint_60 : decode cX11_joint 60 = .ok (.iconst 0, 1) := by decide +kernel
theorem dX11_joint_61 : decode cX11_joint 61 = .ok (.bipush 100, 2) := by decide +kernel
theorem dX11_joint_63 : decode cX11_joint 63 = .ok (.invokestatic 97, 3) := by decide +kernel
theorem dX11_joint_66 : decode cX11_joint 66 = .ok (.ifCond .eq 18, 3) := by decide +kernel
theorem dX11_joint_69 : decode cX11_joint 69 = .ok (.iload 6, 2) := by decide +kernel
theorem dX11_joint_71 : decode cX11_joint 71 = .ok (.iconst 0, 1) := by decide +kernel
theorem dX11_joint_72 : decode cX11_joint 72 = .ok (.bipush 100, 2) := by decide +kernel
theorem dX11_joint_74 : decode cX11_joint 74 = .ok (.invokestatic 97, 3) := by decide +kernel
theorem dX11_joint_77 : decode cX11_joint 77 = .ok (.ifCond .eq 7, 3) := by decide +kernel
theorem dX11_joint_80 : decode cX11_joint 80 = .ok (.iconst 1, 1) := by decide +kernel
theorem dX11_joint_81 : decode cX11_joint 81 = .ok (.goto 4, 3) := by decide +kernel
theorem dX11_joint_84 : decode cX11_joint 84 = .ok (.iconst 0, 1) := by decide +kernel
theorem dX11_joint_85 : decode cX11_joint 85 = .ok (.invokestatic 93, 3) := by decide +kernel
theorem dX11_joint_88 : decode cX11_joint 88 = .ok (.aload 7, 2) := by decide +kernel
theorem dX11_joint_90 : decode cX11_joint 90 = .ok (.getfield 101, 3) := by decide +kernel
theorem dX11_joint_93 : decode cX11_joint 93 = .ok (.bipush 12, 2) := by decide +kernel
theorem dX11_joint_95 : decode cX11_joint 95 = .ok (.if_icmp .lt 5, 3) := by decide +kernel
theorem dX11_joint_98 : decode cX11_joint 98 = .ok (.iconst (-1), 1) := by decide +kernel
theorem dX11_joint_99 : decode cX11_joint 99 = .ok (.ireturn, 1) := by decide +kernel
theorem dX11_joint_100 : decode cX11_joint 100 = .ok (.aload 7, 2) := by decide +kernel
theorem dX11_joint_102 : decode cX11_joint 102 = .ok (.iload_n 2, 1) := by decide +kernel
theorem dX11_joint_103 : decode cX11_joint 103 = .ok (.iload_n 3, 1) := by decide +kernel
theorem dX11_joint_104 : decode cX11_joint 104 = .ok (.iload 4, 2) := by decide +kernel
theorem dX11_joint_106 : decode cX11_joint 106 = .ok (.iload 5, 2) := by decide +kernel
theorem dX11_joint_108 : decode cX11_joint 108 = .ok (.iload 6, 2) := by decide +kernel
theorem dX11_joint_110 : decode cX11_joint 110 = .ok (.invokevirtual 104, 3) := by decide +kernel
theorem dX11_joint_113 : decode cX11_joint 113 = .ok (.ireturn, 1) := by decide +kernel
theorem dX11_feet_0 : decode cX11_feet 0 = .ok (.aload_n 0, 1) := by decide +kernel
theorem dX11_feet_1 : decode cX11_feet 1 = .ok (.iload_n 1, 1) := by decide +kernel
theorem dX11_feet_2 : decode cX11_feet 2 = .ok (.invokevirtual 85, 3) := by decide +kernel
theorem dX11_feet_5 : decode cX11_feet 5 = .ok (.astore 4, 2) := by decide +kernel
theorem dX11_feet_7 : decode cX11_feet 7 = .ok (.iload_n 2, 1) := by decide +kernel
theorem dX11_feet_8 : decode cX11_feet 8 = .ok (.sipush (-200), 3) := by decide +kernel
theorem dX11_feet_11 : decode cX11_feet 11 = .ok (.sipush 200, 3) := by decide +kernel
theorem dX11_feet_14 : decode cX11_feet 14 = .ok (.invokestatic 97, 3) := by decide +kernel
theorem dX11_feet_17 : decode cX11_feet 17 = .ok (.ifCond .eq 25, 3) := by decide +kernel
theorem dX11_feet_20 : decode cX11_feet 20 = .ok (.iload_n 3, 1) := by decide +kernel
theorem dX11_feet_21 : decode cX11_feet 21 = .ok (.sipush (-200), 3) := by decide +kernel
theorem dX11_feet_24 : decode cX11_feet 24 = .ok (.sipush 200, 3) := by decide +kernel
theorem dX11_feet_27 : decode cX11_feet 27 = .ok (.invokestatic 97, 3) := by decide +kernel
theorem dX11_feet_30 : decode cX11_feet 30 = .ok (.ifCond .eq 12, 3) := by decide +kernel
theorem dX11_feet_33 : decode cX11_feet 33 = .ok (.iload_n 2, 1) := by decide +kernel
theorem dX11_feet_34 : decode cX11_feet 34 = .ok (.iload_n 3, 1) := by decide +kernel
theorem dX11_feet_35 : decode cX11_feet 35 = .ok (.if_icmp .gt 7, 3) := by decide +kernel
theorem dX11_feet_38 : decode cX11_feet 38 = .ok (.iconst 1, 1) := by decide +kernel
theorem dX11_feet_39 : decode cX11_feet 39 = .ok (.goto 4, 3) := by decide +kernel
theorem dX11_feet_42 : decode cX11_feet 42 = .ok (.iconst 0, 1) := by decide +kernel
theorem dX11_feet_43 : decode cX11_feet 43 = .ok (.invokestatic 93, 3) := by decide +kernel
theorem dX11_feet_46 : decode cX11_feet 46 = .ok (.aload 4, 2) := by decide +kernel
theorem dX11_feet_48 : decode cX11_feet 48 = .ok (.iload_n 2, 1) := by decide +kernel
theorem dX11_feet_49 : decode cX11_feet 49 = .ok (.putfield 108, 3) := by decide +kernel
theorem dX11_feet_52 : decode cX11_feet 52 = .ok (.aload 4, 2) := by decide +kernel
theorem dX11_feet_54 : decode cX11_feet 54 = .ok (.iload_n 3, 1) := by decide +kernel
theorem dX11_feet_55 : decode cX11_feet 55 = .ok (.putfield 111, 3) := by decide +kernel
theorem dX11_feet_58 : decode cX11_feet 58 = .ok (.return_, 1) := by decide +kernel
theorem dX11_kit_0 : decode cX11_kit 0 = .ok (.aload_n 0, 1) := by decide +kernel
theorem dX11_kit_1 : decode cX11_kit 1 = .ok (.iload_n 1, 1) := by decide +kernel
theorem dX11_kit_2 : decode cX11_kit 2 = .ok (.invokevirtual 85, 3) := by decide +kernel
theorem dX11_kit_5 : decode cX11_kit 5 = .ok (.astore_n 3, 1) := by decide +kernel
theorem dX11_kit_6 : decode cX11_kit 6 = .ok (.iload_n 2, 1) := by decide +kernel
theorem dX11_kit_7 : decode cX11_kit 7 = .ok (.iconst 0, 1) := by decide +kernel
theorem dX11_kit_8 : decode cX11_kit 8 = .ok (.iconst 3, 1) := by decide +kernel
theorem dX11_kit_9 : decode cX11_kit 9 = .ok (.invokestatic 97, 3) := by decide +kernel
theorem dX11_kit_12 : decode cX11_kit 12 = .ok (.invokestatic 93, 3) := by decide +kernel
theorem dX11_kit_15 : decode cX11_kit 15 = .ok (.aload_n 3, 1) := by decide +kernel
theorem dX11_kit_16 : decode cX11_kit 16 = .ok (.getfield 114, 3) := by decide +kernel
theorem dX11_kit_19 : decode cX11_kit 19 = .ok (.istore 4, 2) := by decide +kernel
theorem dX11_kit_21 : decode cX11_kit 21 = .ok (.aload_n 3, 1) := by decide +kernel
theorem dX11_kit_22 : decode cX11_kit 22 = .ok (.iload_n 2, 1) := by decide +kernel
theorem dX11_kit_23 : decode cX11_kit 23 = .ok (.putfield 114, 3) := by decide +kernel
theorem dX11_kit_26 : decode cX11_kit 26 = .ok (.iload 4, 2) := by decide +kernel
theorem dX11_kit_28 : decode cX11_kit 28 = .ok (.ireturn, 1) := by decide +kernel
theorem dX11_sound_0 : decode cX11_sound 0 = .ok (.iload_n 1, 1) := by decide +kernel
theorem dX11_sound_1 : decode cX11_sound 1 = .ok (.iconst 0, 1) := by decide +kernel
theorem dX11_sound_2 : decode cX11_sound 2 = .ok (.bipush 25, 2) := by decide +kernel
theorem dX11_sound_4 : decode cX11_sound 4 = .ok (.invokestatic 97, 3) := by decide +kernel
theorem dX11_sound_7 : decode cX11_sound 7 = .ok (.ifCond .eq 17, 3) := by decide +kernel
theorem dX11_sound_10 : decode cX11_sound 10 = .ok (.iload_n 2, 1) := by decide +kernel
theorem dX11_sound_11 : decode cX11_sound 11 = .ok (.iconst 1, 1) := by decide +kernel
theorem dX11_sound_12 : decode cX11_sound 12 = .ok (.bipush 9, 2) := by decide +kernel
theorem dX11_sound_14 : decode cX11_sound 14 = .ok (.invokestatic 97, 3) := by decide +kernel
theorem dX11_sound_17 : decode cX11_sound 17 = .ok (.ifCond .eq 7, 3) := by decide +kernel
theorem dX11_sound_20 : decode cX11_sound 20 = .ok (.iconst 1, 1) := by decide +kernel
theorem dX11_sound_21 : decode cX11_sound 21 = .ok (.goto 4, 3) := by decide +kernel
theorem dX11_sound_24 : decode cX11_sound 24 = .ok (.iconst 0, 1) := by decide +kernel
theorem dX11_sound_25 : decode cX11_sound 25 = .ok (.invokestatic 93, 3) := by decide +kernel
theorem dX11_sound_28 : decode cX11_sound 28 = .ok (.aload_n 0, 1) := by decide +kernel
theorem dX11_sound_29 : decode cX11_sound 29 = .ok (.getfield 10, 3) := by decide +kernel
theorem dX11_sound_32 : decode cX11_sound 32 = .ok (.getfield 117, 3) := by decide +kernel
theorem dX11_sound_35 : decode cX11_sound 35 = .ok (.iload_n 1, 1) := by decide +kernel
theorem dX11_sound_36 : decode cX11_sound 36 = .ok (.iload_n 2, 1) := by decide +kernel
theorem dX11_sound_37 : decode cX11_sound 37 = .ok (.invokestatic 121, 3) := by decide +kernel
theorem dX11_sound_40 : decode cX11_sound 40 = .ok (.ireturn, 1) := by decide +kernel
theorem dX11_feed_0 : decode cX11_feed 0 = .ok (.aload_n 0, 1) := by decide +kernel
theorem dX11_feed_1 : decode cX11_feed 1 = .ok (.getfield 125, 3) := by decide +kernel
theorem dX11_feed_4 : decode cX11_feed 4 = .ok (.bipush 20, 2) := by decide +kernel
theorem dX11_feed_6 : decode cX11_feed 6 = .ok (.iadd, 1) := by decide +kernel
theorem dX11_feed_7 : decode cX11_feed 7 = .ok (.sipush 400, 3) := by decide +kernel
theorem dX11_feed_10 : decode cX11_feed 10 = .ok (.if_icmp .le 5, 3) := by decide +kernel
theorem dX11_feed_13 : decode cX11_feed 13 = .ok (.iconst (-1), 1) := by decide +kernel
theorem dX11_feed_14 : decode cX11_feed 14 = .ok (.ireturn, 1) := by decide +kernel
theorem dX11_feed_15 : decode cX11_feed 15 = .ok (.aload_n 0, 1) := by decide +kernel
theorem dX11_feed_16 : decode cX11_feed 16 = .ok (.iload_n 1, 1) := by decide +kernel
theorem dX11_feed_17 : decode cX11_feed 17 = .ok (.invokevirtual 128, 3) := by decide +kernel
theorem dX11_feed_20 : decode cX11_feed 20 = .ok (.aload_n 0, 1) := by decide +kernel
theorem dX11_feed_21 : decode cX11_feed 21 = .ok (.iload_n 2, 1) := by decide +kernel
theorem dX11_feed_22 : decode cX11_feed 22 = .ok (.invokevirtual 128, 3) := by decide +kernel
theorem dX11_feed_25 : decode cX11_feed 25 = .ok (.aload_n 0, 1) := by decide +kernel
theorem dX11_feed_26 : decode cX11_feed 26 = .ok (.iload_n 3, 1) := by decide +kernel
theorem dX11_feed_27 : decode cX11_feed 27 = .ok (.invokevirtual 128, 3) := by decide +kernel
theorem dX11_feed_30 : decode cX11_feed 30 = .ok (.aload_n 0, 1) := by decide +kernel
theorem dX11_feed_31 : decode cX11_feed 31 = .ok (.iload 4, 2) := by decide +kernel
theorem dX11_feed_33 : decode cX11_feed 33 = .ok (.invokevirtual 128, 3) := by decide +kernel
theorem dX11_feed_36 : decode cX11_feed 36 = .ok (.aload_n 0, 1) := by decide +kernel
theorem dX11_feed_37 : decode cX11_feed 37 = .ok (.iload 5, 2) := by decide +kernel
theorem dX11_feed_39 : decode cX11_feed 39 = .ok (.invokevirtual 128, 3) := by decide +kernel
theorem dX11_feed_42 : decode cX11_feed 42 = .ok (.aload_n 0, 1) := by decide +kernel
theorem dX11_feed_43 : decode cX11_feed 43 = .ok (.getfield 125, 3) := by decide +kernel
theorem dX11_feed_46 : decode cX11_feed 46 = .ok (.ireturn, 1) := by decide +kernel
theorem dX11_shot_0 : decode cX11_shot 0 = .ok (.iload_n 1, 1) := by decide +kernel
theorem dX11_shot_1 : decode cX11_shot 1 = .ok (.iconst 0, 1) := by decide +kernel
theorem dX11_shot_2 : decode cX11_shot 2 = .ok (.aload_n 0, 1) := by decide +kernel
theorem dX11_shot_3 : decode cX11_shot 3 = .ok (.getfield 125, 3) := by decide +kernel
theorem dX11_shot_6 : decode cX11_shot 6 = .ok (.invokestatic 97, 3) := by decide +kernel
theorem dX11_shot_9 : decode cX11_shot 9 = .ok (.invokestatic 93, 3) := by decide +kernel
theorem dX11_shot_12 : decode cX11_shot 12 = .ok (.aload_n 0, 1) := by decide +kernel
theorem dX11_shot_13 : decode cX11_shot 13 = .ok (.getfield 10, 3) := by decide +kernel
theorem dX11_shot_16 : decode cX11_shot 16 = .ok (.getfield 132, 3) := by decide +kernel
theorem dX11_shot_19 : decode cX11_shot 19 = .ok (.bipush 12, 2) := by decide +kernel
theorem dX11_shot_21 : decode cX11_shot 21 = .ok (.if_icmp .lt 13, 3) := by decide +kernel
theorem dX11_shot_24 : decode cX11_shot 24 = .ok (.new 135, 3) := by decide +kernel
theorem dX11_shot_27 : decode cX11_shot 27 = .ok (.dup, 1) := by decide +kernel
theorem dX11_shot_28 : decode cX11_shot 28 = .ok (.ldc 137, 2) := by decide +kernel
theorem dX11_shot_30 : decode cX11_shot 30 = .ok (.invokespecial 139, 3) := by decide +kernel
theorem dX11_shot_33 : decode cX11_shot 33 = .ok (.athrow, 1) := by decide +kernel
theorem dX11_shot_34 : decode cX11_shot 34 = .ok (.aload_n 0, 1) := by decide +kernel
theorem dX11_shot_35 : decode cX11_shot 35 = .ok (.getfield 21, 3) := by decide +kernel
theorem dX11_shot_38 : decode cX11_shot 38 = .ok (.aload_n 0, 1) := by decide +kernel
theorem dX11_shot_39 : decode cX11_shot 39 = .ok (.getfield 67, 3) := by decide +kernel
theorem dX11_shot_42 : decode cX11_shot 42 = .ok (.iload_n 1, 1) := by decide +kernel
theorem dX11_shot_43 : decode cX11_shot 43 = .ok (.invokevirtual 142, 3) := by decide +kernel
theorem dX11_shot_46 : decode cX11_shot 46 = .ok (.aload_n 0, 1) := by decide +kernel
theorem dX11_shot_47 : decode cX11_shot 47 = .ok (.iconst 0, 1) := by decide +kernel
theorem dX11_shot_48 : decode cX11_shot 48 = .ok (.putfield 125, 3) := by decide +kernel
theorem dX11_shot_51 : decode cX11_shot 51 = .ok (.aload_n 0, 1) := by decide +kernel
theorem dX11_shot_52 : decode cX11_shot 52 = .ok (.getfield 21, 3) := by decide +kernel
theorem dX11_shot_55 : decode cX11_shot 55 = .ok (.getfield 146, 3) := by decide +kernel
theorem dX11_shot_58 : decode cX11_shot 58 = .ok (.getfield 150, 3) := by decide +kernel
theorem dX11_shot_61 : decode cX11_shot 61 = .ok (.ifCond .eq 31, 3) := by decide +kernel
theorem dX11_shot_64 : decode cX11_shot 64 = .ok (.aload_n 0, 1) := by decide +kernel
theorem dX11_shot_65 : decode cX11_shot 65 = .ok (.aload_n 0, 1) := by decide +kernel
theorem dX11_shot_66 : decode cX11_shot 66 = .ok (.getfield 21, 3) := by decide +kernel
theorem dX11_shot_69 : decode cX11_shot 69 = .ok (.getfield 146, 3) := by decide +kernel
theorem dX11_shot_72 : decode cX11_shot 72 = .ok (.getfield 155, 3) := by decide +kernel
theorem dX11_shot_75 : decode cX11_shot 75 = .ok (.putfield 71, 3) := by decide +kernel
theorem dX11_shot_78 : decode cX11_shot 78 = .ok (.aload_n 0, 1) := by decide +kernel
theorem dX11_shot_79 : decode cX11_shot 79 = .ok (.getfield 21, 3) := by decide +kernel
theorem dX11_shot_82 : decode cX11_shot 82 = .ok (.getfield 146, 3) := by decide +kernel
theorem dX11_shot_85 : decode cX11_shot 85 = .ok (.getfield 150, 3) := by decide +kernel
theorem dX11_shot_88 : decode cX11_shot 88 = .ok (.bipush 10, 2) := by decide +kernel
theorem dX11_shot_90 : decode cX11_shot 90 = .ok (.isub, 1) := by decide +kernel
theorem dX11_shot_91 : decode cX11_shot 91 = .ok (.ireturn, 1) := by decide +kernel
theorem dX11_shot_92 : decode cX11_shot 92 = .ok (.aload_n 0, 1) := by decide +kernel
theorem dX11_shot_93 : decode cX11_shot 93 = .ok (.iconst (-1), 1) := by decide +kernel
theorem dX11_shot_94 : decode cX11_shot 94 = .ok (.putfield 71, 3) := by decide +kernel
theorem dX11_shot_97 : decode cX11_shot 97 = .ok (.aload_n 0, 1) := by decide +kernel
theorem dX11_shot_98 : decode cX11_shot 98 = .ok (.getfield 10, 3) := by decide +kernel
theorem dX11_shot_101 : decode cX11_shot 101 = .ok (.aload_n 0, 1) := by decide +kernel
theorem dX11_shot_102 : decode cX11_shot 102 = .ok (.getfield 30, 3) := by decide +kernel
theorem dX11_shot_105 : decode cX11_shot 105 = .ok (.invokevirtual 158, 3) := by decide +kernel
theorem dX11_shot_108 : decode cX11_shot 108 = .ok (.invokevirtual 162, 3) := by decide +kernel
theorem dX11_shot_111 : decode cX11_shot 111 = .ok (.ireturn, 1) := by decide +kernel
theorem dX11_fault_0 : decode cX11_fault 0 = .ok (.aload_n 0, 1) := by decide +kernel
theorem dX11_fault_1 : decode cX11_fault 1 = .ok (.getfield 71, 3) := by decide +kernel
theorem dX11_fault_4 : decode cX11_fault 4 = .ok (.ireturn, 1) := by decide +kernel
theorem dX11_told_0 : decode cX11_told 0 = .ok (.aload_n 0, 1) := by decide +kernel
theorem dX11_told_1 : decode cX11_told 1 = .ok (.iload_n 1, 1) := by decide +kernel
theorem dX11_told_2 : decode cX11_told 2 = .ok (.invokevirtual 166, 3) := by decide +kernel
theorem dX11_told_5 : decode cX11_told 5 = .ok (.astore_n 3, 1) := by decide +kernel
theorem dX11_told_6 : decode cX11_told 6 = .ok (.iload_n 2, 1) := by decide +kernel
theorem dX11_told_7 : decode cX11_told 7 = .ok (.tableswitch 71 0 5 #[37, 42, 47, 52, 57, 66], 37) := by decide +kernel
theorem dX11_told_44 : decode cX11_told 44 = .ok (.aload_n 3, 1) := by decide +kernel
theorem dX11_told_45 : decode cX11_told 45 = .ok (.getfield 170, 3) := by decide +kernel
theorem dX11_told_48 : decode cX11_told 48 = .ok (.ireturn, 1) := by decide +kernel
theorem dX11_told_49 : decode cX11_told 49 = .ok (.aload_n 3, 1) := by decide +kernel
theorem dX11_told_50 : decode cX11_told 50 = .ok (.getfield 175, 3) := by decide +kernel
theorem dX11_told_53 : decode cX11_told 53 = .ok (.ireturn, 1) := by decide +kernel
theorem dX11_told_54 : decode cX11_told 54 = .ok (.aload_n 3, 1) := by decide +kernel
theorem dX11_told_55 : decode cX11_told 55 = .ok (.getfield 178, 3) := by decide +kernel
theorem dX11_told_58 : decode cX11_told 58 = .ok (.ireturn, 1) := by decide +kernel
theorem dX11_told_59 : decode cX11_told 59 = .ok (.aload_n 3, 1) := by decide +kernel
theorem dX11_told_60 : decode cX11_told 60 = .ok (.getfield 181, 3) := by decide +kernel
theorem dX11_told_63 : decode cX11_told 63 = .ok (.ireturn, 1) := by decide +kernel
theorem dX11_told_64 : decode cX11_told 64 = .ok (.aload_n 0, 1) := by decide +kernel
theorem dX11_told_65 : decode cX11_told 65 = .ok (.getfield 60, 3) := by decide +kernel
theorem dX11_told_68 : decode cX11_told 68 = .ok (.iload_n 1, 1) := by decide +kernel
theorem dX11_told_69 : decode cX11_told 69 = .ok (.invokevirtual 184, 3) := by decide +kernel
theorem dX11_told_72 : decode cX11_told 72 = .ok (.ireturn, 1) := by decide +kernel
theorem dX11_told_73 : decode cX11_told 73 = .ok (.aload_n 3, 1) := by decide +kernel
theorem dX11_told_74 : decode cX11_told 74 = .ok (.invokevirtual 188, 3) := by decide +kernel
theorem dX11_told_77 : decode cX11_told 77 = .ok (.ireturn, 1) := by decide +kernel
theorem dX11_told_78 : decode cX11_told 78 = .ok (.new 192, 3) := by decide +kernel
theorem dX11_told_81 : decode cX11_told 81 = .ok (.dup, 1) := by decide +kernel
theorem dX11_told_82 : decode cX11_told 82 = .ok (.ldc 194, 2) := by decide +kernel
theorem dX11_told_84 : decode cX11_told 84 = .ok (.invokespecial 196, 3) := by decide +kernel
theorem dX11_told_87 : decode cX11_told 87 = .ok (.athrow, 1) := by decide +kernel
theorem dX11_step_0 : decode cX11_step 0 = .ok (.aload_n 0, 1) := by decide +kernel
theorem dX11_step_1 : decode cX11_step 1 = .ok (.iload_n 1, 1) := by decide +kernel
theorem dX11_step_2 : decode cX11_step 2 = .ok (.invokevirtual 166, 3) := by decide +kernel
theorem dX11_step_5 : decode cX11_step 5 = .ok (.astore 5, 2) := by decide +kernel
theorem dX11_step_7 : decode cX11_step 7 = .ok (.aload_n 0, 1) := by decide +kernel
theorem dX11_step_8 : decode cX11_step 8 = .ok (.getfield 10, 3) := by decide +kernel
theorem dX11_step_11 : decode cX11_step 11 = .ok (.iload_n 3, 1) := by decide +kernel
theorem dX11_step_12 : decode cX11_step 12 = .ok (.invokevirtual 197, 3) := by decide +kernel
theorem dX11_step_15 : decode cX11_step 15 = .ok (.astore 6, 2) := by decide +kernel
theorem dX11_step_17 : decode cX11_step 17 = .ok (.aload 5, 2) := by decide +kernel
theorem dX11_step_19 : decode cX11_step 19 = .ok (.iload_n 2, 1) := by decide +kernel
theorem dX11_step_20 : decode cX11_step 20 = .ok (.invokevirtual 200, 3) := by decide +kernel
theorem dX11_step_23 : decode cX11_step 23 = .ok (.ifCond .eq 18, 3) := by decide +kernel
theorem dX11_step_26 : decode cX11_step 26 = .ok (.aload 6, 2) := by decide +kernel
theorem dX11_step_28 : decode cX11_step 28 = .ok (.ifnull 13, 3) := by decide +kernel
theorem dX11_step_31 : decode cX11_step 31 = .ok (.aload 6, 2) := by decide +kernel
theorem dX11_step_33 : decode cX11_step 33 = .ok (.iload 4, 2) := by decide +kernel
theorem dX11_step_35 : decode cX11_step 35 = .ok (.invokevirtual 89, 3) := by decide +kernel
theorem dX11_step_38 : decode cX11_step 38 = .ok (.ifCond .ne 6, 3) := by decide +kernel
theorem dX11_step_41 : decode cX11_step 41 = .ok (.ldc 203, 2) := by decide +kernel
theorem dX11_step_43 : decode cX11_step 43 = .ok (.ireturn, 1) := by decide +kernel
theorem dX11_step_44 : decode cX11_step 44 = .ok (.aload 5, 2) := by decide +kernel
theorem dX11_step_46 : decode cX11_step 46 = .ok (.iload_n 2, 1) := by decide +kernel
theorem dX11_step_47 : decode cX11_step 47 = .ok (.iload_n 3, 1) := by decide +kernel
theorem dX11_step_48 : decode cX11_step 48 = .ok (.iload 4, 2) := by decide +kernel
theorem dX11_step_50 : decode cX11_step 50 = .ok (.invokevirtual 204, 3) := by decide +kernel
theorem dX11_step_53 : decode cX11_step 53 = .ok (.ireturn, 1) := by decide +kernel
theorem dX11_mouth_0 : decode cX11_mouth 0 = .ok (.aload_n 0, 1) := by decide +kernel
theorem dX11_mouth_1 : decode cX11_mouth 1 = .ok (.iload_n 1, 1) := by decide +kernel
theorem dX11_mouth_2 : decode cX11_mouth 2 = .ok (.invokevirtual 166, 3) := by decide +kernel
theorem dX11_mouth_5 : decode cX11_mouth 5 = .ok (.astore 4, 2) := by decide +kernel
theorem dX11_mouth_7 : decode cX11_mouth 7 = .ok (.aload 4, 2) := by decide +kernel
theorem dX11_mouth_9 : decode cX11_mouth 9 = .ok (.iload_n 2, 1) := by decide +kernel
theorem dX11_mouth_10 : decode cX11_mouth 10 = .ok (.invokevirtual 200, 3) := by decide +kernel
theorem dX11_mouth_13 : decode cX11_mouth 13 = .ok (.ifCond .eq 14, 3) := by decide +kernel
theorem dX11_mouth_16 : decode cX11_mouth 16 = .ok (.aload_n 0, 1) := by decide +kernel
theorem dX11_mouth_17 : decode cX11_mouth 17 = .ok (.getfield 10, 3) := by decide +kernel
theorem dX11_mouth_20 : decode cX11_mouth 20 = .ok (.iload_n 3, 1) := by decide +kernel
theorem dX11_mouth_21 : decode cX11_mouth 21 = .ok (.invokevirtual 197, 3) := by decide +kernel
theorem dX11_mouth_24 : decode cX11_mouth 24 = .ok (.ifnonnull 5, 3) := by decide +kernel
theorem dX11_mouth_27 : decode cX11_mouth 27 = .ok (.iconst (-1), 1) := by decide +kernel
theorem dX11_mouth_28 : decode cX11_mouth 28 = .ok (.ireturn, 1) := by decide +kernel
theorem dX11_mouth_29 : decode cX11_mouth 29 = .ok (.aload_n 0, 1) := by decide +kernel
theorem dX11_mouth_30 : decode cX11_mouth 30 = .ok (.getfield 10, 3) := by decide +kernel
theorem dX11_mouth_33 : decode cX11_mouth 33 = .ok (.aload 4, 2) := by decide +kernel
theorem dX11_mouth_35 : decode cX11_mouth 35 = .ok (.iload_n 2, 1) := by decide +kernel
theorem dX11_mouth_36 : decode cX11_mouth 36 = .ok (.iload_n 3, 1) := by decide +kernel
theorem dX11_mouth_37 : decode cX11_mouth 37 = .ok (.invokevirtual 208, 3) := by decide +kernel
theorem dX11_mouth_40 : decode cX11_mouth 40 = .ok (.invokevirtual 212, 3) := by decide +kernel
theorem dX11_mouth_43 : decode cX11_mouth 43 = .ok (.ireturn, 1) := by decide +kernel
theorem dX11_camera_0 : decode cX11_camera 0 = .ok (.aload_n 0, 1) := by decide +kernel
theorem dX11_camera_1 : decode cX11_camera 1 = .ok (.iload_n 1, 1) := by decide +kernel
theorem dX11_camera_2 : decode cX11_camera 2 = .ok (.invokevirtual 166, 3) := by decide +kernel
theorem dX11_camera_5 : decode cX11_camera 5 = .ok (.astore 4, 2) := by decide +kernel
theorem dX11_camera_7 : decode cX11_camera 7 = .ok (.aload 4, 2) := by decide +kernel
theorem dX11_camera_9 : decode cX11_camera 9 = .ok (.iload_n 2, 1) := by decide +kernel
theorem dX11_camera_10 : decode cX11_camera 10 = .ok (.invokevirtual 200, 3) := by decide +kernel
theorem dX11_camera_13 : decode cX11_camera 13 = .ok (.ifCond .eq 12, 3) := by decide +kernel
theorem dX11_camera_16 : decode cX11_camera 16 = .ok (.iload_n 3, 1) := by decide +kernel
theorem dX11_camera_17 : decode cX11_camera 17 = .ok (.iconst 0, 1) := by decide +kernel
theorem dX11_camera_18 : decode cX11_camera 18 = .ok (.iconst 2, 1) := by decide +kernel
theorem dX11_camera_19 : decode cX11_camera 19 = .ok (.invokestatic 97, 3) := by decide +kernel
theorem dX11_camera_22 : decode cX11_camera 22 = .ok (.ifCond .ne 5, 3) := by decide +kernel
theorem dX11_camera_25 : decode cX11_camera 25 = .ok (.iconst (-1), 1) := by decide +kernel
theorem dX11_camera_26 : decode cX11_camera 26 = .ok (.ireturn, 1) := by decide +kernel
theorem dX11_camera_27 : decode cX11_camera 27 = .ok (.aload 4, 2) := by decide +kernel
theorem dX11_camera_29 : decode cX11_camera 29 = .ok (.iload_n 2, 1) := by decide +kernel
theorem dX11_camera_30 : decode cX11_camera 30 = .ok (.iload_n 3, 1) := by decide +kernel
theorem dX11_camera_31 : decode cX11_camera 31 = .ok (.invokevirtual 215, 3) := by decide +kernel
theorem dX11_camera_34 : decode cX11_camera 34 = .ok (.ireturn, 1) := by decide +kernel
theorem dX11_state_0 : decode cX11_state 0 = .ok (.aload_n 0, 1) := by decide +kernel
theorem dX11_state_1 : decode cX11_state 1 = .ok (.iload_n 1, 1) := by decide +kernel
theorem dX11_state_2 : decode cX11_state 2 = .ok (.invokevirtual 166, 3) := by decide +kernel
theorem dX11_state_5 : decode cX11_state 5 = .ok (.astore 4, 2) := by decide +kernel
theorem dX11_state_7 : decode cX11_state 7 = .ok (.aload_n 0, 1) := by decide +kernel
theorem dX11_state_8 : decode cX11_state 8 = .ok (.getfield 10, 3) := by decide +kernel
theorem dX11_state_11 : decode cX11_state 11 = .ok (.iload_n 3, 1) := by decide +kernel
theorem dX11_state_12 : decode cX11_state 12 = .ok (.invokevirtual 197, 3) := by decide +kernel
theorem dX11_state_15 : decode cX11_state 15 = .ok (.astore 5, 2) := by decide +kernel
theorem dX11_state_17 : decode cX11_state 17 = .ok (.aload 4, 2) := by decide +kernel
theorem dX11_state_19 : decode cX11_state 19 = .ok (.iload_n 2, 1) := by decide +kernel
theorem dX11_state_20 : decode cX11_state 20 = .ok (.invokevirtual 200, 3) := by decide +kernel
theorem dX11_state_23 : decode cX11_state 23 = .ok (.ifCond .eq 8, 3) := by decide +kernel
theorem dX11_state_26 : decode cX11_state 26 = .ok (.aload 5, 2) := by decide +kernel
theorem dX11_state_28 : decode cX11_state 28 = .ok (.ifnonnull 5, 3) := by decide +kernel
theorem dX11_state_31 : decode cX11_state 31 = .ok (.iconst (-1), 1) := by decide +kernel
theorem dX11_state_32 : decode cX11_state 32 = .ok (.ireturn, 1) := by decide +kernel
theorem dX11_state_33 : decode cX11_state 33 = .ok (.aload 4, 2) := by decide +kernel
theorem dX11_state_35 : decode cX11_state 35 = .ok (.iload_n 2, 1) := by decide +kernel
theorem dX11_state_36 : decode cX11_state 36 = .ok (.iload_n 3, 1) := by decide +kernel
theorem dX11_state_37 : decode cX11_state 37 = .ok (.invokevirtual 218, 3) := by decide +kernel
theorem dX11_state_40 : decode cX11_state 40 = .ok (.ifCond .eq 7, 3) := by decide +kernel
theorem dX11_state_43 : decode cX11_state 43 = .ok (.iconst 1, 1) := by decide +kernel
theorem dX11_state_44 : decode cX11_state 44 = .ok (.goto 4, 3) := by decide +kernel
theorem dX11_state_47 : decode cX11_state 47 = .ok (.iconst 0, 1) := by decide +kernel
theorem dX11_state_48 : decode cX11_state 48 = .ok (.istore 6, 2) := by decide +kernel
theorem dX11_state_50 : decode cX11_state 50 = .ok (.iload 6, 2) := by decide +kernel
theorem dX11_state_52 : decode cX11_state 52 = .ok (.aload 4, 2) := by decide +kernel
theorem dX11_state_54 : decode cX11_state 54 = .ok (.iload_n 2, 1) := by decide +kernel
theorem dX11_state_55 : decode cX11_state 55 = .ok (.iload_n 3, 1) := by decide +kernel
theorem dX11_state_56 : decode cX11_state 56 = .ok (.invokevirtual 222, 3) := by decide +kernel
theorem dX11_state_59 : decode cX11_state 59 = .ok (.ifCond .eq 7, 3) := by decide +kernel
theorem dX11_state_62 : decode cX11_state 62 = .ok (.iconst 2, 1) := by decide +kernel
theorem dX11_state_63 : decode cX11_state 63 = .ok (.goto 4, 3) := by decide +kernel
theorem dX11_state_66 : decode cX11_state 66 = .ok (.iconst 0, 1) := by decide +kernel
theorem dX11_state_67 : decode cX11_state 67 = .ok (.iadd, 1) := by decide +kernel
theorem dX11_state_68 : decode cX11_state 68 = .ok (.istore 6, 2) := by decide +kernel
theorem dX11_state_70 : decode cX11_state 70 = .ok (.iload 6, 2) := by decide +kernel
theorem dX11_state_72 : decode cX11_state 72 = .ok (.aload 5, 2) := by decide +kernel
theorem dX11_state_74 : decode cX11_state 74 = .ok (.aload 4, 2) := by decide +kernel
theorem dX11_state_76 : decode cX11_state 76 = .ok (.iload_n 2, 1) := by decide +kernel
theorem dX11_state_77 : decode cX11_state 77 = .ok (.iload_n 3, 1) := by decide +kernel
theorem dX11_state_78 : decode cX11_state 78 = .ok (.invokevirtual 225, 3) := by decide +kernel
theorem dX11_state_81 : decode cX11_state 81 = .ok (.ifCond .eq 7, 3) := by decide +kernel
theorem dX11_state_84 : decode cX11_state 84 = .ok (.iconst 4, 1) := by decide +kernel
theorem dX11_state_85 : decode cX11_state 85 = .ok (.goto 4, 3) := by decide +kernel
theorem dX11_state_88 : decode cX11_state 88 = .ok (.iconst 0, 1) := by decide +kernel
theorem dX11_state_89 : decode cX11_state 89 = .ok (.iadd, 1) := by decide +kernel
theorem dX11_state_90 : decode cX11_state 90 = .ok (.ireturn, 1) := by decide +kernel
theorem dX11_lean_0 : decode cX11_lean 0 = .ok (.aload_n 0, 1) := by decide +kernel
theorem dX11_lean_1 : decode cX11_lean 1 = .ok (.iload_n 1, 1) := by decide +kernel
theorem dX11_lean_2 : decode cX11_lean 2 = .ok (.invokevirtual 166, 3) := by decide +kernel
theorem dX11_lean_5 : decode cX11_lean 5 = .ok (.astore 4, 2) := by decide +kernel
theorem dX11_lean_7 : decode cX11_lean 7 = .ok (.aload_n 0, 1) := by decide +kernel
theorem dX11_lean_8 : decode cX11_lean 8 = .ok (.getfield 10, 3) := by decide +kernel
theorem dX11_lean_11 : decode cX11_lean 11 = .ok (.iload_n 3, 1) := by decide +kernel
theorem dX11_lean_12 : decode cX11_lean 12 = .ok (.invokevirtual 197, 3) := by decide +kernel
theorem dX11_lean_15 : decode cX11_lean 15 = .ok (.astore 5, 2) := by decide +kernel
theorem dX11_lean_17 : decode cX11_lean 17 = .ok (.aload 4, 2) := by decide +kernel
theorem dX11_lean_19 : decode cX11_lean 19 = .ok (.iload_n 2, 1) := by decide +kernel
theorem dX11_lean_20 : decode cX11_lean 20 = .ok (.invokevirtual 200, 3) := by decide +kernel
theorem dX11_lean_23 : decode cX11_lean 23 = .ok (.ifCond .eq 8, 3) := by decide +kernel
theorem dX11_lean_26 : decode cX11_lean 26 = .ok (.aload 5, 2) := by decide +kernel
theorem dX11_lean_28 : decode cX11_lean 28 = .ok (.ifnonnull 6, 3) := by decide +kernel
theorem dX11_lean_31 : decode cX11_lean 31 = .ok (.ldc 203, 2) := by decide +kernel
theorem dX11_lean_33 : decode cX11_lean 33 = .ok (.ireturn, 1) := by decide +kernel
theorem dX11_lean_34 : decode cX11_lean 34 = .ok (.aload 5, 2) := by decide +kernel
theorem dX11_lean_36 : decode cX11_lean 36 = .ok (.aload 4, 2) := by decide +kernel
theorem dX11_lean_38 : decode cX11_lean 38 = .ok (.iload_n 2, 1) := by decide +kernel
theorem dX11_lean_39 : decode cX11_lean 39 = .ok (.iload_n 3, 1) := by decide +kernel
theorem dX11_lean_40 : decode cX11_lean 40 = .ok (.invokevirtual 229, 3) := by decide +kernel
theorem dX11_lean_43 : decode cX11_lean 43 = .ok (.ireturn, 1) := by decide +kernel
theorem dX11_breach_0 : decode cX11_breach 0 = .ok (.aload_n 0, 1) := by decide +kernel
theorem dX11_breach_1 : decode cX11_breach 1 = .ok (.iload_n 1, 1) := by decide +kernel
theorem dX11_breach_2 : decode cX11_breach 2 = .ok (.invokevirtual 166, 3) := by decide +kernel
theorem dX11_breach_5 : decode cX11_breach 5 = .ok (.astore_n 3, 1) := by decide +kernel
theorem dX11_breach_6 : decode cX11_breach 6 = .ok (.iload_n 2, 1) := by decide +kernel
theorem dX11_breach_7 : decode cX11_breach 7 = .ok (.iconst 0, 1) := by decide +kernel
theorem dX11_breach_8 : decode cX11_breach 8 = .ok (.iconst 2, 1) := by decide +kernel
theorem dX11_breach_9 : decode cX11_breach 9 = .ok (.invokestatic 97, 3) := by decide +kernel
theorem dX11_breach_12 : decode cX11_breach 12 = .ok (.invokestatic 93, 3) := by decide +kernel
theorem dX11_breach_15 : decode cX11_breach 15 = .ok (.iconst 0, 1) := by decide +kernel
theorem dX11_breach_16 : decode cX11_breach 16 = .ok (.istore 4, 2) := by decide +kernel
theorem dX11_breach_18 : decode cX11_breach 18 = .ok (.iload 4, 2) := by decide +kernel
theorem dX11_breach_20 : decode cX11_breach 20 = .ok (.aload_n 3, 1) := by decide +kernel
theorem dX11_breach_21 : decode cX11_breach 21 = .ok (.getfield 170, 3) := by decide +kernel
theorem dX11_breach_24 : decode cX11_breach 24 = .ok (.if_icmp .ge 55, 3) := by decide +kernel
theorem dX11_breach_27 : decode cX11_breach 27 = .ok (.aload_n 0, 1) := by decide +kernel
theorem dX11_breach_28 : decode cX11_breach 28 = .ok (.getfield 10, 3) := by decide +kernel
theorem dX11_breach_31 : decode cX11_breach 31 = .ok (.aload_n 3, 1) := by decide +kernel
theorem dX11_breach_32 : decode cX11_breach 32 = .ok (.iload 4, 2) := by decide +kernel
theorem dX11_breach_34 : decode cX11_breach 34 = .ok (.invokevirtual 233, 3) := by decide +kernel
theorem dX11_breach_37 : decode cX11_breach 37 = .ok (.istore 5, 2) := by decide +kernel
theorem dX11_breach_39 : decode cX11_breach 39 = .ok (.iload 5, 2) := by decide +kernel
theorem dX11_breach_41 : decode cX11_breach 41 = .ok (.iconst (-1), 1) := by decide +kernel
theorem dX11_breach_42 : decode cX11_breach 42 = .ok (.if_icmp .eq 31, 3) := by decide +kernel
theorem dX11_breach_45 : decode cX11_breach 45 = .ok (.iload_n 2, 1) := by decide +kernel
theorem dX11_breach_46 : decode cX11_breach 46 = .ok (.ifCond .ne 8, 3) := by decide +kernel
theorem dX11_breach_49 : decode cX11_breach 49 = .ok (.iload 4, 2) := by decide +kernel
theorem dX11_breach_51 : decode cX11_breach 51 = .ok (.goto 21, 3) := by decide +kernel
theorem dX11_breach_54 : decode cX11_breach 54 = .ok (.iload_n 2, 1) := by decide +kernel
theorem dX11_breach_55 : decode cX11_breach 55 = .ok (.iconst 1, 1) := by decide +kernel
theorem dX11_breach_56 : decode cX11_breach 56 = .ok (.if_icmp .ne 11, 3) := by decide +kernel
theorem dX11_breach_59 : decode cX11_breach 59 = .ok (.iload 5, 2) := by decide +kernel
theorem dX11_breach_61 : decode cX11_breach 61 = .ok (.bipush 12, 2) := by decide +kernel
theorem dX11_breach_63 : decode cX11_breach 63 = .ok (.idiv, 1) := by decide +kernel
theorem dX11_breach_64 : decode cX11_breach 64 = .ok (.goto 8, 3) := by decide +kernel
theorem dX11_breach_67 : decode cX11_breach 67 = .ok (.iload 5, 2) := by decide +kernel
theorem dX11_breach_69 : decode cX11_breach 69 = .ok (.bipush 12, 2) := by decide +kernel
theorem dX11_breach_71 : decode cX11_breach 71 = .ok (.irem, 1) := by decide +kernel
theorem dX11_breach_72 : decode cX11_breach 72 = .ok (.ireturn, 1) := by decide +kernel
theorem dX11_breach_73 : decode cX11_breach 73 = .ok (.iinc 4 1, 3) := by decide +kernel
theorem dX11_breach_76 : decode cX11_breach 76 = .ok (.goto (-58), 3) := by decide +kernel
theorem dX11_breach_79 : decode cX11_breach 79 = .ok (.iconst (-1), 1) := by decide +kernel
theorem dX11_breach_80 : decode cX11_breach 80 = .ok (.ireturn, 1) := by decide +kernel
theorem dX11_fall_0 : decode cX11_fall 0 = .ok (.aload_n 0, 1) := by decide +kernel
theorem dX11_fall_1 : decode cX11_fall 1 = .ok (.iload_n 1, 1) := by decide +kernel
theorem dX11_fall_2 : decode cX11_fall 2 = .ok (.invokevirtual 166, 3) := by decide +kernel
theorem dX11_fall_5 : decode cX11_fall 5 = .ok (.astore_n 3, 1) := by decide +kernel
theorem dX11_fall_6 : decode cX11_fall 6 = .ok (.iload_n 2, 1) := by decide +kernel
theorem dX11_fall_7 : decode cX11_fall 7 = .ok (.iconst 0, 1) := by decide +kernel
theorem dX11_fall_8 : decode cX11_fall 8 = .ok (.iconst 1, 1) := by decide +kernel
theorem dX11_fall_9 : decode cX11_fall 9 = .ok (.invokestatic 97, 3) := by decide +kernel
theorem dX11_fall_12 : decode cX11_fall 12 = .ok (.invokestatic 93, 3) := by decide +kernel
theorem dX11_fall_15 : decode cX11_fall 15 = .ok (.iconst 0, 1) := by decide +kernel
theorem dX11_fall_16 : decode cX11_fall 16 = .ok (.istore 4, 2) := by decide +kernel
theorem dX11_fall_18 : decode cX11_fall 18 = .ok (.iload 4, 2) := by decide +kernel
theorem dX11_fall_20 : decode cX11_fall 20 = .ok (.aload_n 3, 1) := by decide +kernel
theorem dX11_fall_21 : decode cX11_fall 21 = .ok (.getfield 170, 3) := by decide +kernel
theorem dX11_fall_24 : decode cX11_fall 24 = .ok (.if_icmp .ge 39, 3) := by decide +kernel
theorem dX11_fall_27 : decode cX11_fall 27 = .ok (.aload_n 0, 1) := by decide +kernel
theorem dX11_fall_28 : decode cX11_fall 28 = .ok (.getfield 10, 3) := by decide +kernel
theorem dX11_fall_31 : decode cX11_fall 31 = .ok (.aload_n 3, 1) := by decide +kernel
theorem dX11_fall_32 : decode cX11_fall 32 = .ok (.iload 4, 2) := by decide +kernel
theorem dX11_fall_34 : decode cX11_fall 34 = .ok (.invokevirtual 237, 3) := by decide +kernel
theorem dX11_fall_37 : decode cX11_fall 37 = .ok (.istore 5, 2) := by decide +kernel
theorem dX11_fall_39 : decode cX11_fall 39 = .ok (.iload 5, 2) := by decide +kernel
theorem dX11_fall_41 : decode cX11_fall 41 = .ok (.iconst (-1), 1) := by decide +kernel
theorem dX11_fall_42 : decode cX11_fall 42 = .ok (.if_icmp .eq 15, 3) := by decide +kernel
theorem dX11_fall_45 : decode cX11_fall 45 = .ok (.iload_n 2, 1) := by decide +kernel
theorem dX11_fall_46 : decode cX11_fall 46 = .ok (.ifCond .ne 8, 3) := by decide +kernel
theorem dX11_fall_49 : decode cX11_fall 49 = .ok (.iload 4, 2) := by decide +kernel
theorem dX11_fall_51 : decode cX11_fall 51 = .ok (.goto 5, 3) := by decide +kernel
theorem dX11_fall_54 : decode cX11_fall 54 = .ok (.iload 5, 2) := by decide +kernel
theorem dX11_fall_56 : decode cX11_fall 56 = .ok (.ireturn, 1) := by decide +kernel
theorem dX11_fall_57 : decode cX11_fall 57 = .ok (.iinc 4 1, 3) := by decide +kernel
theorem dX11_fall_60 : decode cX11_fall 60 = .ok (.goto (-42), 3) := by decide +kernel
theorem dX11_fall_63 : decode cX11_fall 63 = .ok (.iconst (-1), 1) := by decide +kernel
theorem dX11_fall_64 : decode cX11_fall 64 = .ok (.ireturn, 1) := by decide +kernel
theorem dX11_alike_0 : decode cX11_alike 0 = .ok (.aload_n 0, 1) := by decide +kernel
theorem dX11_alike_1 : decode cX11_alike 1 = .ok (.iload_n 1, 1) := by decide +kernel
theorem dX11_alike_2 : decode cX11_alike 2 = .ok (.invokevirtual 166, 3) := by decide +kernel
theorem dX11_alike_5 : decode cX11_alike 5 = .ok (.astore 4, 2) := by decide +kernel
theorem dX11_alike_7 : decode cX11_alike 7 = .ok (.aload 4, 2) := by decide +kernel
theorem dX11_alike_9 : decode cX11_alike 9 = .ok (.iload_n 2, 1) := by decide +kernel
theorem dX11_alike_10 : decode cX11_alike 10 = .ok (.invokestatic 240, 3) := by decide +kernel
theorem dX11_alike_13 : decode cX11_alike 13 = .ok (.aload 4, 2) := by decide +kernel
theorem dX11_alike_15 : decode cX11_alike 15 = .ok (.iload_n 3, 1) := by decide +kernel
theorem dX11_alike_16 : decode cX11_alike 16 = .ok (.invokestatic 240, 3) := by decide +kernel
theorem dX11_alike_19 : decode cX11_alike 19 = .ok (.aload_n 0, 1) := by decide +kernel
theorem dX11_alike_20 : decode cX11_alike 20 = .ok (.getfield 10, 3) := by decide +kernel
theorem dX11_alike_23 : decode cX11_alike 23 = .ok (.aload 4, 2) := by decide +kernel
theorem dX11_alike_25 : decode cX11_alike 25 = .ok (.iload_n 2, 1) := by decide +kernel
theorem dX11_alike_26 : decode cX11_alike 26 = .ok (.iload_n 3, 1) := by decide +kernel
theorem dX11_alike_27 : decode cX11_alike 27 = .ok (.invokevirtual 244, 3) := by decide +kernel
theorem dX11_alike_30 : decode cX11_alike 30 = .ok (.ireturn, 1) := by decide +kernel
theorem dX11_swap_0 : decode cX11_swap 0 = .ok (.aload_n 0, 1) := by decide +kernel
theorem dX11_swap_1 : decode cX11_swap 1 = .ok (.iload_n 1, 1) := by decide +kernel
theorem dX11_swap_2 : decode cX11_swap 2 = .ok (.invokevirtual 166, 3) := by decide +kernel
theorem dX11_swap_5 : decode cX11_swap 5 = .ok (.astore 4, 2) := by decide +kernel
theorem dX11_swap_7 : decode cX11_swap 7 = .ok (.aload_n 0, 1) := by decide +kernel
theorem dX11_swap_8 : decode cX11_swap 8 = .ok (.iload_n 2, 1) := by decide +kernel
theorem dX11_swap_9 : decode cX11_swap 9 = .ok (.invokevirtual 85, 3) := by decide +kernel
theorem dX11_swap_12 : decode cX11_swap 12 = .ok (.astore 5, 2) := by decide +kernel
theorem dX11_swap_14 : decode cX11_swap 14 = .ok (.aload_n 0, 1) := by decide +kernel
theorem dX11_swap_15 : decode cX11_swap 15 = .ok (.iload_n 3, 1) := by decide +kernel
theorem dX11_swap_16 : decode cX11_swap 16 = .ok (.invokevirtual 85, 3) := by decide +kernel
theorem dX11_swap_19 : decode cX11_swap 19 = .ok (.astore 6, 2) := by decide +kernel
theorem dX11_swap_21 : decode cX11_swap 21 = .ok (.aload 4, 2) := by decide +kernel
theorem dX11_swap_23 : decode cX11_swap 23 = .ok (.iload_n 2, 1) := by decide +kernel
theorem dX11_swap_24 : decode cX11_swap 24 = .ok (.invokevirtual 247, 3) := by decide +kernel
theorem dX11_swap_27 : decode cX11_swap 27 = .ok (.ifCond .ne 5, 3) := by decide +kernel
theorem dX11_swap_30 : decode cX11_swap 30 = .ok (.iconst (-1), 1) := by decide +kernel
theorem dX11_swap_31 : decode cX11_swap 31 = .ok (.ireturn, 1) := by decide +kernel
theorem dX11_swap_32 : decode cX11_swap 32 = .ok (.aload 4, 2) := by decide +kernel
theorem dX11_swap_34 : decode cX11_swap 34 = .ok (.iload_n 3, 1) := by decide +kernel
theorem dX11_swap_35 : decode cX11_swap 35 = .ok (.invokevirtual 247, 3) := by decide +kernel
theorem dX11_swap_38 : decode cX11_swap 38 = .ok (.ifCond .eq 6, 3) := by decide +kernel
theorem dX11_swap_41 : decode cX11_swap 41 = .ok (.bipush (-2), 2) := by decide +kernel
theorem dX11_swap_43 : decode cX11_swap 43 = .ok (.ireturn, 1) := by decide +kernel
theorem dX11_swap_44 : decode cX11_swap 44 = .ok (.aload 6, 2) := by decide +kernel
theorem dX11_swap_46 : decode cX11_swap 46 = .ok (.aload 5, 2) := by decide +kernel
theorem dX11_swap_48 : decode cX11_swap 48 = .ok (.invokevirtual 250, 3) := by decide +kernel
theorem dX11_swap_51 : decode cX11_swap 51 = .ok (.ifCond .ne 6, 3) := by decide +kernel
theorem dX11_swap_54 : decode cX11_swap 54 = .ok (.bipush (-3), 2) := by decide +kernel
theorem dX11_swap_56 : decode cX11_swap 56 = .ok (.ireturn, 1) := by decide +kernel
theorem dX11_swap_57 : decode cX11_swap 57 = .ok (.aload 6, 2) := by decide +kernel
theorem dX11_swap_59 : decode cX11_swap 59 = .ok (.aload 4, 2) := by decide +kernel
theorem dX11_swap_61 : decode cX11_swap 61 = .ok (.iload_n 2, 1) := by decide +kernel
theorem dX11_swap_62 : decode cX11_swap 62 = .ok (.invokevirtual 254, 3) := by decide +kernel
theorem dX11_swap_65 : decode cX11_swap 65 = .ok (.ifCond .ne 6, 3) := by decide +kernel
theorem dX11_swap_68 : decode cX11_swap 68 = .ok (.bipush (-4), 2) := by decide +kernel
theorem dX11_swap_70 : decode cX11_swap 70 = .ok (.ireturn, 1) := by decide +kernel
theorem dX11_swap_71 : decode cX11_swap 71 = .ok (.aload 6, 2) := by decide +kernel
theorem dX11_swap_73 : decode cX11_swap 73 = .ok (.aload 4, 2) := by decide +kernel
theorem dX11_swap_75 : decode cX11_swap 75 = .ok (.iload_n 2, 1) := by decide +kernel
theorem dX11_swap_76 : decode cX11_swap 76 = .ok (.invokevirtual 258, 3) := by decide +kernel
theorem dX11_swap_79 : decode cX11_swap 79 = .ok (.ifCond .ne 6, 3) := by decide +kernel
theorem dX11_swap_82 : decode cX11_swap 82 = .ok (.bipush (-5), 2) := by decide +kernel
theorem dX11_swap_84 : decode cX11_swap 84 = .ok (.ireturn, 1) := by decide +kernel
theorem dX11_swap_85 : decode cX11_swap 85 = .ok (.aload 4, 2) := by decide +kernel
theorem dX11_swap_87 : decode cX11_swap 87 = .ok (.iload_n 2, 1) := by decide +kernel
theorem dX11_swap_88 : decode cX11_swap 88 = .ok (.iload_n 3, 1) := by decide +kernel
theorem dX11_swap_89 : decode cX11_swap 89 = .ok (.invokevirtual 261, 3) := by decide +kernel
theorem dX11_swap_92 : decode cX11_swap 92 = .ok (.iconst 1, 1) := by decide +kernel
theorem dX11_swap_93 : decode cX11_swap 93 = .ok (.ireturn, 1) := by decide +kernel
theorem dX11_set_0 : decode cX11_set 0 = .ok (.iload_n 1, 1) := by decide +kernel
theorem dX11_set_1 : decode cX11_set 1 = .ok (.ifCond .ne 43, 3) := by decide +kernel
theorem dX11_set_4 : decode cX11_set 4 = .ok (.iload_n 2, 1) := by decide +kernel
theorem dX11_set_5 : decode cX11_set 5 = .ok (.iconst 0, 1) := by decide +kernel
theorem dX11_set_6 : decode cX11_set 6 = .ok (.iconst 2, 1) := by decide +kernel
theorem dX11_set_7 : decode cX11_set 7 = .ok (.invokestatic 97, 3) := by decide +kernel
theorem dX11_set_10 : decode cX11_set 10 = .ok (.ifCond .eq 17, 3) := by decide +kernel
theorem dX11_set_13 : decode cX11_set 13 = .ok (.iload_n 3, 1) := by decide +kernel
theorem dX11_set_14 : decode cX11_set 14 = .ok (.iconst 1, 1) := by decide +kernel
theorem dX11_set_15 : decode cX11_set 15 = .ok (.bipush 100, 2) := by decide +kernel
theorem dX11_set_17 : decode cX11_set 17 = .ok (.invokestatic 97, 3) := by decide +kernel
theorem dX11_set_20 : decode cX11_set 20 = .ok (.ifCond .eq 7, 3) := by decide +kernel
theorem dX11_set_23 : decode cX11_set 23 = .ok (.iconst 1, 1) := by decide +kernel
theorem dX11_set_24 : decode cX11_set 24 = .ok (.goto 4, 3) := by decide +kernel
theorem dX11_set_27 : decode cX11_set 27 = .ok (.iconst 0, 1) := by decide +kernel
theorem dX11_set_28 : decode cX11_set 28 = .ok (.invokestatic 93, 3) := by decide +kernel
theorem dX11_set_31 : decode cX11_set 31 = .ok (.aload_n 0, 1) := by decide +kernel
theorem dX11_set_32 : decode cX11_set 32 = .ok (.getfield 10, 3) := by decide +kernel
theorem dX11_set_35 : decode cX11_set 35 = .ok (.getfield 265, 3) := by decide +kernel
theorem dX11_set_38 : decode cX11_set 38 = .ok (.iload_n 2, 1) := by decide +kernel
theorem dX11_set_39 : decode cX11_set 39 = .ok (.iload_n 3, 1) := by decide +kernel
theorem dX11_set_40 : decode cX11_set 40 = .ok (.invokestatic 121, 3) := by decide +kernel
theorem dX11_set_43 : decode cX11_set 43 = .ok (.ireturn, 1) := by decide +kernel
theorem dX11_set_44 : decode cX11_set 44 = .ok (.iload_n 1, 1) := by decide +kernel
theorem dX11_set_45 : decode cX11_set 45 = .ok (.iconst 1, 1) := by decide +kernel
theorem dX11_set_46 : decode cX11_set 46 = .ok (.if_icmp .ne 44, 3) := by decide +kernel
theorem dX11_set_49 : decode cX11_set 49 = .ok (.iload_n 2, 1) := by decide +kernel
theorem dX11_set_50 : decode cX11_set 50 = .ok (.iconst 0, 1) := by decide +kernel
theorem dX11_set_51 : decode cX11_set 51 = .ok (.bipush 7, 2) := by decide +kernel
theorem dX11_set_53 : decode cX11_set 53 = .ok (.invokestatic 97, 3) := by decide +kernel
theorem dX11_set_56 : decode cX11_set 56 = .ok (.ifCond .eq 17, 3) := by decide +kernel
theorem dX11_set_59 : decode cX11_set 59 = .ok (.iload_n 3, 1) := by decide +kernel
theorem dX11_set_60 : decode cX11_set 60 = .ok (.iconst 0, 1) := by decide +kernel
theorem dX11_set_61 : decode cX11_set 61 = .ok (.bipush 20, 2) := by decide +kernel
theorem dX11_set_63 : decode cX11_set 63 = .ok (.invokestatic 97, 3) := by decide +kernel
theorem dX11_set_66 : decode cX11_set 66 = .ok (.ifCond .eq 7, 3) := by decide +kernel
theorem dX11_set_69 : decode cX11_set 69 = .ok (.iconst 1, 1) := by decide +kernel
theorem dX11_set_70 : decode cX11_set 70 = .ok (.goto 4, 3) := by decide +kernel
theorem dX11_set_73 : decode cX11_set 73 = .ok (.iconst 0, 1) := by decide +kernel
theorem dX11_set_74 : decode cX11_set 74 = .ok (.invokestatic 93, 3) := by decide +kernel
theorem dX11_set_77 : decode cX11_set 77 = .ok (.aload_n 0, 1) := by decide +kernel
theorem dX11_set_78 : decode cX11_set 78 = .ok (.getfield 10, 3) := by decide +kernel
theorem dX11_set_81 : decode cX11_set 81 = .ok (.getfield 268, 3) := by decide +kernel
theorem dX11_set_84 : decode cX11_set 84 = .ok (.iload_n 2, 1) := by decide +kernel
theorem dX11_set_85 : decode cX11_set 85 = .ok (.iload_n 3, 1) := by decide +kernel
theorem dX11_set_86 : decode cX11_set 86 = .ok (.invokestatic 121, 3) := by decide +kernel
theorem dX11_set_89 : decode cX11_set 89 = .ok (.ireturn, 1) := by decide +kernel
theorem dX11_set_90 : decode cX11_set 90 = .ok (.aload_n 0, 1) := by decide +kernel
theorem dX11_set_91 : decode cX11_set 91 = .ok (.getfield 10, 3) := by decide +kernel
theorem dX11_set_94 : decode cX11_set 94 = .ok (.iload_n 2, 1) := by decide +kernel
theorem dX11_set_95 : decode cX11_set 95 = .ok (.invokevirtual 271, 3) := by decide +kernel
theorem dX11_set_98 : decode cX11_set 98 = .ok (.astore 4, 2) := by decide +kernel
theorem dX11_set_100 : decode cX11_set 100 = .ok (.iload_n 1, 1) := by decide +kernel
theorem dX11_set_101 : decode cX11_set 101 = .ok (.iconst 2, 1) := by decide +kernel
theorem dX11_set_102 : decode cX11_set 102 = .ok (.if_icmp .ne 18, 3) := by decide +kernel
theorem dX11_set_105 : decode cX11_set 105 = .ok (.aload 4, 2) := by decide +kernel
theorem dX11_set_107 : decode cX11_set 107 = .ok (.ifnull 13, 3) := by decide +kernel
theorem dX11_set_110 : decode cX11_set 110 = .ok (.iload_n 3, 1) := by decide +kernel
theorem dX11_set_111 : decode cX11_set 111 = .ok (.iconst 0, 1) := by decide +kernel
theorem dX11_set_112 : decode cX11_set 112 = .ok (.bipush 7, 2) := by decide +kernel
theorem dX11_set_114 : decode cX11_set 114 = .ok (.invokestatic 97, 3) := by decide +kernel
theorem dX11_set_117 : decode cX11_set 117 = .ok (.ifCond .ne 14, 3) := by decide +kernel
theorem dX11_set_120 : decode cX11_set 120 = .ok (.new 192, 3) := by decide +kernel
theorem dX11_set_123 : decode cX11_set 123 = .ok (.dup, 1) := by decide +kernel
theorem dX11_set_124 : decode cX11_set 124 = .ok (.ldc_w 274, 3) := by decide +kernel
theorem dX11_set_127 : decode cX11_set 127 = .ok (.invokespecial 196, 3) := by decide +kernel
theorem dX11_set_130 : decode cX11_set 130 = .ok (.athrow, 1) := by decide +kernel
theorem dX11_set_131 : decode cX11_set 131 = .ok (.aload 4, 2) := by decide +kernel
theorem dX11_set_133 : decode cX11_set 133 = .ok (.getfield 181, 3) := by decide +kernel
theorem dX11_set_136 : decode cX11_set 136 = .ok (.istore 5, 2) := by decide +kernel
theorem dX11_set_138 : decode cX11_set 138 = .ok (.aload 4, 2) := by decide +kernel
theorem dX11_set_140 : decode cX11_set 140 = .ok (.iload_n 3, 1) := by decide +kernel
theorem dX11_set_141 : decode cX11_set 141 = .ok (.putfield 181, 3) := by decide +kernel
theorem dX11_set_144 : decode cX11_set 144 = .ok (.iload 5, 2) := by decide +kernel
theorem dX11_set_146 : decode cX11_set 146 = .ok (.ireturn, 1) := by decide +kernel
theorem dX11_lasts_0 : decode cX11_lasts 0 = .ok (.aload_n 0, 1) := by decide +kernel
theorem dX11_lasts_1 : decode cX11_lasts 1 = .ok (.iload_n 1, 1) := by decide +kernel
theorem dX11_lasts_2 : decode cX11_lasts 2 = .ok (.invokevirtual 166, 3) := by decide +kernel
theorem dX11_lasts_5 : decode cX11_lasts 5 = .ok (.astore_n 3, 1) := by decide +kernel
theorem dX11_lasts_6 : decode cX11_lasts 6 = .ok (.iload_n 2, 1) := by decide +kernel
theorem dX11_lasts_7 : decode cX11_lasts 7 = .ok (.iconst 0, 1) := by decide +kernel
theorem dX11_lasts_8 : decode cX11_lasts 8 = .ok (.iconst 2, 1) := by decide +kernel
theorem dX11_lasts_9 : decode cX11_lasts 9 = .ok (.invokestatic 97, 3) := by decide +kernel
theorem dX11_lasts_12 : decode cX11_lasts 12 = .ok (.invokestatic 93, 3) := by decide +kernel
theorem dX11_lasts_15 : decode cX11_lasts 15 = .ok (.aload_n 0, 1) := by decide +kernel
theorem dX11_lasts_16 : decode cX11_lasts 16 = .ok (.getfield 10, 3) := by decide +kernel
theorem dX11_lasts_19 : decode cX11_lasts 19 = .ok (.aload_n 3, 1) := by decide +kernel
theorem dX11_lasts_20 : decode cX11_lasts 20 = .ok (.iload_n 2, 1) := by decide +kernel
theorem dX11_lasts_21 : decode cX11_lasts 21 = .ok (.invokevirtual 276, 3) := by decide +kernel
theorem dX11_lasts_24 : decode cX11_lasts 24 = .ok (.ireturn, 1) := by decide +kernel
theorem dX11_clash_0 : decode cX11_clash 0 = .ok (.aload_n 0, 1) := by decide +kernel
theorem dX11_clash_1 : decode cX11_clash 1 = .ok (.iload_n 1, 1) := by decide +kernel
theorem dX11_clash_2 : decode cX11_clash 2 = .ok (.invokevirtual 166, 3) := by decide +kernel
theorem dX11_clash_5 : decode cX11_clash 5 = .ok (.astore_n 3, 1) := by decide +kernel
theorem dX11_clash_6 : decode cX11_clash 6 = .ok (.aload_n 0, 1) := by decide +kernel
theorem dX11_clash_7 : decode cX11_clash 7 = .ok (.getfield 10, 3) := by decide +kernel
theorem dX11_clash_10 : decode cX11_clash 10 = .ok (.aload_n 3, 1) := by decide +kernel
theorem dX11_clash_11 : decode cX11_clash 11 = .ok (.aload_n 0, 1) := by decide +kernel
theorem dX11_clash_12 : decode cX11_clash 12 = .ok (.iload_n 2, 1) := by decide +kernel
theorem dX11_clash_13 : decode cX11_clash 13 = .ok (.invokevirtual 166, 3) := by decide +kernel
theorem dX11_clash_16 : decode cX11_clash 16 = .ok (.invokevirtual 279, 3) := by decide +kernel
theorem dX11_clash_19 : decode cX11_clash 19 = .ok (.ireturn, 1) := by decide +kernel
theorem dX11_best_0 : decode cX11_best 0 = .ok (.iload_n 1, 1) := by decide +kernel
theorem dX11_best_1 : decode cX11_best 1 = .ok (.ifCond .le 20, 3) := by decide +kernel
theorem dX11_best_4 : decode cX11_best 4 = .ok (.iload_n 1, 1) := by decide +kernel
theorem dX11_best_5 : decode cX11_best 5 = .ok (.iconst 1, 1) := by decide +kernel
theorem dX11_best_6 : decode cX11_best 6 = .ok (.aload_n 0, 1) := by decide +kernel
theorem dX11_best_7 : decode cX11_best 7 = .ok (.getfield 10, 3) := by decide +kernel
theorem dX11_best_10 : decode cX11_best 10 = .ok (.getfield 132, 3) := by decide +kernel
theorem dX11_best_13 : decode cX11_best 13 = .ok (.ishl, 1) := by decide +kernel
theorem dX11_best_14 : decode cX11_best 14 = .ok (.if_icmp .ge 7, 3) := by decide +kernel
theorem dX11_best_17 : decode cX11_best 17 = .ok (.iconst 1, 1) := by decide +kernel
theorem dX11_best_18 : decode cX11_best 18 = .ok (.goto 4, 3) := by decide +kernel
theorem dX11_best_21 : decode cX11_best 21 = .ok (.iconst 0, 1) := by decide +kernel
theorem dX11_best_22 : decode cX11_best 22 = .ok (.invokestatic 93, 3) := by decide +kernel
theorem dX11_best_25 : decode cX11_best 25 = .ok (.iload_n 1, 1) := by decide +kernel
theorem dX11_best_26 : decode cX11_best 26 = .ok (.invokestatic 283, 3) := by decide +kernel
theorem dX11_best_29 : decode cX11_best 29 = .ok (.iconst 1, 1) := by decide +kernel
theorem dX11_best_30 : decode cX11_best 30 = .ok (.iconst 5, 1) := by decide +kernel
theorem dX11_best_31 : decode cX11_best 31 = .ok (.invokestatic 97, 3) := by decide +kernel
theorem dX11_best_34 : decode cX11_best 34 = .ok (.ifCond .eq 16, 3) := by decide +kernel
theorem dX11_best_37 : decode cX11_best 37 = .ok (.iload_n 2, 1) := by decide +kernel
theorem dX11_best_38 : decode cX11_best 38 = .ok (.iconst 0, 1) := by decide +kernel
theorem dX11_best_39 : decode cX11_best 39 = .ok (.iconst 5, 1) := by decide +kernel
theorem dX11_best_40 : decode cX11_best 40 = .ok (.invokestatic 97, 3) := by decide +kernel
theorem dX11_best_43 : decode cX11_best 43 = .ok (.ifCond .eq 7, 3) := by decide +kernel
theorem dX11_best_46 : decode cX11_best 46 = .ok (.iconst 1, 1) := by decide +kernel
theorem dX11_best_47 : decode cX11_best 47 = .ok (.goto 4, 3) := by decide +kernel
theorem dX11_best_50 : decode cX11_best 50 = .ok (.iconst 0, 1) := by decide +kernel
theorem dX11_best_51 : decode cX11_best 51 = .ok (.invokestatic 93, 3) := by decide +kernel
theorem dX11_best_54 : decode cX11_best 54 = .ok (.aload_n 0, 1) := by decide +kernel
theorem dX11_best_55 : decode cX11_best 55 = .ok (.getfield 37, 3) := by decide +kernel
theorem dX11_best_58 : decode cX11_best 58 = .ok (.iload_n 1, 1) := by decide +kernel
theorem dX11_best_59 : decode cX11_best 59 = .ok (.invokevirtual 288, 3) := by decide +kernel
theorem dX11_best_62 : decode cX11_best 62 = .ok (.iload_n 2, 1) := by decide +kernel
theorem dX11_best_63 : decode cX11_best 63 = .ok (.iconst 4, 1) := by decide +kernel
theorem dX11_best_64 : decode cX11_best 64 = .ok (.if_icmp .ne 11, 3) := by decide +kernel
theorem dX11_best_67 : decode cX11_best 67 = .ok (.aload_n 0, 1) := by decide +kernel
theorem dX11_best_68 : decode cX11_best 68 = .ok (.getfield 37, 3) := by decide +kernel
theorem dX11_best_71 : decode cX11_best 71 = .ok (.getfield 291, 3) := by decide +kernel
theorem dX11_best_74 : decode cX11_best 74 = .ok (.ireturn, 1) := by decide +kernel
theorem dX11_best_75 : decode cX11_best 75 = .ok (.iload_n 2, 1) := by decide +kernel
theorem dX11_best_76 : decode cX11_best 76 = .ok (.iconst 5, 1) := by decide +kernel
theorem dX11_best_77 : decode cX11_best 77 = .ok (.if_icmp .ne 11, 3) := by decide +kernel
theorem dX11_best_80 : decode cX11_best 80 = .ok (.aload_n 0, 1) := by decide +kernel
theorem dX11_best_81 : decode cX11_best 81 = .ok (.getfield 37, 3) := by decide +kernel
theorem dX11_best_84 : decode cX11_best 84 = .ok (.getfield 294, 3) := by decide +kernel
theorem dX11_best_87 : decode cX11_best 87 = .ok (.ireturn, 1) := by decide +kernel
theorem dX11_best_88 : decode cX11_best 88 = .ok (.aload_n 0, 1) := by decide +kernel
theorem dX11_best_89 : decode cX11_best 89 = .ok (.getfield 37, 3) := by decide +kernel
theorem dX11_best_92 : decode cX11_best 92 = .ok (.iload_n 3, 1) := by decide +kernel
theorem dX11_best_93 : decode cX11_best 93 = .ok (.iload_n 2, 1) := by decide +kernel
theorem dX11_best_94 : decode cX11_best 94 = .ok (.invokevirtual 297, 3) := by decide +kernel
theorem dX11_best_97 : decode cX11_best 97 = .ok (.ireturn, 1) := by decide +kernel
theorem dX11_row_0 : decode cX11_row 0 = .ok (.aload_n 0, 1) := by decide +kernel
theorem dX11_row_1 : decode cX11_row 1 = .ok (.iload_n 1, 1) := by decide +kernel
theorem dX11_row_2 : decode cX11_row 2 = .ok (.invokevirtual 166, 3) := by decide +kernel
theorem dX11_row_5 : decode cX11_row 5 = .ok (.pop, 1) := by decide +kernel
theorem dX11_row_6 : decode cX11_row 6 = .ok (.iload_n 2, 1) := by decide +kernel
theorem dX11_row_7 : decode cX11_row 7 = .ok (.iconst 0, 1) := by decide +kernel
theorem dX11_row_8 : decode cX11_row 8 = .ok (.iconst 2, 1) := by decide +kernel
theorem dX11_row_9 : decode cX11_row 9 = .ok (.invokestatic 97, 3) := by decide +kernel
theorem dX11_row_12 : decode cX11_row 12 = .ok (.ifCond .eq 18, 3) := by decide +kernel
theorem dX11_row_15 : decode cX11_row 15 = .ok (.iload_n 3, 1) := by decide +kernel
theorem dX11_row_16 : decode cX11_row 16 = .ok (.iconst 0, 1) := by decide +kernel
theorem dX11_row_17 : decode cX11_row 17 = .ok (.ldc_w 300, 3) := by decide +kernel
theorem dX11_row_20 : decode cX11_row 20 = .ok (.invokestatic 97, 3) := by decide +kernel
theorem dX11_row_23 : decode cX11_row 23 = .ok (.ifCond .eq 7, 3) := by decide +kernel
theorem dX11_row_26 : decode cX11_row 26 = .ok (.iconst 1, 1) := by decide +kernel
theorem dX11_row_27 : decode cX11_row 27 = .ok (.goto 4, 3) := by decide +kernel
theorem dX11_row_30 : decode cX11_row 30 = .ok (.iconst 0, 1) := by decide +kernel
theorem dX11_row_31 : decode cX11_row 31 = .ok (.invokestatic 93, 3) := by decide +kernel
theorem dX11_row_34 : decode cX11_row 34 = .ok (.aload_n 0, 1) := by decide +kernel
theorem dX11_row_35 : decode cX11_row 35 = .ok (.getfield 44, 3) := by decide +kernel
theorem dX11_row_38 : decode cX11_row 38 = .ok (.iload_n 1, 1) := by decide +kernel
theorem dX11_row_39 : decode cX11_row 39 = .ok (.iload_n 2, 1) := by decide +kernel
theorem dX11_row_40 : decode cX11_row 40 = .ok (.iload_n 3, 1) := by decide +kernel
theorem dX11_row_41 : decode cX11_row 41 = .ok (.invokevirtual 301, 3) := by decide +kernel
theorem dX11_row_44 : decode cX11_row 44 = .ok (.ireturn, 1) := by decide +kernel
theorem dX11_check_0 : decode cX11_check 0 = .ok (.iconst 0, 1) := by decide +kernel
theorem dX11_check_1 : decode cX11_check 1 = .ok (.istore_n 1, 1) := by decide +kernel
theorem dX11_check_2 : decode cX11_check 2 = .ok (.iload_n 1, 1) := by decide +kernel
theorem dX11_check_3 : decode cX11_check 3 = .ok (.aload_n 0, 1) := by decide +kernel
theorem dX11_check_4 : decode cX11_check 4 = .ok (.getfield 44, 3) := by decide +kernel
theorem dX11_check_7 : decode cX11_check 7 = .ok (.getfield 304, 3) := by decide +kernel
theorem dX11_check_10 : decode cX11_check 10 = .ok (.if_icmp .ge 28, 3) := by decide +kernel
theorem dX11_check_13 : decode cX11_check 13 = .ok (.aload_n 0, 1) := by decide +kernel
theorem dX11_check_14 : decode cX11_check 14 = .ok (.getfield 44, 3) := by decide +kernel
theorem dX11_check_17 : decode cX11_check 17 = .ok (.iload_n 1, 1) := by decide +kernel
theorem dX11_check_18 : decode cX11_check 18 = .ok (.invokevirtual 307, 3) := by decide +kernel
theorem dX11_check_21 : decode cX11_check 21 = .ok (.istore_n 2, 1) := by decide +kernel
theorem dX11_check_22 : decode cX11_check 22 = .ok (.iload_n 2, 1) := by decide +kernel
theorem dX11_check_23 : decode cX11_check 23 = .ok (.ifCond .eq 9, 3) := by decide +kernel
theorem dX11_check_26 : decode cX11_check 26 = .ok (.iconst 4, 1) := by decide +kernel
theorem dX11_check_27 : decode cX11_check 27 = .ok (.iload_n 1, 1) := by decide +kernel
theorem dX11_check_28 : decode cX11_check 28 = .ok (.imul, 1) := by decide +kernel
theorem dX11_check_29 : decode cX11_check 29 = .ok (.iload_n 2, 1) := by decide +kernel
theorem dX11_check_30 : decode cX11_check 30 = .ok (.iadd, 1) := by decide +kernel
theorem dX11_check_31 : decode cX11_check 31 = .ok (.ireturn, 1) := by decide +kernel
theorem dX11_check_32 : decode cX11_check 32 = .ok (.iinc 1 1, 3) := by decide +kernel
theorem dX11_check_35 : decode cX11_check 35 = .ok (.goto (-33), 3) := by decide +kernel
theorem dX11_check_38 : decode cX11_check 38 = .ok (.iconst (-1), 1) := by decide +kernel
theorem dX11_check_39 : decode cX11_check 39 = .ok (.ireturn, 1) := by decide +kernel
theorem dX11_clear_0 : decode cX11_clear 0 = .ok (.aload_n 0, 1) := by decide +kernel
theorem dX11_clear_1 : decode cX11_clear 1 = .ok (.getfield 44, 3) := by decide +kernel
theorem dX11_clear_4 : decode cX11_clear 4 = .ok (.getfield 304, 3) := by decide +kernel
theorem dX11_clear_7 : decode cX11_clear 7 = .ok (.istore_n 1, 1) := by decide +kernel
theorem dX11_clear_8 : decode cX11_clear 8 = .ok (.aload_n 0, 1) := by decide +kernel
theorem dX11_clear_9 : decode cX11_clear 9 = .ok (.getfield 44, 3) := by decide +kernel
theorem dX11_clear_12 : decode cX11_clear 12 = .ok (.iconst 0, 1) := by decide +kernel
theorem dX11_clear_13 : decode cX11_clear 13 = .ok (.putfield 304, 3) := by decide +kernel
theorem dX11_clear_16 : decode cX11_clear 16 = .ok (.iload_n 1, 1) := by decide +kernel
theorem dX11_clear_17 : decode cX11_clear 17 = .ok (.ireturn, 1) := by decide +kernel
theorem dX11_bump_0 : decode cX11_bump 0 = .ok (.aload_n 0, 1) := by decide +kernel
theorem dX11_bump_1 : decode cX11_bump 1 = .ok (.iload_n 1, 1) := by decide +kernel
theorem dX11_bump_2 : decode cX11_bump 2 = .ok (.invokevirtual 166, 3) := by decide +kernel
theorem dX11_bump_5 : decode cX11_bump 5 = .ok (.astore 5, 2) := by decide +kernel
theorem dX11_bump_7 : decode cX11_bump 7 = .ok (.aload 5, 2) := by decide +kernel
theorem dX11_bump_9 : decode cX11_bump 9 = .ok (.iload_n 2, 1) := by decide +kernel
theorem dX11_bump_10 : decode cX11_bump 10 = .ok (.invokestatic 240, 3) := by decide +kernel
theorem dX11_bump_13 : decode cX11_bump 13 = .ok (.iload_n 3, 1) := by decide +kernel
theorem dX11_bump_14 : decode cX11_bump 14 = .ok (.iconst 1, 1) := by decide +kernel
theorem dX11_bump_15 : decode cX11_bump 15 = .ok (.sipush 1000, 3) := by decide +kernel
theorem dX11_bump_18 : decode cX11_bump 18 = .ok (.invokestatic 97, 3) := by decide +kernel
theorem dX11_bump_21 : decode cX11_bump 21 = .ok (.ifCond .eq 17, 3) := by decide +kernel
theorem dX11_bump_24 : decode cX11_bump 24 = .ok (.iload 4, 2) := by decide +kernel
theorem dX11_bump_26 : decode cX11_bump 26 = .ok (.iconst 0, 1) := by decide +kernel
theorem dX11_bump_27 : decode cX11_bump 27 = .ok (.iconst 2, 1) := by decide +kernel
theorem dX11_bump_28 : decode cX11_bump 28 = .ok (.invokestatic 97, 3) := by decide +kernel
theorem dX11_bump_31 : decode cX11_bump 31 = .ok (.ifCond .eq 7, 3) := by decide +kernel
theorem dX11_bump_34 : decode cX11_bump 34 = .ok (.iconst 1, 1) := by decide +kernel
theorem dX11_bump_35 : decode cX11_bump 35 = .ok (.goto 4, 3) := by decide +kernel
theorem dX11_bump_38 : decode cX11_bump 38 = .ok (.iconst 0, 1) := by decide +kernel
theorem dX11_bump_39 : decode cX11_bump 39 = .ok (.invokestatic 93, 3) := by decide +kernel
theorem dX11_bump_42 : decode cX11_bump 42 = .ok (.aload_n 0, 1) := by decide +kernel
theorem dX11_bump_43 : decode cX11_bump 43 = .ok (.getfield 10, 3) := by decide +kernel
theorem dX11_bump_46 : decode cX11_bump 46 = .ok (.aload 5, 2) := by decide +kernel
theorem dX11_bump_48 : decode cX11_bump 48 = .ok (.iload_n 2, 1) := by decide +kernel
theorem dX11_bump_49 : decode cX11_bump 49 = .ok (.invokevirtual 310, 3) := by decide +kernel
theorem dX11_bump_52 : decode cX11_bump 52 = .ok (.istore 6, 2) := by decide +kernel
theorem dX11_bump_54 : decode cX11_bump 54 = .ok (.iload 4, 2) := by decide +kernel
theorem dX11_bump_56 : decode cX11_bump 56 = .ok (.iconst 2, 1) := by decide +kernel
theorem dX11_bump_57 : decode cX11_bump 57 = .ok (.if_icmp .ne 6, 3) := by decide +kernel
theorem dX11_bump_60 : decode cX11_bump 60 = .ok (.iload 6, 2) := by decide +kernel
theorem dX11_bump_62 : decode cX11_bump 62 = .ok (.ireturn, 1) := by decide +kernel
theorem dX11_bump_63 : decode cX11_bump 63 = .ok (.aload 5, 2) := by decide +kernel
theorem dX11_bump_65 : decode cX11_bump 65 = .ok (.getfield 175, 3) := by decide +kernel
theorem dX11_bump_68 : decode cX11_bump 68 = .ok (.invokestatic 283, 3) := by decide +kernel
theorem dX11_bump_71 : decode cX11_bump 71 = .ok (.istore 7, 2) := by decide +kernel
theorem dX11_bump_73 : decode cX11_bump 73 = .ok (.iload_n 3, 1) := by decide +kernel
theorem dX11_bump_74 : decode cX11_bump 74 = .ok (.aload 5, 2) := by decide +kernel
theorem dX11_bump_76 : decode cX11_bump 76 = .ok (.getfield 170, 3) := by decide +kernel
theorem dX11_bump_79 : decode cX11_bump 79 = .ok (.iload_n 2, 1) := by decide +kernel
theorem dX11_bump_80 : decode cX11_bump 80 = .ok (.isub, 1) := by decide +kernel
theorem dX11_bump_81 : decode cX11_bump 81 = .ok (.imul, 1) := by decide +kernel
theorem dX11_bump_82 : decode cX11_bump 82 = .ok (.istore 8, 2) := by decide +kernel
theorem dX11_bump_84 : decode cX11_bump 84 = .ok (.iload_n 2, 1) := by decide +kernel
theorem dX11_bump_85 : decode cX11_bump 85 = .ok (.iload 6, 2) := by decide +kernel
theorem dX11_bump_87 : decode cX11_bump 87 = .ok (.isub, 1) := by decide +kernel
theorem dX11_bump_88 : decode cX11_bump 88 = .ok (.iconst 1, 1) := by decide +kernel
theorem dX11_bump_89 : decode cX11_bump 89 = .ok (.iadd, 1) := by decide +kernel
theorem dX11_bump_90 : decode cX11_bump 90 = .ok (.iload 7, 2) := by decide +kernel
theorem dX11_bump_92 : decode cX11_bump 92 = .ok (.imul, 1) := by decide +kernel
theorem dX11_bump_93 : decode cX11_bump 93 = .ok (.iload_n 3, 1) := by decide +kernel
theorem dX11_bump_94 : decode cX11_bump 94 = .ok (.iadd, 1) := by decide +kernel
theorem dX11_bump_95 : decode cX11_bump 95 = .ok (.istore 9, 2) := by decide +kernel
theorem dX11_bump_97 : decode cX11_bump 97 = .ok (.aload 5, 2) := by decide +kernel
theorem dX11_bump_99 : decode cX11_bump 99 = .ok (.getfield 170, 3) := by decide +kernel
theorem dX11_bump_102 : decode cX11_bump 102 = .ok (.iload 7, 2) := by decide +kernel
theorem dX11_bump_104 : decode cX11_bump 104 = .ok (.imul, 1) := by decide +kernel
theorem dX11_bump_105 : decode cX11_bump 105 = .ok (.bipush 10, 2) := by decide +kernel
theorem dX11_bump_107 : decode cX11_bump 107 = .ok (.aload_n 0, 1) := by decide +kernel
theorem dX11_bump_108 : decode cX11_bump 108 = .ok (.getfield 10, 3) := by decide +kernel
theorem dX11_bump_111 : decode cX11_bump 111 = .ok (.aload 5, 2) := by decide +kernel
theorem dX11_bump_113 : decode cX11_bump 113 = .ok (.getfield 181, 3) := by decide +kernel
theorem dX11_bump_116 : decode cX11_bump 116 = .ok (.invokevirtual 313, 3) := by decide +kernel
theorem dX11_bump_119 : decode cX11_bump 119 = .ok (.imul, 1) := by decide +kernel
theorem dX11_bump_120 : decode cX11_bump 120 = .ok (.iadd, 1) := by decide +kernel
theorem dX11_bump_121 : decode cX11_bump 121 = .ok (.istore 10, 2) := by decide +kernel
theorem dX11_bump_123 : decode cX11_bump 123 = .ok (.iload 8, 2) := by decide +kernel
theorem dX11_bump_125 : decode cX11_bump 125 = .ok (.iload 9, 2) := by decide +kernel
theorem dX11_bump_127 : decode cX11_bump 127 = .ok (.iload 10, 2) := by decide +kernel
theorem dX11_bump_129 : decode cX11_bump 129 = .ok (.invokestatic 316, 3) := by decide +kernel
theorem dX11_bump_132 : decode cX11_bump 132 = .ok (.invokestatic 316, 3) := by decide +kernel
theorem dX11_bump_135 : decode cX11_bump 135 = .ok (.istore 11, 2) := by decide +kernel
theorem dX11_bump_137 : decode cX11_bump 137 = .ok (.iload 4, 2) := by decide +kernel
theorem dX11_bump_139 : decode cX11_bump 139 = .ok (.iconst 1, 1) := by decide +kernel
theorem dX11_bump_140 : decode cX11_bump 140 = .ok (.if_icmp .ne 6, 3) := by decide +kernel
theorem dX11_bump_143 : decode cX11_bump 143 = .ok (.iload 11, 2) := by decide +kernel
theorem dX11_bump_145 : decode cX11_bump 145 = .ok (.ireturn, 1) := by decide +kernel
theorem dX11_bump_146 : decode cX11_bump 146 = .ok (.iload 8, 2) := by decide +kernel
theorem dX11_bump_148 : decode cX11_bump 148 = .ok (.iload 11, 2) := by decide +kernel
theorem dX11_bump_150 : decode cX11_bump 150 = .ok (.if_icmp .ne 7, 3) := by decide +kernel
theorem dX11_bump_153 : decode cX11_bump 153 = .ok (.iconst 0, 1) := by decide +kernel
theorem dX11_bump_154 : decode cX11_bump 154 = .ok (.goto 15, 3) := by decide +kernel
theorem dX11_bump_157 : decode cX11_bump 157 = .ok (.iload 9, 2) := by decide +kernel
theorem dX11_bump_159 : decode cX11_bump 159 = .ok (.iload 11, 2) := by decide +kernel
theorem dX11_bump_161 : decode cX11_bump 161 = .ok (.if_icmp .ne 7, 3) := by decide +kernel
theorem dX11_bump_164 : decode cX11_bump 164 = .ok (.iconst 1, 1) := by decide +kernel
theorem dX11_bump_165 : decode cX11_bump 165 = .ok (.goto 4, 3) := by decide +kernel
theorem dX11_bump_168 : decode cX11_bump 168 = .ok (.iconst 2, 1) := by decide +kernel
theorem dX11_bump_169 : decode cX11_bump 169 = .ok (.ireturn, 1) := by decide +kernel
theorem dX11_wait_0 : decode cX11_wait 0 = .ok (.iload_n 1, 1) := by decide +kernel
theorem dX11_wait_1 : decode cX11_wait 1 = .ok (.iconst 0, 1) := by decide +kernel
theorem dX11_wait_2 : decode cX11_wait 2 = .ok (.sipush 1000, 3) := by decide +kernel
theorem dX11_wait_5 : decode cX11_wait 5 = .ok (.invokestatic 97, 3) := by decide +kernel
theorem dX11_wait_8 : decode cX11_wait 8 = .ok (.invokestatic 93, 3) := by decide +kernel
theorem dX11_wait_11 : decode cX11_wait 11 = .ok (.aload_n 0, 1) := by decide +kernel
theorem dX11_wait_12 : decode cX11_wait 12 = .ok (.getfield 60, 3) := by decide +kernel
theorem dX11_wait_15 : decode cX11_wait 15 = .ok (.dup, 1) := by decide +kernel
theorem dX11_wait_16 : decode cX11_wait 16 = .ok (.getfield 321, 3) := by decide +kernel
theorem dX11_wait_19 : decode cX11_wait 19 = .ok (.iload_n 1, 1) := by decide +kernel
theorem dX11_wait_20 : decode cX11_wait 20 = .ok (.iadd, 1) := by decide +kernel
theorem dX11_wait_21 : decode cX11_wait 21 = .ok (.putfield 321, 3) := by decide +kernel
theorem dX11_wait_24 : decode cX11_wait 24 = .ok (.aload_n 0, 1) := by decide +kernel
theorem dX11_wait_25 : decode cX11_wait 25 = .ok (.getfield 60, 3) := by decide +kernel
theorem dX11_wait_28 : decode cX11_wait 28 = .ok (.getfield 321, 3) := by decide +kernel
theorem dX11_wait_31 : decode cX11_wait 31 = .ok (.ireturn, 1) := by decide +kernel
theorem dX11_shoot_0 : decode cX11_shoot 0 = .ok (.aload_n 0, 1) := by decide +kernel
theorem dX11_shoot_1 : decode cX11_shoot 1 = .ok (.iload_n 1, 1) := by decide +kernel
theorem dX11_shoot_2 : decode cX11_shoot 2 = .ok (.invokevirtual 166, 3) := by decide +kernel
theorem dX11_shoot_5 : decode cX11_shoot 5 = .ok (.astore_n 3, 1) := by decide +kernel
theorem dX11_shoot_6 : decode cX11_shoot 6 = .ok (.iload_n 2, 1) := by decide +kernel
theorem dX11_shoot_7 : decode cX11_shoot 7 = .ok (.iconst 0, 1) := by decide +kernel
theorem dX11_shoot_8 : decode cX11_shoot 8 = .ok (.sipush 400, 3) := by decide +kernel
theorem dX11_shoot_11 : decode cX11_shoot 11 = .ok (.invokestatic 97, 3) := by decide +kernel
theorem dX11_shoot_14 : decode cX11_shoot 14 = .ok (.invokestatic 93, 3) := by decide +kernel
theorem dX11_shoot_17 : decode cX11_shoot 17 = .ok (.iload_n 2, 1) := by decide +kernel
theorem dX11_shoot_18 : decode cX11_shoot 18 = .ok (.aload_n 3, 1) := by decide +kernel
theorem dX11_shoot_19 : decode cX11_shoot 19 = .ok (.getfield 170, 3) := by decide +kernel
theorem dX11_shoot_22 : decode cX11_shoot 22 = .ok (.aload_n 0, 1) := by decide +kernel
theorem dX11_shoot_23 : decode cX11_shoot 23 = .ok (.getfield 60, 3) := by decide +kernel
theorem dX11_shoot_26 : decode cX11_shoot 26 = .ok (.iload_n 1, 1) := by decide +kernel
theorem dX11_shoot_27 : decode cX11_shoot 27 = .ok (.invokevirtual 184, 3) := by decide +kernel
theorem dX11_shoot_30 : decode cX11_shoot 30 = .ok (.isub, 1) := by decide +kernel
theorem dX11_shoot_31 : decode cX11_shoot 31 = .ok (.if_icmp .le 5, 3) := by decide +kernel
theorem dX11_shoot_34 : decode cX11_shoot 34 = .ok (.iconst (-1), 1) := by decide +kernel
theorem dX11_shoot_35 : decode cX11_shoot 35 = .ok (.ireturn, 1) := by decide +kernel
theorem dX11_shoot_36 : decode cX11_shoot 36 = .ok (.aload_n 0, 1) := by decide +kernel
theorem dX11_shoot_37 : decode cX11_shoot 37 = .ok (.getfield 60, 3) := by decide +kernel
theorem dX11_shoot_40 : decode cX11_shoot 40 = .ok (.iload_n 1, 1) := by decide +kernel
theorem dX11_shoot_41 : decode cX11_shoot 41 = .ok (.iload_n 2, 1) := by decide +kernel
theorem dX11_shoot_42 : decode cX11_shoot 42 = .ok (.invokevirtual 324, 3) := by decide +kernel
theorem dX11_shoot_45 : decode cX11_shoot 45 = .ok (.aload_n 0, 1) := by decide +kernel
theorem dX11_shoot_46 : decode cX11_shoot 46 = .ok (.getfield 60, 3) := by decide +kernel
theorem dX11_shoot_49 : decode cX11_shoot 49 = .ok (.iload_n 1, 1) := by decide +kernel
theorem dX11_shoot_50 : decode cX11_shoot 50 = .ok (.invokevirtual 184, 3) := by decide +kernel
theorem dX11_shoot_53 : decode cX11_shoot 53 = .ok (.ireturn, 1) := by decide +kernel
theorem dX11_when_0 : decode cX11_when 0 = .ok (.aload_n 0, 1) := by decide +kernel
theorem dX11_when_1 : decode cX11_when 1 = .ok (.iload_n 1, 1) := by decide +kernel
theorem dX11_when_2 : decode cX11_when 2 = .ok (.invokevirtual 166, 3) := by decide +kernel
theorem dX11_when_5 : decode cX11_when 5 = .ok (.astore_n 3, 1) := by decide +kernel
theorem dX11_when_6 : decode cX11_when 6 = .ok (.aload_n 3, 1) := by decide +kernel
theorem dX11_when_7 : decode cX11_when 7 = .ok (.iload_n 2, 1) := by decide +kernel
theorem dX11_when_8 : decode cX11_when 8 = .ok (.invokestatic 240, 3) := by decide +kernel
theorem dX11_when_11 : decode cX11_when 11 = .ok (.iload_n 2, 1) := by decide +kernel
theorem dX11_when_12 : decode cX11_when 12 = .ok (.aload_n 0, 1) := by decide +kernel
theorem dX11_when_13 : decode cX11_when 13 = .ok (.getfield 60, 3) := by decide +kernel
theorem dX11_when_16 : decode cX11_when 16 = .ok (.iload_n 1, 1) := by decide +kernel
theorem dX11_when_17 : decode cX11_when 17 = .ok (.invokevirtual 184, 3) := by decide +kernel
theorem dX11_when_20 : decode cX11_when 20 = .ok (.if_icmp .ge 11, 3) := by decide +kernel
theorem dX11_when_23 : decode cX11_when 23 = .ok (.aload_n 3, 1) := by decide +kernel
theorem dX11_when_24 : decode cX11_when 24 = .ok (.iload_n 2, 1) := by decide +kernel
theorem dX11_when_25 : decode cX11_when 25 = .ok (.invokevirtual 327, 3) := by decide +kernel
theorem dX11_when_28 : decode cX11_when 28 = .ok (.goto 4, 3) := by decide +kernel
theorem dX11_when_31 : decode cX11_when 31 = .ok (.iconst (-1), 1) := by decide +kernel
theorem dX11_when_32 : decode cX11_when 32 = .ok (.ireturn, 1) := by decide +kernel
theorem dX11_measure_0 : decode cX11_measure 0 = .ok (.aload_n 0, 1) := by decide +kernel
theorem dX11_measure_1 : decode cX11_measure 1 = .ok (.iload_n 1, 1) := by decide +kernel
theorem dX11_measure_2 : decode cX11_measure 2 = .ok (.invokevirtual 166, 3) := by decide +kernel
theorem dX11_measure_5 : decode cX11_measure 5 = .ok (.astore 4, 2) := by decide +kernel
theorem dX11_measure_7 : decode cX11_measure 7 = .ok (.aload 4, 2) := by decide +kernel
theorem dX11_measure_9 : decode cX11_measure 9 = .ok (.iload_n 2, 1) := by decide +kernel
theorem dX11_measure_10 : decode cX11_measure 10 = .ok (.invokestatic 240, 3) := by decide +kernel
theorem dX11_measure_13 : decode cX11_measure 13 = .ok (.iload_n 3, 1) := by decide +kernel
theorem dX11_measure_14 : decode cX11_measure 14 = .ok (.sipush (-1000), 3) := by decide +kernel
theorem dX11_measure_17 : decode cX11_measure 17 = .ok (.sipush 1000, 3) := by decide +kernel
theorem dX11_measure_20 : decode cX11_measure 20 = .ok (.invokestatic 97, 3) := by decide +kernel
theorem dX11_measure_23 : decode cX11_measure 23 = .ok (.invokestatic 93, 3) := by decide +kernel
theorem dX11_measure_26 : decode cX11_measure 26 = .ok (.iload_n 2, 1) := by decide +kernel
theorem dX11_measure_27 : decode cX11_measure 27 = .ok (.aload_n 0, 1) := by decide +kernel
theorem dX11_measure_28 : decode cX11_measure 28 = .ok (.getfield 60, 3) := by decide +kernel
theorem dX11_measure_31 : decode cX11_measure 31 = .ok (.iload_n 1, 1) := by decide +kernel
theorem dX11_measure_32 : decode cX11_measure 32 = .ok (.invokevirtual 184, 3) := by decide +kernel
theorem dX11_measure_35 : decode cX11_measure 35 = .ok (.if_icmp .lt 5, 3) := by decide +kernel
theorem dX11_measure_38 : decode cX11_measure 38 = .ok (.iconst (-1), 1) := by decide +kernel
theorem dX11_measure_39 : decode cX11_measure 39 = .ok (.ireturn, 1) := by decide +kernel
theorem dX11_measure_40 : decode cX11_measure 40 = .ok (.aload_n 0, 1) := by decide +kernel
theorem dX11_measure_41 : decode cX11_measure 41 = .ok (.getfield 51, 3) := by decide +kernel
theorem dX11_measure_44 : decode cX11_measure 44 = .ok (.getfield 330, 3) := by decide +kernel
theorem dX11_measure_47 : decode cX11_measure 47 = .ok (.bipush 80, 2) := by decide +kernel
theorem dX11_measure_49 : decode cX11_measure 49 = .ok (.if_icmp .lt 6, 3) := by decide +kernel
theorem dX11_measure_52 : decode cX11_measure 52 = .ok (.bipush (-2), 2) := by decide +kernel
theorem dX11_measure_54 : decode cX11_measure 54 = .ok (.ireturn, 1) := by decide +kernel
theorem dX11_measure_55 : decode cX11_measure 55 = .ok (.aload_n 0, 1) := by decide +kernel
theorem dX11_measure_56 : decode cX11_measure 56 = .ok (.getfield 51, 3) := by decide +kernel
theorem dX11_measure_59 : decode cX11_measure 59 = .ok (.iload_n 1, 1) := by decide +kernel
theorem dX11_measure_60 : decode cX11_measure 60 = .ok (.iload_n 2, 1) := by decide +kernel
theorem dX11_measure_61 : decode cX11_measure 61 = .ok (.iload_n 3, 1) := by decide +kernel
theorem dX11_measure_62 : decode cX11_measure 62 = .ok (.aload_n 0, 1) := by decide +kernel
theorem dX11_measure_63 : decode cX11_measure 63 = .ok (.getfield 60, 3) := by decide +kernel
theorem dX11_measure_66 : decode cX11_measure 66 = .ok (.getfield 321, 3) := by decide +kernel
theorem dX11_measure_69 : decode cX11_measure 69 = .ok (.invokevirtual 333, 3) := by decide +kernel
theorem dX11_measure_72 : decode cX11_measure 72 = .ok (.ireturn, 1) := by decide +kernel
theorem dX11_mended_0 : decode cX11_mended 0 = .ok (.aload_n 0, 1) := by decide +kernel
theorem dX11_mended_1 : decode cX11_mended 1 = .ok (.iload_n 1, 1) := by decide +kernel
theorem dX11_mended_2 : decode cX11_mended 2 = .ok (.invokevirtual 166, 3) := by decide +kernel
theorem dX11_mended_5 : decode cX11_mended 5 = .ok (.astore 4, 2) := by decide +kernel
theorem dX11_mended_7 : decode cX11_mended 7 = .ok (.aload 4, 2) := by decide +kernel
theorem dX11_mended_9 : decode cX11_mended 9 = .ok (.iload_n 2, 1) := by decide +kernel
theorem dX11_mended_10 : decode cX11_mended 10 = .ok (.invokestatic 240, 3) := by decide +kernel
theorem dX11_mended_13 : decode cX11_mended 13 = .ok (.aload_n 0, 1) := by decide +kernel
theorem dX11_mended_14 : decode cX11_mended 14 = .ok (.getfield 51, 3) := by decide +kernel
theorem dX11_mended_17 : decode cX11_mended 17 = .ok (.iload_n 1, 1) := by decide +kernel
theorem dX11_mended_18 : decode cX11_mended 18 = .ok (.iload_n 2, 1) := by decide +kernel
theorem dX11_mended_19 : decode cX11_mended 19 = .ok (.iload_n 3, 1) := by decide +kernel
theorem dX11_mended_20 : decode cX11_mended 20 = .ok (.invokevirtual 337, 3) := by decide +kernel
theorem dX11_mended_23 : decode cX11_mended 23 = .ok (.ireturn, 1) := by decide +kernel
theorem dX11_leap_0 : decode cX11_leap 0 = .ok (.aload_n 0, 1) := by decide +kernel
theorem dX11_leap_1 : decode cX11_leap 1 = .ok (.iload_n 1, 1) := by decide +kernel
theorem dX11_leap_2 : decode cX11_leap 2 = .ok (.invokevirtual 166, 3) := by decide +kernel
theorem dX11_leap_5 : decode cX11_leap 5 = .ok (.pop, 1) := by decide +kernel
theorem dX11_leap_6 : decode cX11_leap 6 = .ok (.iconst 0, 1) := by decide +kernel
theorem dX11_leap_7 : decode cX11_leap 7 = .ok (.istore_n 3, 1) := by decide +kernel
theorem dX11_leap_8 : decode cX11_leap 8 = .ok (.aload_n 0, 1) := by decide +kernel
theorem dX11_leap_9 : decode cX11_leap 9 = .ok (.getfield 60, 3) := by decide +kernel
theorem dX11_leap_12 : decode cX11_leap 12 = .ok (.iload_n 1, 1) := by decide +kernel
theorem dX11_leap_13 : decode cX11_leap 13 = .ok (.invokevirtual 184, 3) := by decide +kernel
theorem dX11_leap_16 : decode cX11_leap 16 = .ok (.istore 4, 2) := by decide +kernel
theorem dX11_leap_18 : decode cX11_leap 18 = .ok (.aload_n 0, 1) := by decide +kernel
theorem dX11_leap_19 : decode cX11_leap 19 = .ok (.getfield 51, 3) := by decide +kernel
theorem dX11_leap_22 : decode cX11_leap 22 = .ok (.iload_n 1, 1) := by decide +kernel
theorem dX11_leap_23 : decode cX11_leap 23 = .ok (.iconst 0, 1) := by decide +kernel
theorem dX11_leap_24 : decode cX11_leap 24 = .ok (.iload_n 2, 1) := by decide +kernel
theorem dX11_leap_25 : decode cX11_leap 25 = .ok (.invokevirtual 337, 3) := by decide +kernel
theorem dX11_leap_28 : decode cX11_leap 28 = .ok (.istore 5, 2) := by decide +kernel
theorem dX11_leap_30 : decode cX11_leap 30 = .ok (.iconst 1, 1) := by decide +kernel
theorem dX11_leap_31 : decode cX11_leap 31 = .ok (.istore 6, 2) := by decide +kernel
theorem dX11_leap_33 : decode cX11_leap 33 = .ok (.iload 6, 2) := by decide +kernel
theorem dX11_leap_35 : decode cX11_leap 35 = .ok (.iload 4, 2) := by decide +kernel
theorem dX11_leap_37 : decode cX11_leap 37 = .ok (.if_icmp .ge 39, 3) := by decide +kernel
theorem dX11_leap_40 : decode cX11_leap 40 = .ok (.aload_n 0, 1) := by decide +kernel
theorem dX11_leap_41 : decode cX11_leap 41 = .ok (.getfield 51, 3) := by decide +kernel
theorem dX11_leap_44 : decode cX11_leap 44 = .ok (.iload_n 1, 1) := by decide +kernel
theorem dX11_leap_45 : decode cX11_leap 45 = .ok (.iload 6, 2) := by decide +kernel
theorem dX11_leap_47 : decode cX11_leap 47 = .ok (.iload_n 2, 1) := by decide +kernel
theorem dX11_leap_48 : decode cX11_leap 48 = .ok (.invokevirtual 337, 3) := by decide +kernel
theorem dX11_leap_51 : decode cX11_leap 51 = .ok (.istore 7, 2) := by decide +kernel
theorem dX11_leap_53 : decode cX11_leap 53 = .ok (.iload_n 3, 1) := by decide +kernel
theorem dX11_leap_54 : decode cX11_leap 54 = .ok (.iload 7, 2) := by decide +kernel
theorem dX11_leap_56 : decode cX11_leap 56 = .ok (.iload 5, 2) := by decide +kernel
theorem dX11_leap_58 : decode cX11_leap 58 = .ok (.isub, 1) := by decide +kernel
theorem dX11_leap_59 : decode cX11_leap 59 = .ok (.invokestatic 340, 3) := by decide +kernel
theorem dX11_leap_62 : decode cX11_leap 62 = .ok (.invokestatic 343, 3) := by decide +kernel
theorem dX11_leap_65 : decode cX11_leap 65 = .ok (.istore_n 3, 1) := by decide +kernel
theorem dX11_leap_66 : decode cX11_leap 66 = .ok (.iload 7, 2) := by decide +kernel
theorem dX11_leap_68 : decode cX11_leap 68 = .ok (.istore 5, 2) := by decide +kernel
theorem dX11_leap_70 : decode cX11_leap 70 = .ok (.iinc 6 1, 3) := by decide +kernel
theorem dX11_leap_73 : decode cX11_leap 73 = .ok (.goto (-40), 3) := by decide +kernel
theorem dX11_leap_76 : decode cX11_leap 76 = .ok (.iload_n 3, 1) := by decide +kernel
theorem dX11_leap_77 : decode cX11_leap 77 = .ok (.ireturn, 1) := by decide +kernel
theorem dX11_paint_0 : decode cX11_paint 0 = .ok (.aload_n 0, 1) := by decide +kernel
theorem dX11_paint_1 : decode cX11_paint 1 = .ok (.iload_n 1, 1) := by decide +kernel
theorem dX11_paint_2 : decode cX11_paint 2 = .ok (.invokevirtual 166, 3) := by decide +kernel
theorem dX11_paint_5 : decode cX11_paint 5 = .ok (.astore 5, 2) := by decide +kernel
theorem dX11_paint_7 : decode cX11_paint 7 = .ok (.aload 5, 2) := by decide +kernel
theorem dX11_paint_9 : decode cX11_paint 9 = .ok (.iload_n 2, 1) := by decide +kernel
theorem dX11_paint_10 : decode cX11_paint 10 = .ok (.invokestatic 240, 3) := by decide +kernel
theorem dX11_paint_13 : decode cX11_paint 13 = .ok (.aload 5, 2) := by decide +kernel
theorem dX11_paint_15 : decode cX11_paint 15 = .ok (.iload_n 3, 1) := by decide +kernel
theorem dX11_paint_16 : decode cX11_paint 16 = .ok (.invokestatic 240, 3) := by decide +kernel
theorem dX11_paint_19 : decode cX11_paint 19 = .ok (.iload_n 3, 1) := by decide +kernel
theorem dX11_paint_20 : decode cX11_paint 20 = .ok (.iload_n 2, 1) := by decide +kernel
theorem dX11_paint_21 : decode cX11_paint 21 = .ok (.if_icmp .ge 14, 3) := by decide +kernel
theorem dX11_paint_24 : decode cX11_paint 24 = .ok (.new 346, 3) := by decide +kernel
theorem dX11_paint_27 : decode cX11_paint 27 = .ok (.dup, 1) := by decide +kernel
theorem dX11_paint_28 : decode cX11_paint 28 = .ok (.ldc_w 348, 3) := by decide +kernel
theorem dX11_paint_31 : decode cX11_paint 31 = .ok (.invokespecial 350, 3) := by decide +kernel
theorem dX11_paint_34 : decode cX11_paint 34 = .ok (.athrow, 1) := by decide +kernel
theorem dX11_paint_35 : decode cX11_paint 35 = .ok (.iconst 0, 1) := by decide +kernel
theorem dX11_paint_36 : decode cX11_paint 36 = .ok (.istore 6, 2) := by decide +kernel
theorem dX11_paint_38 : decode cX11_paint 38 = .ok (.iload_n 2, 1) := by decide +kernel
theorem dX11_paint_39 : decode cX11_paint 39 = .ok (.istore 7, 2) := by decide +kernel
theorem dX11_paint_41 : decode cX11_paint 41 = .ok (.iload 7, 2) := by decide +kernel
theorem dX11_paint_43 : decode cX11_paint 43 = .ok (.iload_n 3, 1) := by decide +kernel
theorem dX11_paint_44 : decode cX11_paint 44 = .ok (.if_icmp .gt 31, 3) := by decide +kernel
theorem dX11_paint_47 : decode cX11_paint 47 = .ok (.iload 6, 2) := by decide +kernel
theorem dX11_paint_49 : decode cX11_paint 49 = .ok (.aload 5, 2) := by decide +kernel
theorem dX11_paint_51 : decode cX11_paint 51 = .ok (.iload 7, 2) := by decide +kernel
theorem dX11_paint_53 : decode cX11_paint 53 = .ok (.iload 4, 2) := by decide +kernel
theorem dX11_paint_55 : decode cX11_paint 55 = .ok (.invokevirtual 351, 3) := by decide +kernel
theorem dX11_paint_58 : decode cX11_paint 58 = .ok (.ifCond .eq 7, 3) := by decide +kernel
theorem dX11_paint_61 : decode cX11_paint 61 = .ok (.iconst 1, 1) := by decide +kernel
theorem dX11_paint_62 : decode cX11_paint 62 = .ok (.goto 4, 3) := by decide +kernel
theorem dX11_paint_65 : decode cX11_paint 65 = .ok (.iconst 0, 1) := by decide +kernel
theorem dX11_paint_66 : decode cX11_paint 66 = .ok (.iadd, 1) := by decide +kernel
theorem dX11_paint_67 : decode cX11_paint 67 = .ok (.istore 6, 2) := by decide +kernel
theorem dX11_paint_69 : decode cX11_paint 69 = .ok (.iinc 7 1, 3) := by decide +kernel
theorem dX11_paint_72 : decode cX11_paint 72 = .ok (.goto (-31), 3) := by decide +kernel
theorem dX11_paint_75 : decode cX11_paint 75 = .ok (.iload 6, 2) := by decide +kernel
theorem dX11_paint_77 : decode cX11_paint 77 = .ok (.ireturn, 1) := by decide +kernel
theorem dX11_dirty_0 : decode cX11_dirty 0 = .ok (.aload_n 0, 1) := by decide +kernel
theorem dX11_dirty_1 : decode cX11_dirty 1 = .ok (.iload_n 1, 1) := by decide +kernel
theorem dX11_dirty_2 : decode cX11_dirty 2 = .ok (.invokevirtual 166, 3) := by decide +kernel
theorem dX11_dirty_5 : decode cX11_dirty 5 = .ok (.astore_n 3, 1) := by decide +kernel
theorem dX11_dirty_6 : decode cX11_dirty 6 = .ok (.iload_n 2, 1) := by decide +kernel
theorem dX11_dirty_7 : decode cX11_dirty 7 = .ok (.iconst 0, 1) := by decide +kernel
theorem dX11_dirty_8 : decode cX11_dirty 8 = .ok (.invokestatic 343, 3) := by decide +kernel
theorem dX11_dirty_11 : decode cX11_dirty 11 = .ok (.istore 4, 2) := by decide +kernel
theorem dX11_dirty_13 : decode cX11_dirty 13 = .ok (.iload 4, 2) := by decide +kernel
theorem dX11_dirty_15 : decode cX11_dirty 15 = .ok (.aload_n 3, 1) := by decide +kernel
theorem dX11_dirty_16 : decode cX11_dirty 16 = .ok (.getfield 170, 3) := by decide +kernel
theorem dX11_dirty_19 : decode cX11_dirty 19 = .ok (.if_icmp .ge 21, 3) := by decide +kernel
theorem dX11_dirty_22 : decode cX11_dirty 22 = .ok (.aload_n 3, 1) := by decide +kernel
theorem dX11_dirty_23 : decode cX11_dirty 23 = .ok (.iload 4, 2) := by decide +kernel
theorem dX11_dirty_25 : decode cX11_dirty 25 = .ok (.invokevirtual 355, 3) := by decide +kernel
theorem dX11_dirty_28 : decode cX11_dirty 28 = .ok (.ifCond .eq 6, 3) := by decide +kernel
theorem dX11_dirty_31 : decode cX11_dirty 31 = .ok (.iload 4, 2) := by decide +kernel
theorem dX11_dirty_33 : decode cX11_dirty 33 = .ok (.ireturn, 1) := by decide +kernel
theorem dX11_dirty_34 : decode cX11_dirty 34 = .ok (.iinc 4 1, 3) := by decide +kernel
theorem dX11_dirty_37 : decode cX11_dirty 37 = .ok (.goto (-24), 3) := by decide +kernel
theorem dX11_dirty_40 : decode cX11_dirty 40 = .ok (.iconst (-1), 1) := by decide +kernel
theorem dX11_dirty_41 : decode cX11_dirty 41 = .ok (.ireturn, 1) := by decide +kernel
theorem dX11_animator_0 : decode cX11_animator 0 = .ok (.iload_n 1, 1) := by decide +kernel
theorem dX11_animator_1 : decode cX11_animator 1 = .ok (.iconst 0, 1) := by decide +kernel
theorem dX11_animator_2 : decode cX11_animator 2 = .ok (.bipush 14, 2) := by decide +kernel
theorem dX11_animator_4 : decode cX11_animator 4 = .ok (.invokestatic 97, 3) := by decide +kernel
theorem dX11_animator_7 : decode cX11_animator 7 = .ok (.invokestatic 93, 3) := by decide +kernel
theorem dX11_animator_10 : decode cX11_animator 10 = .ok (.aload_n 0, 1) := by decide +kernel
theorem dX11_animator_11 : decode cX11_animator 11 = .ok (.getfield 60, 3) := by decide +kernel
theorem dX11_animator_14 : decode cX11_animator 14 = .ok (.iload_n 1, 1) := by decide +kernel
theorem dX11_animator_15 : decode cX11_animator 15 = .ok (.invokevirtual 358, 3) := by decide +kernel
theorem dX11_animator_18 : decode cX11_animator 18 = .ok (.ireturn, 1) := by decide +kernel
theorem dX11_station_0 : decode cX11_station 0 = .ok (.iload_n 1, 1) := by decide +kernel
theorem dX11_station_1 : decode cX11_station 1 = .ok (.invokestatic 361, 3) := by decide +kernel
theorem dX11_station_4 : decode cX11_station 4 = .ok (.iload_n 2, 1) := by decide +kernel
theorem dX11_station_5 : decode cX11_station 5 = .ok (.iconst (-1), 1) := by decide +kernel
theorem dX11_station_6 : decode cX11_station 6 = .ok (.aload_n 0, 1) := by decide +kernel
theorem dX11_station_7 : decode cX11_station 7 = .ok (.getfield 60, 3) := by decide +kernel
theorem dX11_station_10 : decode cX11_station 10 = .ok (.getfield 364, 3) := by decide +kernel
theorem dX11_station_13 : decode cX11_station 13 = .ok (.iconst 1, 1) := by decide +kernel
theorem dX11_station_14 : decode cX11_station 14 = .ok (.isub, 1) := by decide +kernel
theorem dX11_station_15 : decode cX11_station 15 = .ok (.invokestatic 97, 3) := by decide +kernel
theorem dX11_station_18 : decode cX11_station 18 = .ok (.invokestatic 93, 3) := by decide +kernel
theorem dX11_station_21 : decode cX11_station 21 = .ok (.aload_n 0, 1) := by decide +kernel
theorem dX11_station_22 : decode cX11_station 22 = .ok (.getfield 60, 3) := by decide +kernel
theorem dX11_station_25 : decode cX11_station 25 = .ok (.getfield 367, 3) := by decide +kernel
theorem dX11_station_28 : decode cX11_station 28 = .ok (.iload_n 1, 1) := by decide +kernel
theorem dX11_station_29 : decode cX11_station 29 = .ok (.iload_n 2, 1) := by decide +kernel
theorem dX11_station_30 : decode cX11_station 30 = .ok (.invokestatic 121, 3) := by decide +kernel
theorem dX11_station_33 : decode cX11_station 33 = .ok (.ireturn, 1) := by decide +kernel
theorem dX11_queue_0 : decode cX11_queue 0 = .ok (.aload_n 0, 1) := by decide +kernel
theorem dX11_queue_1 : decode cX11_queue 1 = .ok (.iload_n 2, 1) := by decide +kernel
theorem dX11_queue_2 : decode cX11_queue 2 = .ok (.invokevirtual 166, 3) := by decide +kernel
theorem dX11_queue_5 : decode cX11_queue 5 = .ok (.astore_n 3, 1) := by decide +kernel
theorem dX11_queue_6 : decode cX11_queue 6 = .ok (.iload_n 1, 1) := by decide +kernel
theorem dX11_queue_7 : decode cX11_queue 7 = .ok (.invokestatic 361, 3) := by decide +kernel
theorem dX11_queue_10 : decode cX11_queue 10 = .ok (.aload_n 0, 1) := by decide +kernel
theorem dX11_queue_11 : decode cX11_queue 11 = .ok (.getfield 60, 3) := by decide +kernel
theorem dX11_queue_14 : decode cX11_queue 14 = .ok (.iload_n 1, 1) := by decide +kernel
theorem dX11_queue_15 : decode cX11_queue 15 = .ok (.invokevirtual 370, 3) := by decide +kernel
theorem dX11_queue_18 : decode cX11_queue 18 = .ok (.bipush 10, 2) := by decide +kernel
theorem dX11_queue_20 : decode cX11_queue 20 = .ok (.if_icmp .lt 5, 3) := by decide +kernel
theorem dX11_queue_23 : decode cX11_queue 23 = .ok (.iconst (-1), 1) := by decide +kernel
theorem dX11_queue_24 : decode cX11_queue 24 = .ok (.ireturn, 1) := by decide +kernel
theorem dX11_queue_25 : decode cX11_queue 25 = .ok (.aload_n 0, 1) := by decide +kernel
theorem dX11_queue_26 : decode cX11_queue 26 = .ok (.getfield 60, 3) := by decide +kernel
theorem dX11_queue_29 : decode cX11_queue 29 = .ok (.iload_n 2, 1) := by decide +kernel
theorem dX11_queue_30 : decode cX11_queue 30 = .ok (.invokevirtual 373, 3) := by decide +kernel
theorem dX11_queue_33 : decode cX11_queue 33 = .ok (.ifCond .eq 6, 3) := by decide +kernel
theorem dX11_queue_36 : decode cX11_queue 36 = .ok (.bipush (-2), 2) := by decide +kernel
theorem dX11_queue_38 : decode cX11_queue 38 = .ok (.ireturn, 1) := by decide +kernel
theorem dX11_queue_39 : decode cX11_queue 39 = .ok (.aload_n 0, 1) := by decide +kernel
theorem dX11_queue_40 : decode cX11_queue 40 = .ok (.getfield 60, 3) := by decide +kernel
theorem dX11_queue_43 : decode cX11_queue 43 = .ok (.iload_n 2, 1) := by decide +kernel
theorem dX11_queue_44 : decode cX11_queue 44 = .ok (.invokevirtual 184, 3) := by decide +kernel
theorem dX11_queue_47 : decode cX11_queue 47 = .ok (.aload_n 3, 1) := by decide +kernel
theorem dX11_queue_48 : decode cX11_queue 48 = .ok (.getfield 170, 3) := by decide +kernel
theorem dX11_queue_51 : decode cX11_queue 51 = .ok (.if_icmp .lt 6, 3) := by decide +kernel
theorem dX11_queue_54 : decode cX11_queue 54 = .ok (.bipush (-3), 2) := by decide +kernel
theorem dX11_queue_56 : decode cX11_queue 56 = .ok (.ireturn, 1) := by decide +kernel
theorem dX11_queue_57 : decode cX11_queue 57 = .ok (.aload_n 0, 1) := by decide +kernel
theorem dX11_queue_58 : decode cX11_queue 58 = .ok (.getfield 60, 3) := by decide +kernel
theorem dX11_queue_61 : decode cX11_queue 61 = .ok (.iload_n 1, 1) := by decide +kernel
theorem dX11_queue_62 : decode cX11_queue 62 = .ok (.iload_n 2, 1) := by decide +kernel
theorem dX11_queue_63 : decode cX11_queue 63 = .ok (.invokevirtual 376, 3) := by decide +kernel
theorem dX11_queue_66 : decode cX11_queue 66 = .ok (.ireturn, 1) := by decide +kernel
theorem dX11_floor_0 : decode cX11_floor 0 = .ok (.iload_n 1, 1) := by decide +kernel
theorem dX11_floor_1 : decode cX11_floor 1 = .ok (.iconst 0, 1) := by decide +kernel
theorem dX11_floor_2 : decode cX11_floor 2 = .ok (.bipush 100, 2) := by decide +kernel
theorem dX11_floor_4 : decode cX11_floor 4 = .ok (.invokestatic 97, 3) := by decide +kernel
theorem dX11_floor_7 : decode cX11_floor 7 = .ok (.invokestatic 93, 3) := by decide +kernel
theorem dX11_floor_10 : decode cX11_floor 10 = .ok (.iconst 0, 1) := by decide +kernel
theorem dX11_floor_11 : decode cX11_floor 11 = .ok (.istore_n 2, 1) := by decide +kernel
theorem dX11_floor_12 : decode cX11_floor 12 = .ok (.iload_n 2, 1) := by decide +kernel
theorem dX11_floor_13 : decode cX11_floor 13 = .ok (.iload_n 1, 1) := by decide +kernel
theorem dX11_floor_14 : decode cX11_floor 14 = .ok (.if_icmp .ge 16, 3) := by decide +kernel
theorem dX11_floor_17 : decode cX11_floor 17 = .ok (.aload_n 0, 1) := by decide +kernel
theorem dX11_floor_18 : decode cX11_floor 18 = .ok (.getfield 60, 3) := by decide +kernel
theorem dX11_floor_21 : decode cX11_floor 21 = .ok (.invokevirtual 379, 3) := by decide +kernel
theorem dX11_floor_24 : decode cX11_floor 24 = .ok (.iinc 2 1, 3) := by decide +kernel
theorem dX11_floor_27 : decode cX11_floor 27 = .ok (.goto (-15), 3) := by decide +kernel
theorem dX11_floor_30 : decode cX11_floor 30 = .ok (.aload_n 0, 1) := by decide +kernel
theorem dX11_floor_31 : decode cX11_floor 31 = .ok (.getfield 60, 3) := by decide +kernel
theorem dX11_floor_34 : decode cX11_floor 34 = .ok (.getfield 321, 3) := by decide +kernel
theorem dX11_floor_37 : decode cX11_floor 37 = .ok (.ireturn, 1) := by decide +kernel
theorem dX11_on_0 : decode cX11_on 0 = .ok (.iload_n 1, 1) := by decide +kernel
theorem dX11_on_1 : decode cX11_on 1 = .ok (.invokestatic 361, 3) := by decide +kernel
theorem dX11_on_4 : decode cX11_on 4 = .ok (.iload_n 2, 1) := by decide +kernel
theorem dX11_on_5 : decode cX11_on 5 = .ok (.tableswitch 67 0 3 #[31, 40, 49, 58], 31) := by decide +kernel
theorem dX11_on_36 : decode cX11_on 36 = .ok (.aload_n 0, 1) := by decide +kernel
theorem dX11_on_37 : decode cX11_on 37 = .ok (.getfield 60, 3) := by decide +kernel
theorem dX11_on_40 : decode cX11_on 40 = .ok (.iload_n 1, 1) := by decide +kernel
theorem dX11_on_41 : decode cX11_on 41 = .ok (.invokevirtual 382, 3) := by decide +kernel
theorem dX11_on_44 : decode cX11_on 44 = .ok (.ireturn, 1) := by decide +kernel
theorem dX11_on_45 : decode cX11_on 45 = .ok (.aload_n 0, 1) := by decide +kernel
theorem dX11_on_46 : decode cX11_on 46 = .ok (.getfield 60, 3) := by decide +kernel
theorem dX11_on_49 : decode cX11_on 49 = .ok (.iload_n 1, 1) := by decide +kernel
theorem dX11_on_50 : decode cX11_on 50 = .ok (.invokevirtual 385, 3) := by decide +kernel
theorem dX11_on_53 : decode cX11_on 53 = .ok (.ireturn, 1) := by decide +kernel
theorem dX11_on_54 : decode cX11_on 54 = .ok (.aload_n 0, 1) := by decide +kernel
theorem dX11_on_55 : decode cX11_on 55 = .ok (.getfield 60, 3) := by decide +kernel
theorem dX11_on_58 : decode cX11_on 58 = .ok (.iload_n 1, 1) := by decide +kernel
theorem dX11_on_59 : decode cX11_on 59 = .ok (.invokevirtual 370, 3) := by decide +kernel
theorem dX11_on_62 : decode cX11_on 62 = .ok (.ireturn, 1) := by decide +kernel
theorem dX11_on_63 : decode cX11_on 63 = .ok (.aload_n 0, 1) := by decide +kernel
theorem dX11_on_64 : decode cX11_on 64 = .ok (.getfield 60, 3) := by decide +kernel
theorem dX11_on_67 : decode cX11_on 67 = .ok (.iload_n 1, 1) := by decide +kernel
theorem dX11_on_68 : decode cX11_on 68 = .ok (.invokevirtual 388, 3) := by decide +kernel
theorem dX11_on_71 : decode cX11_on 71 = .ok (.ireturn, 1) := by decide +kernel
theorem dX11_on_72 : decode cX11_on 72 = .ok (.new 192, 3) := by decide +kernel
theorem dX11_on_75 : decode cX11_on 75 = .ok (.dup, 1) := by decide +kernel
theorem dX11_on_76 : decode cX11_on 76 = .ok (.ldc 194, 2) := by decide +kernel
theorem dX11_on_78 : decode cX11_on 78 = .ok (.invokespecial 196, 3) := by decide +kernel
theorem dX11_on_81 : decode cX11_on 81 = .ok (.athrow, 1) := by decide +kernel
theorem dX11_stands_0 : decode cX11_stands 0 = .ok (.iload_n 1, 1) := by decide +kernel
theorem dX11_stands_1 : decode cX11_stands 1 = .ok (.iconst 0, 1) := by decide +kernel
theorem dX11_stands_2 : decode cX11_stands 2 = .ok (.bipush 7, 2) := by decide +kernel
theorem dX11_stands_4 : decode cX11_stands 4 = .ok (.invokestatic 97, 3) := by decide +kernel
theorem dX11_stands_7 : decode cX11_stands 7 = .ok (.invokestatic 93, 3) := by decide +kernel
theorem dX11_stands_10 : decode cX11_stands 10 = .ok (.aload_n 0, 1) := by decide +kernel
theorem dX11_stands_11 : decode cX11_stands 11 = .ok (.getfield 60, 3) := by decide +kernel
theorem dX11_stands_14 : decode cX11_stands 14 = .ok (.iload_n 1, 1) := by decide +kernel
theorem dX11_stands_15 : decode cX11_stands 15 = .ok (.invokevirtual 391, 3) := by decide +kernel
theorem dX11_stands_18 : decode cX11_stands 18 = .ok (.ireturn, 1) := by decide +kernel
theorem dX11_worked_0 : decode cX11_worked 0 = .ok (.iload_n 1, 1) := by decide +kernel
theorem dX11_worked_1 : decode cX11_worked 1 = .ok (.iconst 0, 1) := by decide +kernel
theorem dX11_worked_2 : decode cX11_worked 2 = .ok (.aload_n 0, 1) := by decide +kernel
theorem dX11_worked_3 : decode cX11_worked 3 = .ok (.getfield 60, 3) := by decide +kernel
theorem dX11_worked_6 : decode cX11_worked 6 = .ok (.getfield 364, 3) := by decide +kernel
theorem dX11_worked_9 : decode cX11_worked 9 = .ok (.iconst 1, 1) := by decide +kernel
theorem dX11_worked_10 : decode cX11_worked 10 = .ok (.isub, 1) := by decide +kernel
theorem dX11_worked_11 : decode cX11_worked 11 = .ok (.invokestatic 97, 3) := by decide +kernel
theorem dX11_worked_14 : decode cX11_worked 14 = .ok (.invokestatic 93, 3) := by decide +kernel
theorem dX11_worked_17 : decode cX11_worked 17 = .ok (.aload_n 0, 1) := by decide +kernel
theorem dX11_worked_18 : decode cX11_worked 18 = .ok (.getfield 60, 3) := by decide +kernel
theorem dX11_worked_21 : decode cX11_worked 21 = .ok (.iload_n 1, 1) := by decide +kernel
theorem dX11_worked_22 : decode cX11_worked 22 = .ok (.invokevirtual 394, 3) := by decide +kernel
theorem dX11_worked_25 : decode cX11_worked 25 = .ok (.ireturn, 1) := by decide +kernel
theorem dX11_foretold_0 : decode cX11_foretold 0 = .ok (.aload_n 0, 1) := by decide +kernel
theorem dX11_foretold_1 : decode cX11_foretold 1 = .ok (.getfield 64, 3) := by decide +kernel
theorem dX11_foretold_4 : decode cX11_foretold 4 = .ok (.aload_n 0, 1) := by decide +kernel
theorem dX11_foretold_5 : decode cX11_foretold 5 = .ok (.getfield 60, 3) := by decide +kernel
theorem dX11_foretold_8 : decode cX11_foretold 8 = .ok (.invokevirtual 397, 3) := by decide +kernel
theorem dX11_foretold_11 : decode cX11_foretold 11 = .ok (.iconst 0, 1) := by decide +kernel
theorem dX11_foretold_12 : decode cX11_foretold 12 = .ok (.istore_n 1, 1) := by decide +kernel
theorem dX11_foretold_13 : decode cX11_foretold 13 = .ok (.iload_n 1, 1) := by decide +kernel
theorem dX11_foretold_14 : decode cX11_foretold 14 = .ok (.sipush 2000, 3) := by decide +kernel
theorem dX11_foretold_17 : decode cX11_foretold 17 = .ok (.if_icmp .gt 40, 3) := by decide +kernel
theorem dX11_foretold_20 : decode cX11_foretold 20 = .ok (.aload_n 0, 1) := by decide +kernel
theorem dX11_foretold_21 : decode cX11_foretold 21 = .ok (.getfield 64, 3) := by decide +kernel
theorem dX11_foretold_24 : decode cX11_foretold 24 = .ok (.invokevirtual 401, 3) := by decide +kernel
theorem dX11_foretold_27 : decode cX11_foretold 27 = .ok (.ifCond .eq 5, 3) := by decide +kernel
theorem dX11_foretold_30 : decode cX11_foretold 30 = .ok (.iload_n 1, 1) := by decide +kernel
theorem dX11_foretold_31 : decode cX11_foretold 31 = .ok (.ireturn, 1) := by decide +kernel
theorem dX11_foretold_32 : decode cX11_foretold 32 = .ok (.aload_n 0, 1) := by decide +kernel
theorem dX11_foretold_33 : decode cX11_foretold 33 = .ok (.getfield 64, 3) := by decide +kernel
theorem dX11_foretold_36 : decode cX11_foretold 36 = .ok (.invokevirtual 379, 3) := by decide +kernel
theorem dX11_foretold_39 : decode cX11_foretold 39 = .ok (.aload_n 0, 1) := by decide +kernel
theorem dX11_foretold_40 : decode cX11_foretold 40 = .ok (.getfield 64, 3) := by decide +kernel
theorem dX11_foretold_43 : decode cX11_foretold 43 = .ok (.invokevirtual 405, 3) := by decide +kernel
theorem dX11_foretold_46 : decode cX11_foretold 46 = .ok (.ifCond .eq 5, 3) := by decide +kernel
theorem dX11_foretold_49 : decode cX11_foretold 49 = .ok (.iconst (-1), 1) := by decide +kernel
theorem dX11_foretold_50 : decode cX11_foretold 50 = .ok (.ireturn, 1) := by decide +kernel
theorem dX11_foretold_51 : decode cX11_foretold 51 = .ok (.iinc 1 1, 3) := by decide +kernel
theorem dX11_foretold_54 : decode cX11_foretold 54 = .ok (.goto (-41), 3) := by decide +kernel
theorem dX11_foretold_57 : decode cX11_foretold 57 = .ok (.iconst (-1), 1) := by decide +kernel
theorem dX11_foretold_58 : decode cX11_foretold 58 = .ok (.ireturn, 1) := by decide +kernel
theorem dX11_count_0 : decode cX11_count 0 = .ok (.iload_n 1, 1) := by decide +kernel
theorem dX11_count_1 : decode cX11_count 1 = .ok (.tableswitch 84 0 5 #[39, 47, 55, 63, 71, 76], 39) := by decide +kernel
theorem dX11_count_40 : decode cX11_count 40 = .ok (.aload_n 0, 1) := by decide +kernel
theorem dX11_count_41 : decode cX11_count 41 = .ok (.getfield 10, 3) := by decide +kernel
theorem dX11_count_44 : decode cX11_count 44 = .ok (.getfield 75, 3) := by decide +kernel
theorem dX11_count_47 : decode cX11_count 47 = .ok (.ireturn, 1) := by decide +kernel
theorem dX11_count_48 : decode cX11_count 48 = .ok (.aload_n 0, 1) := by decide +kernel
theorem dX11_count_49 : decode cX11_count 49 = .ok (.getfield 10, 3) := by decide +kernel
theorem dX11_count_52 : decode cX11_count 52 = .ok (.getfield 132, 3) := by decide +kernel
theorem dX11_count_55 : decode cX11_count 55 = .ok (.ireturn, 1) := by decide +kernel
theorem dX11_count_56 : decode cX11_count 56 = .ok (.aload_n 0, 1) := by decide +kernel
theorem dX11_count_57 : decode cX11_count 57 = .ok (.getfield 44, 3) := by decide +kernel
theorem dX11_count_60 : decode cX11_count 60 = .ok (.getfield 304, 3) := by decide +kernel
theorem dX11_count_63 : decode cX11_count 63 = .ok (.ireturn, 1) := by decide +kernel
theorem dX11_count_64 : decode cX11_count 64 = .ok (.aload_n 0, 1) := by decide +kernel
theorem dX11_count_65 : decode cX11_count 65 = .ok (.getfield 60, 3) := by decide +kernel
theorem dX11_count_68 : decode cX11_count 68 = .ok (.getfield 321, 3) := by decide +kernel
theorem dX11_count_71 : decode cX11_count 71 = .ok (.ireturn, 1) := by decide +kernel
theorem dX11_count_72 : decode cX11_count 72 = .ok (.aload_n 0, 1) := by decide +kernel
theorem dX11_count_73 : decode cX11_count 73 = .ok (.getfield 125, 3) := by decide +kernel
theorem dX11_count_76 : decode cX11_count 76 = .ok (.ireturn, 1) := by decide +kernel
theorem dX11_count_77 : decode cX11_count 77 = .ok (.aload_n 0, 1) := by decide +kernel
theorem dX11_count_78 : decode cX11_count 78 = .ok (.getfield 51, 3) := by decide +kernel
theorem dX11_count_81 : decode cX11_count 81 = .ok (.getfield 330, 3) := by decide +kernel
theorem dX11_count_84 : decode cX11_count 84 = .ok (.ireturn, 1) := by decide +kernel
theorem dX11_count_85 : decode cX11_count 85 = .ok (.iconst (-1), 1) := by decide +kernel
theorem dX11_count_86 : decode cX11_count 86 = .ok (.ireturn, 1) := by decide +kernel
theorem dX11_feedNumber_0 : decode cX11_feedNumber 0 = .ok (.bipush 24, 2) := by decide +kernel
theorem dX11_feedNumber_2 : decode cX11_feedNumber 2 = .ok (.istore_n 2, 1) := by decide +kernel
theorem dX11_feedNumber_3 : decode cX11_feedNumber 3 = .ok (.iload_n 2, 1) := by decide +kernel
theorem dX11_feedNumber_4 : decode cX11_feedNumber 4 = .ok (.ifCond .lt 44, 3) := by decide +kernel
theorem dX11_feedNumber_7 : decode cX11_feedNumber 7 = .ok (.aload_n 0, 1) := by decide +kernel
theorem dX11_feedNumber_8 : decode cX11_feedNumber 8 = .ok (.getfield 125, 3) := by decide +kernel
theorem dX11_feedNumber_11 : decode cX11_feedNumber 11 = .ok (.aload_n 0, 1) := by decide +kernel
theorem dX11_feedNumber_12 : decode cX11_feedNumber 12 = .ok (.getfield 67, 3) := by decide +kernel
theorem dX11_feedNumber_15 : decode cX11_feedNumber 15 = .ok (.arraylength, 1) := by decide +kernel
theorem dX11_feedNumber_16 : decode cX11_feedNumber 16 = .ok (.if_icmp .ge 26, 3) := by decide +kernel
theorem dX11_feedNumber_19 : decode cX11_feedNumber 19 = .ok (.aload_n 0, 1) := by decide +kernel
theorem dX11_feedNumber_20 : decode cX11_feedNumber 20 = .ok (.getfield 67, 3) := by decide +kernel
theorem dX11_feedNumber_23 : decode cX11_feedNumber 23 = .ok (.aload_n 0, 1) := by decide +kernel
theorem dX11_feedNumber_24 : decode cX11_feedNumber 24 = .ok (.getfield 125, 3) := by decide +kernel
theorem dX11_feedNumber_27 : decode cX11_feedNumber 27 = .ok (.iload_n 1, 1) := by decide +kernel
theorem dX11_feedNumber_28 : decode cX11_feedNumber 28 = .ok (.iload_n 2, 1) := by decide +kernel
theorem dX11_feedNumber_29 : decode cX11_feedNumber 29 = .ok (.ishr, 1) := by decide +kernel
theorem dX11_feedNumber_30 : decode cX11_feedNumber 30 = .ok (.i2b, 1) := by decide +kernel
theorem dX11_feedNumber_31 : decode cX11_feedNumber 31 = .ok (.bastore, 1) := by decide +kernel
theorem dX11_feedNumber_32 : decode cX11_feedNumber 32 = .ok (.aload_n 0, 1) := by decide +kernel
theorem dX11_feedNumber_33 : decode cX11_feedNumber 33 = .ok (.dup, 1) := by decide +kernel
theorem dX11_feedNumber_34 : decode cX11_feedNumber 34 = .ok (.getfield 125, 3) := by decide +kernel
theorem dX11_feedNumber_37 : decode cX11_feedNumber 37 = .ok (.iconst 1, 1) := by decide +kernel
theorem dX11_feedNumber_38 : decode cX11_feedNumber 38 = .ok (.iadd, 1) := by decide +kernel
theorem dX11_feedNumber_39 : decode cX11_feedNumber 39 = .ok (.putfield 125, 3) := by decide +kernel
theorem dX11_feedNumber_42 : decode cX11_feedNumber 42 = .ok (.iinc 2 (-8), 3) := by decide +kernel
theorem dX11_feedNumber_45 : decode cX11_feedNumber 45 = .ok (.goto (-42), 3) := by decide +kernel
theorem dX11_feedNumber_48 : decode cX11_feedNumber 48 = .ok (.return_, 1) := by decide +kernel
theorem dX11_needShot_0 : decode cX11_needShot 0 = .ok (.aload_n 0, 1) := by decide +kernel
theorem dX11_needShot_1 : decode cX11_needShot 1 = .ok (.getfield 10, 3) := by decide +kernel
theorem dX11_needShot_4 : decode cX11_needShot 4 = .ok (.iload_n 1, 1) := by decide +kernel
theorem dX11_needShot_5 : decode cX11_needShot 5 = .ok (.invokevirtual 271, 3) := by decide +kernel
theorem dX11_needShot_8 : decode cX11_needShot 8 = .ok (.astore_n 2, 1) := by decide +kernel
theorem dX11_needShot_9 : decode cX11_needShot 9 = .ok (.aload_n 2, 1) := by decide +kernel
theorem dX11_needShot_10 : decode cX11_needShot 10 = .ok (.ifnonnull 14, 3) := by decide +kernel
theorem dX11_needShot_13 : decode cX11_needShot 13 = .ok (.new 408, 3) := by decide +kernel
theorem dX11_needShot_16 : decode cX11_needShot 16 = .ok (.dup, 1) := by decide +kernel
theorem dX11_needShot_17 : decode cX11_needShot 17 = .ok (.ldc_w 410, 3) := by decide +kernel
theorem dX11_needShot_20 : decode cX11_needShot 20 = .ok (.invokespecial 412, 3) := by decide +kernel
theorem dX11_needShot_23 : decode cX11_needShot 23 = .ok (.athrow, 1) := by decide +kernel
theorem dX11_needShot_24 : decode cX11_needShot 24 = .ok (.aload_n 2, 1) := by decide +kernel
theorem dX11_needShot_25 : decode cX11_needShot 25 = .ok (.areturn, 1) := by decide +kernel
theorem dX11_needPuppet_0 : decode cX11_needPuppet 0 = .ok (.aload_n 0, 1) := by decide +kernel
theorem dX11_needPuppet_1 : decode cX11_needPuppet 1 = .ok (.getfield 10, 3) := by decide +kernel
theorem dX11_needPuppet_4 : decode cX11_needPuppet 4 = .ok (.iload_n 1, 1) := by decide +kernel
theorem dX11_needPuppet_5 : decode cX11_needPuppet 5 = .ok (.invokevirtual 197, 3) := by decide +kernel
theorem dX11_needPuppet_8 : decode cX11_needPuppet 8 = .ok (.astore_n 2, 1) := by decide +kernel
theorem dX11_needPuppet_9 : decode cX11_needPuppet 9 = .ok (.aload_n 2, 1) := by decide +kernel
theorem dX11_needPuppet_10 : decode cX11_needPuppet 10 = .ok (.ifnonnull 14, 3) := by decide +kernel
theorem dX11_needPuppet_13 : decode cX11_needPuppet 13 = .ok (.new 346, 3) := by decide +kernel
theorem dX11_needPuppet_16 : decode cX11_needPuppet 16 = .ok (.dup, 1) := by decide +kernel
theorem dX11_needPuppet_17 : decode cX11_needPuppet 17 = .ok (.ldc_w 413, 3) := by decide +kernel
theorem dX11_needPuppet_20 : decode cX11_needPuppet 20 = .ok (.invokespecial 350, 3) := by decide +kernel
theorem dX11_needPuppet_23 : decode cX11_needPuppet 23 = .ok (.athrow, 1) := by decide +kernel
theorem dX11_needPuppet_24 : decode cX11_needPuppet 24 = .ok (.aload_n 2, 1) := by decide +kernel
theorem dX11_needPuppet_25 : decode cX11_needPuppet 25 = .ok (.areturn, 1) := by decide +kernel
theorem dX11_needUnit_0 : decode cX11_needUnit 0 = .ok (.iload_n 0, 1) := by decide +kernel
theorem dX11_needUnit_1 : decode cX11_needUnit 1 = .ok (.iconst 0, 1) := by decide +kernel
theorem dX11_needUnit_2 : decode cX11_needUnit 2 = .ok (.iconst 2, 1) := by decide +kernel
theorem dX11_needUnit_3 : decode cX11_needUnit 3 = .ok (.invokestatic 97, 3) := by decide +kernel
theorem dX11_needUnit_6 : decode cX11_needUnit 6 = .ok (.ifCond .ne 14, 3) := by decide +kernel
theorem dX11_needUnit_9 : decode cX11_needUnit 9 = .ok (.new 346, 3) := by decide +kernel
theorem dX11_needUnit_12 : decode cX11_needUnit 12 = .ok (.dup, 1) := by decide +kernel
theorem dX11_needUnit_13 : decode cX11_needUnit 13 = .ok (.ldc_w 417, 3) := by decide +kernel
theorem dX11_needUnit_16 : decode cX11_needUnit 16 = .ok (.invokespecial 350, 3) := by decide +kernel
theorem dX11_needUnit_19 : decode cX11_needUnit 19 = .ok (.athrow, 1) := by decide +kernel
theorem dX11_needUnit_20 : decode cX11_needUnit 20 = .ok (.return_, 1) := by decide +kernel
theorem dX11_need_0 : decode cX11_need 0 = .ok (.iload_n 0, 1) := by decide +kernel
theorem dX11_need_1 : decode cX11_need 1 = .ok (.ifCond .ne 14, 3) := by decide +kernel
theorem dX11_need_4 : decode cX11_need 4 = .ok (.new 192, 3) := by decide +kernel
theorem dX11_need_7 : decode cX11_need 7 = .ok (.dup, 1) := by decide +kernel
theorem dX11_need_8 : decode cX11_need 8 = .ok (.ldc_w 274, 3) := by decide +kernel
theorem dX11_need_11 : decode cX11_need 11 = .ok (.invokespecial 196, 3) := by decide +kernel
theorem dX11_need_14 : decode cX11_need 14 = .ok (.athrow, 1) := by decide +kernel
theorem dX11_need_15 : decode cX11_need 15 = .ok (.return_, 1) := by decide +kernel
theorem dX11_within_0 : decode cX11_within 0 = .ok (.iload_n 0, 1) := by decide +kernel
theorem dX11_within_1 : decode cX11_within 1 = .ok (.iload_n 1, 1) := by decide +kernel
theorem dX11_within_2 : decode cX11_within 2 = .ok (.if_icmp .lt 12, 3) := by decide +kernel
theorem dX11_within_5 : decode cX11_within 5 = .ok (.iload_n 0, 1) := by decide +kernel
theorem dX11_within_6 : decode cX11_within 6 = .ok (.iload_n 2, 1) := by decide +kernel
theorem dX11_within_7 : decode cX11_within 7 = .ok (.if_icmp .gt 7, 3) := by decide +kernel
theorem dX11_within_10 : decode cX11_within 10 = .ok (.iconst 1, 1) := by decide +kernel
theorem dX11_within_11 : decode cX11_within 11 = .ok (.goto 4, 3) := by decide +kernel
theorem dX11_within_14 : decode cX11_within 14 = .ok (.iconst 0, 1) := by decide +kernel
theorem dX11_within_15 : decode cX11_within 15 = .ok (.ireturn, 1) := by decide +kernel
theorem dX11_entry_0 : decode cX11_entry 0 = .ok (.iload_n 1, 1) := by decide +kernel
theorem dX11_entry_1 : decode cX11_entry 1 = .ok (.ifCond .lt 15, 3) := by decide +kernel
theorem dX11_entry_4 : decode cX11_entry 4 = .ok (.iload_n 1, 1) := by decide +kernel
theorem dX11_entry_5 : decode cX11_entry 5 = .ok (.aload_n 0, 1) := by decide +kernel
theorem dX11_entry_6 : decode cX11_entry 6 = .ok (.arraylength, 1) := by decide +kernel
theorem dX11_entry_7 : decode cX11_entry 7 = .ok (.if_icmp .ge 9, 3) := by decide +kernel
theorem dX11_entry_10 : decode cX11_entry 10 = .ok (.aload_n 0, 1) := by decide +kernel
theorem dX11_entry_11 : decode cX11_entry 11 = .ok (.iload_n 1, 1) := by decide +kernel
theorem dX11_entry_12 : decode cX11_entry 12 = .ok (.iaload, 1) := by decide +kernel
theorem dX11_entry_13 : decode cX11_entry 13 = .ok (.goto 4, 3) := by decide +kernel
theorem dX11_entry_16 : decode cX11_entry 16 = .ok (.iload_n 2, 1) := by decide +kernel
theorem dX11_entry_17 : decode cX11_entry 17 = .ok (.ireturn, 1) := by decide +kernel
theorem dX11_swapIn_0 : decode cX11_swapIn 0 = .ok (.iload_n 1, 1) := by decide +kernel
theorem dX11_swapIn_1 : decode cX11_swapIn 1 = .ok (.ifCond .lt 9, 3) := by decide +kernel
theorem dX11_swapIn_4 : decode cX11_swapIn 4 = .ok (.iload_n 1, 1) := by decide +kernel
theorem dX11_swapIn_5 : decode cX11_swapIn 5 = .ok (.aload_n 0, 1) := by decide +kernel
theorem dX11_swapIn_6 : decode cX11_swapIn 6 = .ok (.arraylength, 1) := by decide +kernel
theorem dX11_swapIn_7 : decode cX11_swapIn 7 = .ok (.if_icmp .lt 5, 3) := by decide +kernel
theorem dX11_swapIn_10 : decode cX11_swapIn 10 = .ok (.iconst (-1), 1) := by decide +kernel
theorem dX11_swapIn_11 : decode cX11_swapIn 11 = .ok (.ireturn, 1) := by decide +kernel
theorem dX11_swapIn_12 : decode cX11_swapIn 12 = .ok (.aload_n 0, 1) := by decide +kernel
theorem dX11_swapIn_13 : decode cX11_swapIn 13 = .ok (.iload_n 1, 1) := by decide +kernel
theorem dX11_swapIn_14 : decode cX11_swapIn 14 = .ok (.iaload, 1) := by decide +kernel
theorem dX11_swapIn_15 : decode cX11_swapIn 15 = .ok (.istore_n 3, 1) := by decide +kernel
theorem dX11_swapIn_16 : decode cX11_swapIn 16 = .ok (.aload_n 0, 1) := by decide +kernel
theorem dX11_swapIn_17 : decode cX11_swapIn 17 = .ok (.iload_n 1, 1) := by decide +kernel
theorem dX11_swapIn_18 : decode cX11_swapIn 18 = .ok (.iload_n 2, 1) := by decide +kernel
theorem dX11_swapIn_19 : decode cX11_swapIn 19 = .ok (.iastore, 1) := by decide +kernel
theorem dX11_swapIn_20 : decode cX11_swapIn 20 = .ok (.iload_n 3, 1) := by decide +kernel
theorem dX11_swapIn_21 : decode cX11_swapIn 21 = .ok (.ireturn, 1) := by decide +kernel
theorem dX12_thrown_0 : decode cX12_thrown 0 = .ok (.aload_n 0, 1) := by decide +kernel
theorem dX12_thrown_1 : decode cX12_thrown 1 = .ok (.getfield 1, 3) := by decide +kernel
theorem dX12_thrown_4 : decode cX12_thrown 4 = .ok (.ireturn, 1) := by decide +kernel
theorem dX12_may_0 : decode cX12_may 0 = .ok (.iload_n 1, 1) := by decide +kernel
theorem dX12_may_1 : decode cX12_may 1 = .ok (.ifCond .ne 15, 3) := by decide +kernel
theorem dX12_may_4 : decode cX12_may 4 = .ok (.aload_n 0, 1) := by decide +kernel
theorem dX12_may_5 : decode cX12_may 5 = .ok (.getfield 1, 3) := by decide +kernel
theorem dX12_may_8 : decode cX12_may 8 = .ok (.ifCond .ne 8, 3) := by decide +kernel
theorem dX12_may_11 : decode cX12_may 11 = .ok (.aload_n 0, 1) := by decide +kernel
theorem dX12_may_12 : decode cX12_may 12 = .ok (.iload_n 2, 1) := by decide +kernel
theorem dX12_may_13 : decode cX12_may 13 = .ok (.putfield 1, 3) := by decide +kernel
theorem dX12_may_16 : decode cX12_may 16 = .ok (.aload_n 0, 1) := by decide +kernel
theorem dX12_may_17 : decode cX12_may 17 = .ok (.getfield 1, 3) := by decide +kernel
theorem dX12_may_20 : decode cX12_may 20 = .ok (.ifCond .ne 7, 3) := by decide +kernel
theorem dX12_may_23 : decode cX12_may 23 = .ok (.iconst 1, 1) := by decide +kernel
theorem dX12_may_24 : decode cX12_may 24 = .ok (.goto 4, 3) := by decide +kernel
theorem dX12_may_27 : decode cX12_may 27 = .ok (.iconst 0, 1) := by decide +kernel
theorem dX12_may_28 : decode cX12_may 28 = .ok (.ireturn, 1) := by decide +kernel
theorem dX12_within_0 : decode cX12_within 0 = .ok (.iload_n 0, 1) := by decide +kernel
theorem dX12_within_1 : decode cX12_within 1 = .ok (.iload_n 1, 1) := by decide +kernel
theorem dX12_within_2 : decode cX12_within 2 = .ok (.if_icmp .lt 12, 3) := by decide +kernel
theorem dX12_within_5 : decode cX12_within 5 = .ok (.iload_n 0, 1) := by decide +kernel
theorem dX12_within_6 : decode cX12_within 6 = .ok (.iload_n 2, 1) := by decide +kernel
theorem dX12_within_7 : decode cX12_within 7 = .ok (.if_icmp .gt 7, 3) := by decide +kernel
theorem dX12_within_10 : decode cX12_within 10 = .ok (.iconst 1, 1) := by decide +kernel
theorem dX12_within_11 : decode cX12_within 11 = .ok (.goto 4, 3) := by decide +kernel
theorem dX12_within_14 : decode cX12_within 14 = .ok (.iconst 0, 1) := by decide +kernel
theorem dX12_within_15 : decode cX12_within 15 = .ok (.ireturn, 1) := by decide +kernel
theorem dX12_init_0 : decode cX12_init 0 = .ok (.aload_n 0, 1) := by decide +kernel
theorem dX12_init_1 : decode cX12_init 1 = .ok (.invokespecial 7, 3) := by decide +kernel
theorem dX12_init_4 : decode cX12_init 4 = .ok (.aload_n 0, 1) := by decide +kernel
theorem dX12_init_5 : decode cX12_init 5 = .ok (.bipush 8, 2) := by decide +kernel
theorem dX12_init_7 : decode cX12_init 7 = .ok (.newarray .int, 2) := by decide +kernel
theorem dX12_init_9 : decode cX12_init 9 = .ok (.putfield 13, 3) := by decide +kernel
theorem dX12_init_12 : decode cX12_init 12 = .ok (.aload_n 0, 1) := by decide +kernel
theorem dX12_init_13 : decode cX12_init 13 = .ok (.bipush 96, 2) := by decide +kernel
theorem dX12_init_15 : decode cX12_init 15 = .ok (.newarray .int, 2) := by decide +kernel
theorem dX12_init_17 : decode cX12_init 17 = .ok (.putfield 17, 3) := by decide +kernel
theorem dX12_init_20 : decode cX12_init 20 = .ok (.aload_n 0, 1) := by decide +kernel
theorem dX12_init_21 : decode cX12_init 21 = .ok (.bipush 96, 2) := by decide +kernel
theorem dX12_init_23 : decode cX12_init 23 = .ok (.newarray .int, 2) := by decide +kernel
theorem dX12_init_25 : decode cX12_init 25 = .ok (.putfield 20, 3) := by decide +kernel
theorem dX12_init_28 : decode cX12_init 28 = .ok (.aload_n 0, 1) := by decide +kernel
theorem dX12_init_29 : decode cX12_init 29 = .ok (.bipush 96, 2) := by decide +kernel
theorem dX12_init_31 : decode cX12_init 31 = .ok (.newarray .int, 2) := by decide +kernel
theorem dX12_init_33 : decode cX12_init 33 = .ok (.putfield 23, 3) := by decide +kernel
theorem dX12_init_36 : decode cX12_init 36 = .ok (.aload_n 0, 1) := by decide +kernel
theorem dX12_init_37 : decode cX12_init 37 = .ok (.bipush 96, 2) := by decide +kernel
theorem dX12_init_39 : decode cX12_init 39 = .ok (.newarray .int, 2) := by decide +kernel
theorem dX12_init_41 : decode cX12_init 41 = .ok (.putfield 26, 3) := by decide +kernel
theorem dX12_init_44 : decode cX12_init 44 = .ok (.aload_n 0, 1) := by decide +kernel
theorem dX12_init_45 : decode cX12_init 45 = .ok (.bipush 96, 2) := by decide +kernel
theorem dX12_init_47 : decode cX12_init 47 = .ok (.newarray .int, 2) := by decide +kernel
theorem dX12_init_49 : decode cX12_init 49 = .ok (.putfield 29, 3) := by decide +kernel
theorem dX12_init_52 : decode cX12_init 52 = .ok (.aload_n 0, 1) := by decide +kernel
theorem dX12_init_53 : decode cX12_init 53 = .ok (.bipush 8, 2) := by decide +kernel
theorem dX12_init_55 : decode cX12_init 55 = .ok (.newarray .int, 2) := by decide +kernel
theorem dX12_init_57 : decode cX12_init 57 = .ok (.putfield 32, 3) := by decide +kernel
theorem dX12_init_60 : decode cX12_init 60 = .ok (.aload_n 0, 1) := by decide +kernel
theorem dX12_init_61 : decode cX12_init 61 = .ok (.bipush 8, 2) := by decide +kernel
theorem dX12_init_63 : decode cX12_init 63 = .ok (.newarray .int, 2) := by decide +kernel
theorem dX12_init_65 : decode cX12_init 65 = .ok (.putfield 35, 3) := by decide +kernel
theorem dX12_init_68 : decode cX12_init 68 = .ok (.aload_n 0, 1) := by decide +kernel
theorem dX12_init_69 : decode cX12_init 69 = .ok (.bipush 8, 2) := by decide +kernel
theorem dX12_init_71 : decode cX12_init 71 = .ok (.newarray .int, 2) := by decide +kernel
theorem dX12_init_73 : decode cX12_init 73 = .ok (.putfield 38, 3) := by decide +kernel
theorem dX12_init_76 : decode cX12_init 76 = .ok (.aload_n 0, 1) := by decide +kernel
theorem dX12_init_77 : decode cX12_init 77 = .ok (.bipush 26, 2) := by decide +kernel
theorem dX12_init_79 : decode cX12_init 79 = .ok (.newarray .int, 2) := by decide +kernel
theorem dX12_init_81 : decode cX12_init 81 = .ok (.putfield 41, 3) := by decide +kernel
theorem dX12_init_84 : decode cX12_init 84 = .ok (.aload_n 0, 1) := by decide +kernel
theorem dX12_init_85 : decode cX12_init 85 = .ok (.iconst (-1), 1) := by decide +kernel
theorem dX12_init_86 : decode cX12_init 86 = .ok (.putfield 44, 3) := by decide +kernel
theorem dX12_init_89 : decode cX12_init 89 = .ok (.aload_n 0, 1) := by decide +kernel
theorem dX12_init_90 : decode cX12_init 90 = .ok (.sipush 400, 3) := by decide +kernel
theorem dX12_init_93 : decode cX12_init 93 = .ok (.newarray .int, 2) := by decide +kernel
theorem dX12_init_95 : decode cX12_init 95 = .ok (.putfield 47, 3) := by decide +kernel
theorem dX12_init_98 : decode cX12_init 98 = .ok (.aload_n 0, 1) := by decide +kernel
theorem dX12_init_99 : decode cX12_init 99 = .ok (.bipush 61, 2) := by decide +kernel
theorem dX12_init_101 : decode cX12_init 101 = .ok (.newarray .int, 2) := by decide +kernel
theorem dX12_init_103 : decode cX12_init 103 = .ok (.putfield 50, 3) := by decide +kernel
theorem dX12_init_106 : decode cX12_init 106 = .ok (.aload_n 0, 1) := by decide +kernel
theorem dX12_init_107 : decode cX12_init 107 = .ok (.bipush 61, 2) := by decide +kernel
theorem dX12_init_109 : decode cX12_init 109 = .ok (.newarray .int, 2) := by decide +kernel
theorem dX12_init_111 : decode cX12_init 111 = .ok (.putfield 53, 3) := by decide +kernel
theorem dX12_init_114 : decode cX12_init 114 = .ok (.aload_n 0, 1) := by decide +kernel
theorem dX12_init_115 : decode cX12_init 115 = .ok (.bipush 61, 2) := by decide +kernel
theorem dX12_init_117 : decode cX12_init 117 = .ok (.newarray .int, 2) := by decide +kernel
theorem dX12_init_119 : decode cX12_init 119 = .ok (.putfield 56, 3) := by decide +kernel
theorem dX12_init_122 : decode cX12_init 122 = .ok (.aload_n 0, 1) := by decide +kernel
theorem dX12_init_123 : decode cX12_init 123 = .ok (.bipush 61, 2) := by decide +kernel
theorem dX12_init_125 : decode cX12_init 125 = .ok (.newarray .int, 2) := by decide +kernel
theorem dX12_init_127 : decode cX12_init 127 = .ok (.putfield 59, 3) := by decide +kernel
theorem dX12_init_130 : decode cX12_init 130 = .ok (.aload_n 0, 1) := by decide +kernel
theorem dX12_init_131 : decode cX12_init 131 = .ok (.bipush 61, 2) := by decide +kernel
theorem dX12_init_133 : decode cX12_init 133 = .ok (.newarray .int, 2) := by decide +kernel
theorem dX12_init_135 : decode cX12_init 135 = .ok (.putfield 62, 3) := by decide +kernel
theorem dX12_init_138 : decode cX12_init 138 = .ok (.aload_n 0, 1) := by decide +kernel
theorem dX12_init_139 : decode cX12_init 139 = .ok (.bipush 61, 2) := by decide +kernel
theorem dX12_init_141 : decode cX12_init 141 = .ok (.newarray .int, 2) := by decide +kernel
theorem dX12_init_143 : decode cX12_init 143 = .ok (.putfield 65, 3) := by decide +kernel
theorem dX12_init_146 : decode cX12_init 146 = .ok (.aload_n 0, 1) := by decide +kernel
theorem dX12_init_147 : decode cX12_init 147 = .ok (.bipush 61, 2) := by decide +kernel
theorem dX12_init_149 : decode cX12_init 149 = .ok (.newarray .int, 2) := by decide +kernel
theorem dX12_init_151 : decode cX12_init 151 = .ok (.putfield 68, 3) := by decide +kernel
theorem dX12_init_154 : decode cX12_init 154 = .ok (.aload_n 0, 1) := by decide +kernel
theorem dX12_init_155 : decode cX12_init 155 = .ok (.bipush 61, 2) := by decide +kernel
theorem dX12_init_157 : decode cX12_init 157 = .ok (.newarray .int, 2) := by decide +kernel
theorem dX12_init_159 : decode cX12_init 159 = .ok (.putfield 71, 3) := by decide +kernel
theorem dX12_init_162 : decode cX12_init 162 = .ok (.aload_n 0, 1) := by decide +kernel
theorem dX12_init_163 : decode cX12_init 163 = .ok (.sipush 400, 3) := by decide +kernel
theorem dX12_init_166 : decode cX12_init 166 = .ok (.newarray .int, 2) := by decide +kernel
theorem dX12_init_168 : decode cX12_init 168 = .ok (.putfield 74, 3) := by decide +kernel
theorem dX12_init_171 : decode cX12_init 171 = .ok (.aload_n 0, 1) := by decide +kernel
theorem dX12_init_172 : decode cX12_init 172 = .ok (.sipush 400, 3) := by decide +kernel
theorem dX12_init_175 : decode cX12_init 175 = .ok (.newarray .int, 2) := by decide +kernel
theorem dX12_init_177 : decode cX12_init 177 = .ok (.putfield 77, 3) := by decide +kernel
theorem dX12_init_180 : decode cX12_init 180 = .ok (.aload_n 0, 1) := by decide +kernel
theorem dX12_init_181 : decode cX12_init 181 = .ok (.sipush 400, 3) := by decide +kernel
theorem dX12_init_184 : decode cX12_init 184 = .ok (.newarray .int, 2) := by decide +kernel
theorem dX12_init_186 : decode cX12_init 186 = .ok (.putfield 80, 3) := by decide +kernel
theorem dX12_init_189 : decode cX12_init 189 = .ok (.aload_n 0, 1) := by decide +kernel
theorem dX12_init_190 : decode cX12_init 190 = .ok (.sipush 400, 3) := by decide +kernel
theorem dX12_init_193 : decode cX12_init 193 = .ok (.newarray .int, 2) := by decide +kernel
theorem dX12_init_195 : decode cX12_init 195 = .ok (.putfield 83, 3) := by decide +kernel
theorem dX12_init_198 : decode cX12_init 198 = .ok (.aload_n 0, 1) := by decide +kernel
theorem dX12_init_199 : decode cX12_init 199 = .ok (.ldc 86, 2) := by decide +kernel
theorem dX12_init_201 : decode cX12_init 201 = .ok (.newarray .byte, 2) := by decide +kernel
theorem dX12_init_203 : decode cX12_init 203 = .ok (.putfield 87, 3) := by decide +kernel
theorem dX12_init_206 : decode cX12_init 206 = .ok (.aload_n 0, 1) := by decide +kernel
theorem dX12_init_207 : decode cX12_init 207 = .ok (.ldc 91, 2) := by decide +kernel
theorem dX12_init_209 : decode cX12_init 209 = .ok (.newarray .byte, 2) := by decide +kernel
theorem dX12_init_211 : decode cX12_init 211 = .ok (.putfield 92, 3) := by decide +kernel
theorem dX12_init_214 : decode cX12_init 214 = .ok (.aload_n 0, 1) := by decide +kernel
theorem dX12_init_215 : decode cX12_init 215 = .ok (.sipush 14400, 3) := by decide +kernel
theorem dX12_init_218 : decode cX12_init 218 = .ok (.newarray .int, 2) := by decide +kernel
theorem dX12_init_220 : decode cX12_init 220 = .ok (.putfield 95, 3) := by decide +kernel
theorem dX12_init_223 : decode cX12_init 223 = .ok (.aload_n 0, 1) := by decide +kernel
theorem dX12_init_224 : decode cX12_init 224 = .ok (.sipush 4800, 3) := by decide +kernel
theorem dX12_init_227 : decode cX12_init 227 = .ok (.newarray .int, 2) := by decide +kernel
theorem dX12_init_229 : decode cX12_init 229 = .ok (.putfield 98, 3) := by decide +kernel
theorem dX12_init_232 : decode cX12_init 232 = .ok (.aload_n 0, 1) := by decide +kernel
theorem dX12_init_233 : decode cX12_init 233 = .ok (.sipush 4800, 3) := by decide +kernel
theorem dX12_init_236 : decode cX12_init 236 = .ok (.newarray .int, 2) := by decide +kernel
theorem dX12_init_238 : decode cX12_init 238 = .ok (.putfield 101, 3) := by decide +kernel
theorem dX12_init_241 : decode cX12_init 241 = .ok (.aload_n 0, 1) := by decide +kernel
theorem dX12_init_242 : decode cX12_init 242 = .ok (.bipush 12, 2) := by decide +kernel
theorem dX12_init_244 : decode cX12_init 244 = .ok (.newarray .int, 2) := by decide +kernel
theorem dX12_init_246 : decode cX12_init 246 = .ok (.putfield 104, 3) := by decide +kernel
theorem dX12_init_249 : decode cX12_init 249 = .ok (.aload_n 0, 1) := by decide +kernel
theorem dX12_init_250 : decode cX12_init 250 = .ok (.bipush 12, 2) := by decide +kernel
theorem dX12_init_252 : decode cX12_init 252 = .ok (.newarray .int, 2) := by decide +kernel
theorem dX12_init_254 : decode cX12_init 254 = .ok (.putfield 107, 3) := by decide +kernel
theorem dX12_init_257 : decode cX12_init 257 = .ok (.aload_n 0, 1) := by decide +kernel
theorem dX12_init_258 : decode cX12_init 258 = .ok (.bipush 12, 2) := by decide +kernel
theorem dX12_init_260 : decode cX12_init 260 = .ok (.newarray .int, 2) := by decide +kernel
theorem dX12_init_262 : decode cX12_init 262 = .ok (.putfield 110, 3) := by decide +kernel
theorem dX12_init_265 : decode cX12_init 265 = .ok (.aload_n 0, 1) := by decide +kernel
theorem dX12_init_266 : decode cX12_init 266 = .ok (.bipush 12, 2) := by decide +kernel
theorem dX12_init_268 : decode cX12_init 268 = .ok (.newarray .int, 2) := by decide +kernel
theorem dX12_init_270 : decode cX12_init 270 = .ok (.putfield 113, 3) := by decide +kernel
theorem dX12_init_273 : decode cX12_init 273 = .ok (.aload_n 0, 1) := by decide +kernel
theorem dX12_init_274 : decode cX12_init 274 = .ok (.bipush 12, 2) := by decide +kernel
theorem dX12_init_276 : decode cX12_init 276 = .ok (.newarray .int, 2) := by decide +kernel
theorem dX12_init_278 : decode cX12_init 278 = .ok (.putfield 116, 3) := by decide +kernel
theorem dX12_init_281 : decode cX12_init 281 = .ok (.aload_n 0, 1) := by decide +kernel
theorem dX12_init_282 : decode cX12_init 282 = .ok (.sipush 4800, 3) := by decide +kernel
theorem dX12_init_285 : decode cX12_init 285 = .ok (.newarray .int, 2) := by decide +kernel
theorem dX12_init_287 : decode cX12_init 287 = .ok (.putfield 119, 3) := by decide +kernel
theorem dX12_init_290 : decode cX12_init 290 = .ok (.aload_n 0, 1) := by decide +kernel
theorem dX12_init_291 : decode cX12_init 291 = .ok (.sipush 4800, 3) := by decide +kernel
theorem dX12_init_294 : decode cX12_init 294 = .ok (.newarray .boolean, 2) := by decide +kernel
theorem dX12_init_296 : decode cX12_init 296 = .ok (.putfield 122, 3) := by decide +kernel
theorem dX12_init_299 : decode cX12_init 299 = .ok (.aload_n 0, 1) := by decide +kernel
theorem dX12_init_300 : decode cX12_init 300 = .ok (.bipush 96, 2) := by decide +kernel
theorem dX12_init_302 : decode cX12_init 302 = .ok (.newarray .int, 2) := by decide +kernel
theorem dX12_init_304 : decode cX12_init 304 = .ok (.putfield 126, 3) := by decide +kernel
theorem dX12_init_307 : decode cX12_init 307 = .ok (.aload_n 0, 1) := by decide +kernel
theorem dX12_init_308 : decode cX12_init 308 = .ok (.bipush 96, 2) := by decide +kernel
theorem dX12_init_310 : decode cX12_init 310 = .ok (.newarray .int, 2) := by decide +kernel
theorem dX12_init_312 : decode cX12_init 312 = .ok (.putfield 129, 3) := by decide +kernel
theorem dX12_init_315 : decode cX12_init 315 = .ok (.aload_n 0, 1) := by decide +kernel
theorem dX12_init_316 : decode cX12_init 316 = .ok (.iconst 3, 1) := by decide +kernel
theorem dX12_init_317 : decode cX12_init 317 = .ok (.newarray .int, 2) := by decide +kernel
theorem dX12_init_319 : decode cX12_init 319 = .ok (.putfield 132, 3) := by decide +kernel
theorem dX12_init_322 : decode cX12_init 322 = .ok (.aload_n 0, 1) := by decide +kernel
theorem dX12_init_323 : decode cX12_init 323 = .ok (.iconst 3, 1) := by decide +kernel
theorem dX12_init_324 : decode cX12_init 324 = .ok (.newarray .int, 2) := by decide +kernel
theorem dX12_init_326 : decode cX12_init 326 = .ok (.putfield 135, 3) := by decide +kernel
theorem dX12_init_329 : decode cX12_init 329 = .ok (.aload_n 0, 1) := by decide +kernel
theorem dX12_init_330 : decode cX12_init 330 = .ok (.iconst 3, 1) := by decide +kernel
theorem dX12_init_331 : decode cX12_init 331 = .ok (.newarray .int, 2) := by decide +kernel
theorem dX12_init_333 : decode cX12_init 333 = .ok (.putfield 138, 3) := by decide +kernel
theorem dX12_init_336 : decode cX12_init 336 = .ok (.aload_n 0, 1) := by decide +kernel
theorem dX12_init_337 : decode cX12_init 337 = .ok (.iconst 3, 1) := by decide +kernel
theorem dX12_init_338 : decode cX12_init 338 = .ok (.newarray .int, 2) := by decide +kernel
theorem dX12_init_340 : decode cX12_init 340 = .ok (.putfield 141, 3) := by decide +kernel
theorem dX12_init_343 : decode cX12_init 343 = .ok (.aload_n 0, 1) := by decide +kernel
theorem dX12_init_344 : decode cX12_init 344 = .ok (.iconst 3, 1) := by decide +kernel
theorem dX12_init_345 : decode cX12_init 345 = .ok (.newarray .int, 2) := by decide +kernel
theorem dX12_init_347 : decode cX12_init 347 = .ok (.putfield 144, 3) := by decide +kernel
theorem dX12_init_350 : decode cX12_init 350 = .ok (.aload_n 0, 1) := by decide +kernel
theorem dX12_init_351 : decode cX12_init 351 = .ok (.iconst 3, 1) := by decide +kernel
theorem dX12_init_352 : decode cX12_init 352 = .ok (.newarray .int, 2) := by decide +kernel
theorem dX12_init_354 : decode cX12_init 354 = .ok (.putfield 147, 3) := by decide +kernel
theorem dX12_init_357 : decode cX12_init 357 = .ok (.aload_n 0, 1) := by decide +kernel
theorem dX12_init_358 : decode cX12_init 358 = .ok (.bipush 12, 2) := by decide +kernel
theorem dX12_init_360 : decode cX12_init 360 = .ok (.newarray .int, 2) := by decide +kernel
theorem dX12_init_362 : decode cX12_init 362 = .ok (.putfield 150, 3) := by decide +kernel
theorem dX12_init_365 : decode cX12_init 365 = .ok (.aload_n 0, 1) := by decide +kernel
theorem dX12_init_366 : decode cX12_init 366 = .ok (.bipush 12, 2) := by decide +kernel
theorem dX12_init_368 : decode cX12_init 368 = .ok (.newarray .int, 2) := by decide +kernel
theorem dX12_init_370 : decode cX12_init 370 = .ok (.putfield 153, 3) := by decide +kernel
theorem dX12_init_373 : decode cX12_init 373 = .ok (.aload_n 0, 1) := by decide +kernel
theorem dX12_init_374 : decode cX12_init 374 = .ok (.iconst 3, 1) := by decide +kernel
theorem dX12_init_375 : decode cX12_init 375 = .ok (.newarray .int, 2) := by decide +kernel
theorem dX12_init_377 : decode cX12_init 377 = .ok (.putfield 156, 3) := by decide +kernel
theorem dX12_init_380 : decode cX12_init 380 = .ok (.aload_n 0, 1) := by decide +kernel
theorem dX12_init_381 : decode cX12_init 381 = .ok (.bipush 8, 2) := by decide +kernel
theorem dX12_init_383 : decode cX12_init 383 = .ok (.newarray .int, 2) := by decide +kernel
theorem dX12_init_385 : decode cX12_init 385 = .ok (.putfield 159, 3) := by decide +kernel
theorem dX12_init_388 : decode cX12_init 388 = .ok (.aload_n 0, 1) := by decide +kernel
theorem dX12_init_389 : decode cX12_init 389 = .ok (.iconst 5, 1) := by decide +kernel
theorem dX12_init_390 : decode cX12_init 390 = .ok (.newarray .int, 2) := by decide +kernel
theorem dX12_init_392 : decode cX12_init 392 = .ok (.putfield 162, 3) := by decide +kernel
theorem dX12_init_395 : decode cX12_init 395 = .ok (.aload_n 0, 1) := by decide +kernel
theorem dX12_init_396 : decode cX12_init 396 = .ok (.iconst 5, 1) := by decide +kernel
theorem dX12_init_397 : decode cX12_init 397 = .ok (.newarray .int, 2) := by decide +kernel
theorem dX12_init_399 : decode cX12_init 399 = .ok (.putfield 165, 3) := by decide +kernel
theorem dX12_init_402 : decode cX12_init 402 = .ok (.aload_n 0, 1) := by decide +kernel
theorem dX12_init_403 : decode cX12_init 403 = .ok (.iconst 5, 1) := by decide +kernel
theorem dX12_init_404 : decode cX12_init 404 = .ok (.newarray .int, 2) := by decide +kernel
theorem dX12_init_406 : decode cX12_init 406 = .ok (.putfield 168, 3) := by decide +kernel
theorem dX12_init_409 : decode cX12_init 409 = .ok (.aload_n 0, 1) := by decide +kernel
theorem dX12_init_410 : decode cX12_init 410 = .ok (.iconst 5, 1) := by decide +kernel
theorem dX12_init_411 : decode cX12_init 411 = .ok (.newarray .int, 2) := by decide +kernel
theorem dX12_init_413 : decode cX12_init 413 = .ok (.putfield 171, 3) := by decide +kernel
theorem dX12_init_416 : decode cX12_init 416 = .ok (.aload_n 0, 1) := by decide +kernel
theorem dX12_init_417 : decode cX12_init 417 = .ok (.iconst 5, 1) := by decide +kernel
theorem dX12_init_418 : decode cX12_init 418 = .ok (.newarray .int, 2) := by decide +kernel
theorem dX12_init_420 : decode cX12_init 420 = .ok (.putfield 174, 3) := by decide +kernel
theorem dX12_init_423 : decode cX12_init 423 = .ok (.aload_n 0, 1) := by decide +kernel
theorem dX12_init_424 : decode cX12_init 424 = .ok (.iconst 5, 1) := by decide +kernel
theorem dX12_init_425 : decode cX12_init 425 = .ok (.newarray .int, 2) := by decide +kernel
theorem dX12_init_427 : decode cX12_init 427 = .ok (.putfield 177, 3) := by decide +kernel
theorem dX12_init_430 : decode cX12_init 430 = .ok (.aload_n 0, 1) := by decide +kernel
theorem dX12_init_431 : decode cX12_init 431 = .ok (.iconst 5, 1) := by decide +kernel
theorem dX12_init_432 : decode cX12_init 432 = .ok (.newarray .int, 2) := by decide +kernel
theorem dX12_init_434 : decode cX12_init 434 = .ok (.putfield 180, 3) := by decide +kernel
theorem dX12_init_437 : decode cX12_init 437 = .ok (.aload_n 0, 1) := by decide +kernel
theorem dX12_init_438 : decode cX12_init 438 = .ok (.iconst 5, 1) := by decide +kernel
theorem dX12_init_439 : decode cX12_init 439 = .ok (.newarray .int, 2) := by decide +kernel
theorem dX12_init_441 : decode cX12_init 441 = .ok (.putfield 183, 3) := by decide +kernel
theorem dX12_init_444 : decode cX12_init 444 = .ok (.aload_n 0, 1) := by decide +kernel
theorem dX12_init_445 : decode cX12_init 445 = .ok (.bipush 12, 2) := by decide +kernel
theorem dX12_init_447 : decode cX12_init 447 = .ok (.newarray .int, 2) := by decide +kernel
theorem dX12_init_449 : decode cX12_init 449 = .ok (.putfield 186, 3) := by decide +kernel
theorem dX12_init_452 : decode cX12_init 452 = .ok (.aload_n 0, 1) := by decide +kernel
theorem dX12_init_453 : decode cX12_init 453 = .ok (.bipush 12, 2) := by decide +kernel
theorem dX12_init_455 : decode cX12_init 455 = .ok (.newarray .int, 2) := by decide +kernel
theorem dX12_init_457 : decode cX12_init 457 = .ok (.putfield 189, 3) := by decide +kernel
theorem dX12_init_460 : decode cX12_init 460 = .ok (.aload_n 0, 1) := by decide +kernel
theorem dX12_init_461 : decode cX12_init 461 = .ok (.bipush 12, 2) := by decide +kernel
theorem dX12_init_463 : decode cX12_init 463 = .ok (.newarray .int, 2) := by decide +kernel
theorem dX12_init_465 : decode cX12_init 465 = .ok (.putfield 192, 3) := by decide +kernel
theorem dX12_init_468 : decode cX12_init 468 = .ok (.aload_n 0, 1) := by decide +kernel
theorem dX12_init_469 : decode cX12_init 469 = .ok (.bipush 80, 2) := by decide +kernel
theorem dX12_init_471 : decode cX12_init 471 = .ok (.newarray .int, 2) := by decide +kernel
theorem dX12_init_473 : decode cX12_init 473 = .ok (.putfield 195, 3) := by decide +kernel
theorem dX12_init_476 : decode cX12_init 476 = .ok (.aload_n 0, 1) := by decide +kernel
theorem dX12_init_477 : decode cX12_init 477 = .ok (.bipush 80, 2) := by decide +kernel
theorem dX12_init_479 : decode cX12_init 479 = .ok (.newarray .int, 2) := by decide +kernel
theorem dX12_init_481 : decode cX12_init 481 = .ok (.putfield 198, 3) := by decide +kernel
theorem dX12_init_484 : decode cX12_init 484 = .ok (.aload_n 0, 1) := by decide +kernel
theorem dX12_init_485 : decode cX12_init 485 = .ok (.bipush 80, 2) := by decide +kernel
theorem dX12_init_487 : decode cX12_init 487 = .ok (.newarray .int, 2) := by decide +kernel
theorem dX12_init_489 : decode cX12_init 489 = .ok (.putfield 201, 3) := by decide +kernel
theorem dX12_init_492 : decode cX12_init 492 = .ok (.aload_n 0, 1) := by decide +kernel
theorem dX12_init_493 : decode cX12_init 493 = .ok (.bipush 80, 2) := by decide +kernel
theorem dX12_init_495 : decode cX12_init 495 = .ok (.newarray .int, 2) := by decide +kernel
theorem dX12_init_497 : decode cX12_init 497 = .ok (.putfield 204, 3) := by decide +kernel
theorem dX12_init_500 : decode cX12_init 500 = .ok (.aload_n 0, 1) := by decide +kernel
theorem dX12_init_501 : decode cX12_init 501 = .ok (.bipush 6, 2) := by decide +kernel
theorem dX12_init_503 : decode cX12_init 503 = .ok (.newarray .int, 2) := by decide +kernel
theorem dX12_init_505 : decode cX12_init 505 = .ok (.putfield 207, 3) := by decide +kernel
theorem dX12_init_508 : decode cX12_init 508 = .ok (.aload_n 0, 1) := by decide +kernel
theorem dX12_init_509 : decode cX12_init 509 = .ok (.bipush 6, 2) := by decide +kernel
theorem dX12_init_511 : decode cX12_init 511 = .ok (.newarray .int, 2) := by decide +kernel
theorem dX12_init_513 : decode cX12_init 513 = .ok (.putfield 210, 3) := by decide +kernel
theorem dX12_init_516 : decode cX12_init 516 = .ok (.aload_n 0, 1) := by decide +kernel
theorem dX12_init_517 : decode cX12_init 517 = .ok (.bipush 6, 2) := by decide +kernel
theorem dX12_init_519 : decode cX12_init 519 = .ok (.newarray .int, 2) := by decide +kernel
theorem dX12_init_521 : decode cX12_init 521 = .ok (.putfield 213, 3) := by decide +kernel
theorem dX12_init_524 : decode cX12_init 524 = .ok (.aload_n 0, 1) := by decide +kernel
theorem dX12_init_525 : decode cX12_init 525 = .ok (.iconst 3, 1) := by decide +kernel
theorem dX12_init_526 : decode cX12_init 526 = .ok (.newarray .int, 2) := by decide +kernel
theorem dX12_init_528 : decode cX12_init 528 = .ok (.dup, 1) := by decide +kernel
theorem dX12_init_529 : decode cX12_init 529 = .ok (.iconst 0, 1) := by decide +kernel
theorem dX12_init_530 : decode cX12_init 530 = .ok (.iconst (-1), 1) := by decide +kernel
theorem dX12_init_531 : decode cX12_init 531 = .ok (.iastore, 1) := by decide +kernel
theorem dX12_init_532 : decode cX12_init 532 = .ok (.dup, 1) := by decide +kernel
theorem dX12_init_533 : decode cX12_init 533 = .ok (.iconst 1, 1) := by decide +kernel
theorem dX12_init_534 : decode cX12_init 534 = .ok (.iconst (-1), 1) := by decide +kernel
theorem dX12_init_535 : decode cX12_init 535 = .ok (.iastore, 1) := by decide +kernel
theorem dX12_init_536 : decode cX12_init 536 = .ok (.dup, 1) := by decide +kernel
theorem dX12_init_537 : decode cX12_init 537 = .ok (.iconst 2, 1) := by decide +kernel
theorem dX12_init_538 : decode cX12_init 538 = .ok (.iconst (-1), 1) := by decide +kernel
theorem dX12_init_539 : decode cX12_init 539 = .ok (.iastore, 1) := by decide +kernel
theorem dX12_init_540 : decode cX12_init 540 = .ok (.putfield 216, 3) := by decide +kernel
theorem dX12_init_543 : decode cX12_init 543 = .ok (.aload_n 0, 1) := by decide +kernel
theorem dX12_init_544 : decode cX12_init 544 = .ok (.iconst 3, 1) := by decide +kernel
theorem dX12_init_545 : decode cX12_init 545 = .ok (.newarray .int, 2) := by decide +kernel
theorem dX12_init_547 : decode cX12_init 547 = .ok (.putfield 219, 3) := by decide +kernel
theorem dX12_init_550 : decode cX12_init 550 = .ok (.aload_n 0, 1) := by decide +kernel
theorem dX12_init_551 : decode cX12_init 551 = .ok (.bipush 30, 2) := by decide +kernel
theorem dX12_init_553 : decode cX12_init 553 = .ok (.newarray .int, 2) := by decide +kernel
theorem dX12_init_555 : decode cX12_init 555 = .ok (.putfield 222, 3) := by decide +kernel
theorem dX12_init_558 : decode cX12_init 558 = .ok (.aload_n 0, 1) := by decide +kernel
theorem dX12_init_559 : decode cX12_init 559 = .ok (.iconst 3, 1) := by decide +kernel
theorem dX12_init_560 : decode cX12_init 560 = .ok (.newarray .int, 2) := by decide +kernel
theorem dX12_init_562 : decode cX12_init 562 = .ok (.dup, 1) := by decide +kernel
theorem dX12_init_563 : decode cX12_init 563 = .ok (.iconst 0, 1) := by decide +kernel
theorem dX12_init_564 : decode cX12_init 564 = .ok (.iconst (-1), 1) := by decide +kernel
theorem dX12_init_565 : decode cX12_init 565 = .ok (.iastore, 1) := by decide +kernel
theorem dX12_init_566 : decode cX12_init 566 = .ok (.dup, 1) := by decide +kernel
theorem dX12_init_567 : decode cX12_init 567 = .ok (.iconst 1, 1) := by decide +kernel
theorem dX12_init_568 : decode cX12_init 568 = .ok (.iconst (-1), 1) := by decide +kernel
theorem dX12_init_569 : decode cX12_init 569 = .ok (.iastore, 1) := by decide +kernel
theorem dX12_init_570 : decode cX12_init 570 = .ok (.dup, 1) := by decide +kernel
theorem dX12_init_571 : decode cX12_init 571 = .ok (.iconst 2, 1) := by decide +kernel
theorem dX12_init_572 : decode cX12_init 572 = .ok (.iconst (-1), 1) := by decide +kernel
theorem dX12_init_573 : decode cX12_init 573 = .ok (.iastore, 1) := by decide +kernel
theorem dX12_init_574 : decode cX12_init 574 = .ok (.putfield 225, 3) := by decide +kernel
theorem dX12_init_577 : decode cX12_init 577 = .ok (.aload_n 0, 1) := by decide +kernel
theorem dX12_init_578 : decode cX12_init 578 = .ok (.iconst 3, 1) := by decide +kernel
theorem dX12_init_579 : decode cX12_init 579 = .ok (.newarray .int, 2) := by decide +kernel
theorem dX12_init_581 : decode cX12_init 581 = .ok (.dup, 1) := by decide +kernel
theorem dX12_init_582 : decode cX12_init 582 = .ok (.iconst 0, 1) := by decide +kernel
theorem dX12_init_583 : decode cX12_init 583 = .ok (.iconst (-1), 1) := by decide +kernel
theorem dX12_init_584 : decode cX12_init 584 = .ok (.iastore, 1) := by decide +kernel
theorem dX12_init_585 : decode cX12_init 585 = .ok (.dup, 1) := by decide +kernel
theorem dX12_init_586 : decode cX12_init 586 = .ok (.iconst 1, 1) := by decide +kernel
theorem dX12_init_587 : decode cX12_init 587 = .ok (.iconst (-1), 1) := by decide +kernel
theorem dX12_init_588 : decode cX12_init 588 = .ok (.iastore, 1) := by decide +kernel
theorem dX12_init_589 : decode cX12_init 589 = .ok (.dup, 1) := by decide +kernel
theorem dX12_init_590 : decode cX12_init 590 = .ok (.iconst 2, 1) := by decide +kernel
theorem dX12_init_591 : decode cX12_init 591 = .ok (.iconst (-1), 1) := by decide +kernel
theorem dX12_init_592 : decode cX12_init 592 = .ok (.iastore, 1) := by decide +kernel
theorem dX12_init_593 : decode cX12_init 593 = .ok (.putfield 228, 3) := by decide +kernel
theorem dX12_init_596 : decode cX12_init 596 = .ok (.aload_n 0, 1) := by decide +kernel
theorem dX12_init_597 : decode cX12_init 597 = .ok (.iconst 3, 1) := by decide +kernel
theorem dX12_init_598 : decode cX12_init 598 = .ok (.newarray .int, 2) := by decide +kernel
theorem dX12_init_600 : decode cX12_init 600 = .ok (.putfield 231, 3) := by decide +kernel
theorem dX12_init_603 : decode cX12_init 603 = .ok (.aload_n 0, 1) := by decide +kernel
theorem dX12_init_604 : decode cX12_init 604 = .ok (.bipush 8, 2) := by decide +kernel
theorem dX12_init_606 : decode cX12_init 606 = .ok (.newarray .int, 2) := by decide +kernel
theorem dX12_init_608 : decode cX12_init 608 = .ok (.dup, 1) := by decide +kernel
theorem dX12_init_609 : decode cX12_init 609 = .ok (.iconst 0, 1) := by decide +kernel
theorem dX12_init_610 : decode cX12_init 610 = .ok (.iconst (-1), 1) := by decide +kernel
theorem dX12_init_611 : decode cX12_init 611 = .ok (.iastore, 1) := by decide +kernel
theorem dX12_init_612 : decode cX12_init 612 = .ok (.dup, 1) := by decide +kernel
theorem dX12_init_613 : decode cX12_init 613 = .ok (.iconst 1, 1) := by decide +kernel
theorem dX12_init_614 : decode cX12_init 614 = .ok (.iconst (-1), 1) := by decide +kernel
theorem dX12_init_615 : decode cX12_init 615 = .ok (.iastore, 1) := by decide +kernel
theorem dX12_init_616 : decode cX12_init 616 = .ok (.dup, 1) := by decide +kernel
theorem dX12_init_617 : decode cX12_init 617 = .ok (.iconst 2, 1) := by decide +kernel
theorem dX12_init_618 : decode cX12_init 618 = .ok (.iconst (-1), 1) := by decide +kernel
theorem dX12_init_619 : decode cX12_init 619 = .ok (.iastore, 1) := by decide +kernel
theorem dX12_init_620 : decode cX12_init 620 = .ok (.dup, 1) := by decide +kernel
theorem dX12_init_621 : decode cX12_init 621 = .ok (.iconst 3, 1) := by decide +kernel
theorem dX12_init_622 : decode cX12_init 622 = .ok (.iconst (-1), 1) := by decide +kernel
theorem dX12_init_623 : decode cX12_init 623 = .ok (.iastore, 1) := by decide +kernel
theorem dX12_init_624 : decode cX12_init 624 = .ok (.dup, 1) := by decide +kernel
theorem dX12_init_625 : decode cX12_init 625 = .ok (.iconst 4, 1) := by decide +kernel
theorem dX12_init_626 : decode cX12_init 626 = .ok (.iconst (-1), 1) := by decide +kernel
theorem dX12_init_627 : decode cX12_init 627 = .ok (.iastore, 1) := by decide +kernel
theorem dX12_init_628 : decode cX12_init 628 = .ok (.dup, 1) := by decide +kernel
theorem dX12_init_629 : decode cX12_init 629 = .ok (.iconst 5, 1) := by decide +kernel
theorem dX12_init_630 : decode cX12_init 630 = .ok (.iconst (-1), 1) := by decide +kernel
theorem dX12_init_631 : decode cX12_init 631 = .ok (.iastore, 1) := by decide +kernel
theorem dX12_init_632 : decode cX12_init 632 = .ok (.dup, 1) := by decide +kernel
theorem dX12_init_633 : decode cX12_init 633 = .ok (.bipush 6, 2) := by decide +kernel
theorem dX12_init_635 : decode cX12_init 635 = .ok (.iconst (-1), 1) := by decide +kernel
theorem dX12_init_636 : decode cX12_init 636 = .ok (.iastore, 1) := by decide +kernel
theorem dX12_init_637 : decode cX12_init 637 = .ok (.dup, 1) := by decide +kernel
theorem dX12_init_638 : decode cX12_init 638 = .ok (.bipush 7, 2) := by decide +kernel
theorem dX12_init_640 : decode cX12_init 640 = .ok (.iconst (-1), 1) := by decide +kernel
theorem dX12_init_641 : decode cX12_init 641 = .ok (.iastore, 1) := by decide +kernel
theorem dX12_init_642 : decode cX12_init 642 = .ok (.putfield 234, 3) := by decide +kernel
theorem dX12_init_645 : decode cX12_init 645 = .ok (.aload_n 0, 1) := by decide +kernel
theorem dX12_init_646 : decode cX12_init 646 = .ok (.bipush 6, 2) := by decide +kernel
theorem dX12_init_648 : decode cX12_init 648 = .ok (.newarray .int, 2) := by decide +kernel
theorem dX12_init_650 : decode cX12_init 650 = .ok (.putfield 237, 3) := by decide +kernel
theorem dX12_init_653 : decode cX12_init 653 = .ok (.aload_n 0, 1) := by decide +kernel
theorem dX12_init_654 : decode cX12_init 654 = .ok (.bipush 6, 2) := by decide +kernel
theorem dX12_init_656 : decode cX12_init 656 = .ok (.newarray .int, 2) := by decide +kernel
theorem dX12_init_658 : decode cX12_init 658 = .ok (.putfield 240, 3) := by decide +kernel
theorem dX12_init_661 : decode cX12_init 661 = .ok (.aload_n 0, 1) := by decide +kernel
theorem dX12_init_662 : decode cX12_init 662 = .ok (.iconst 3, 1) := by decide +kernel
theorem dX12_init_663 : decode cX12_init 663 = .ok (.newarray .int, 2) := by decide +kernel
theorem dX12_init_665 : decode cX12_init 665 = .ok (.putfield 243, 3) := by decide +kernel
theorem dX12_init_668 : decode cX12_init 668 = .ok (.aload_n 0, 1) := by decide +kernel
theorem dX12_init_669 : decode cX12_init 669 = .ok (.bipush 30, 2) := by decide +kernel
theorem dX12_init_671 : decode cX12_init 671 = .ok (.newarray .int, 2) := by decide +kernel
theorem dX12_init_673 : decode cX12_init 673 = .ok (.putfield 246, 3) := by decide +kernel
theorem dX12_init_676 : decode cX12_init 676 = .ok (.aload_n 0, 1) := by decide +kernel
theorem dX12_init_677 : decode cX12_init 677 = .ok (.iconst 3, 1) := by decide +kernel
theorem dX12_init_678 : decode cX12_init 678 = .ok (.newarray .int, 2) := by decide +kernel
theorem dX12_init_680 : decode cX12_init 680 = .ok (.putfield 249, 3) := by decide +kernel
theorem dX12_init_683 : decode cX12_init 683 = .ok (.aload_n 0, 1) := by decide +kernel
theorem dX12_init_684 : decode cX12_init 684 = .ok (.iconst 3, 1) := by decide +kernel
theorem dX12_init_685 : decode cX12_init 685 = .ok (.newarray .int, 2) := by decide +kernel
theorem dX12_init_687 : decode cX12_init 687 = .ok (.putfield 252, 3) := by decide +kernel
theorem dX12_init_690 : decode cX12_init 690 = .ok (.aload_n 0, 1) := by decide +kernel
theorem dX12_init_691 : decode cX12_init 691 = .ok (.iconst 3, 1) := by decide +kernel
theorem dX12_init_692 : decode cX12_init 692 = .ok (.newarray .int, 2) := by decide +kernel
theorem dX12_init_694 : decode cX12_init 694 = .ok (.putfield 255, 3) := by decide +kernel
theorem dX12_init_697 : decode cX12_init 697 = .ok (.aload_n 0, 1) := by decide +kernel
theorem dX12_init_698 : decode cX12_init 698 = .ok (.bipush 8, 2) := by decide +kernel
theorem dX12_init_700 : decode cX12_init 700 = .ok (.newarray .int, 2) := by decide +kernel
theorem dX12_init_702 : decode cX12_init 702 = .ok (.putfield 258, 3) := by decide +kernel
theorem dX12_init_705 : decode cX12_init 705 = .ok (.aload_n 0, 1) := by decide +kernel
theorem dX12_init_706 : decode cX12_init 706 = .ok (.bipush 12, 2) := by decide +kernel
theorem dX12_init_708 : decode cX12_init 708 = .ok (.newarray .int, 2) := by decide +kernel
theorem dX12_init_710 : decode cX12_init 710 = .ok (.putfield 261, 3) := by decide +kernel
theorem dX12_init_713 : decode cX12_init 713 = .ok (.iconst 0, 1) := by decide +kernel
theorem dX12_init_714 : decode cX12_init 714 = .ok (.istore_n 1, 1) := by decide +kernel
theorem dX12_init_715 : decode cX12_init 715 = .ok (.iload_n 1, 1) := by decide +kernel
theorem dX12_init_716 : decode cX12_init 716 = .ok (.bipush 26, 2) := by decide +kernel
theorem dX12_init_718 : decode cX12_init 718 = .ok (.if_icmp .ge 21, 3) := by decide +kernel
theorem dX12_init_721 : decode cX12_init 721 = .ok (.aload_n 0, 1) := by decide +kernel
theorem dX12_init_722 : decode cX12_init 722 = .ok (.getfield 41, 3) := by decide +kernel
theorem dX12_init_725 : decode cX12_init 725 = .ok (.iload_n 1, 1) := by decide +kernel
theorem dX12_init_726 : decode cX12_init 726 = .ok (.iload_n 1, 1) := by decide +kernel
theorem dX12_init_727 : decode cX12_init 727 = .ok (.bipush 9, 2) := by decide +kernel
theorem dX12_init_729 : decode cX12_init 729 = .ok (.irem, 1) := by decide +kernel
theorem dX12_init_730 : decode cX12_init 730 = .ok (.iconst 1, 1) := by decide +kernel
theorem dX12_init_731 : decode cX12_init 731 = .ok (.iadd, 1) := by decide +kernel
theorem dX12_init_732 : decode cX12_init 732 = .ok (.iastore, 1) := by decide +kernel
theorem dX12_init_733 : decode cX12_init 733 = .ok (.iinc 1 1, 3) := by decide +kernel
theorem dX12_init_736 : decode cX12_init 736 = .ok (.goto (-21), 3) := by decide +kernel
theorem dX12_init_739 : decode cX12_init 739 = .ok (.iconst 0, 1) := by decide +kernel
theorem dX12_init_740 : decode cX12_init 740 = .ok (.istore_n 1, 1) := by decide +kernel
theorem dX12_init_741 : decode cX12_init 741 = .ok (.iload_n 1, 1) := by decide +kernel
theorem dX12_init_742 : decode cX12_init 742 = .ok (.iconst 3, 1) := by decide +kernel
theorem dX12_init_743 : decode cX12_init 743 = .ok (.if_icmp .ge 17, 3) := by decide +kernel
theorem dX12_init_746 : decode cX12_init 746 = .ok (.aload_n 0, 1) := by decide +kernel
theorem dX12_init_747 : decode cX12_init 747 = .ok (.getfield 156, 3) := by decide +kernel
theorem dX12_init_750 : decode cX12_init 750 = .ok (.iload_n 1, 1) := by decide +kernel
theorem dX12_init_751 : decode cX12_init 751 = .ok (.bipush 10, 2) := by decide +kernel
theorem dX12_init_753 : decode cX12_init 753 = .ok (.iastore, 1) := by decide +kernel
theorem dX12_init_754 : decode cX12_init 754 = .ok (.iinc 1 1, 3) := by decide +kernel
theorem dX12_init_757 : decode cX12_init 757 = .ok (.goto (-16), 3) := by decide +kernel
theorem dX12_init_760 : decode cX12_init 760 = .ok (.iconst 0, 1) := by decide +kernel
theorem dX12_init_761 : decode cX12_init 761 = .ok (.istore_n 1, 1) := by decide +kernel
theorem dX12_init_762 : decode cX12_init 762 = .ok (.iload_n 1, 1) := by decide +kernel
theorem dX12_init_763 : decode cX12_init 763 = .ok (.bipush 8, 2) := by decide +kernel
theorem dX12_init_765 : decode cX12_init 765 = .ok (.if_icmp .ge 16, 3) := by decide +kernel
theorem dX12_init_768 : decode cX12_init 768 = .ok (.aload_n 0, 1) := by decide +kernel
theorem dX12_init_769 : decode cX12_init 769 = .ok (.getfield 159, 3) := by decide +kernel
theorem dX12_init_772 : decode cX12_init 772 = .ok (.iload_n 1, 1) := by decide +kernel
theorem dX12_init_773 : decode cX12_init 773 = .ok (.iconst 1, 1) := by decide +kernel
theorem dX12_init_774 : decode cX12_init 774 = .ok (.iastore, 1) := by decide +kernel
theorem dX12_init_775 : decode cX12_init 775 = .ok (.iinc 1 1, 3) := by decide +kernel
theorem dX12_init_778 : decode cX12_init 778 = .ok (.goto (-16), 3) := by decide +kernel
theorem dX12_init_781 : decode cX12_init 781 = .ok (.return_, 1) := by decide +kernel
theorem dX12_puppet_0 : decode cX12_puppet 0 = .ok (.aload_n 0, 1) := by decide +kernel
theorem dX12_puppet_1 : decode cX12_puppet 1 = .ok (.iconst 0, 1) := by decide +kernel
theorem dX12_puppet_2 : decode cX12_puppet 2 = .ok (.putfield 1, 3) := by decide +kernel
theorem dX12_puppet_5 : decode cX12_puppet 5 = .ok (.aload_n 0, 1) := by decide +kernel
theorem dX12_puppet_6 : decode cX12_puppet 6 = .ok (.getfield 264, 3) := by decide +kernel
theorem dX12_puppet_9 : decode cX12_puppet 9 = .ok (.bipush 8, 2) := by decide +kernel
theorem dX12_puppet_11 : decode cX12_puppet 11 = .ok (.if_icmp .ne 5, 3) := by decide +kernel
theorem dX12_puppet_14 : decode cX12_puppet 14 = .ok (.iconst (-1), 1) := by decide +kernel
theorem dX12_puppet_15 : decode cX12_puppet 15 = .ok (.ireturn, 1) := by decide +kernel
theorem dX12_puppet_16 : decode cX12_puppet 16 = .ok (.aload_n 0, 1) := by decide +kernel
theorem dX12_puppet_17 : decode cX12_puppet 17 = .ok (.dup, 1) := by decide +kernel
theorem dX12_puppet_18 : decode cX12_puppet 18 = .ok (.getfield 264, 3) := by decide +kernel
theorem dX12_puppet_21 : decode cX12_puppet 21 = .ok (.iconst 1, 1) := by decide +kernel
theorem dX12_puppet_22 : decode cX12_puppet 22 = .ok (.iadd, 1) := by decide +kernel
theorem dX12_puppet_23 : decode cX12_puppet 23 = .ok (.putfield 264, 3) := by decide +kernel
theorem dX12_puppet_26 : decode cX12_puppet 26 = .ok (.aload_n 0, 1) := by decide +kernel
theorem dX12_puppet_27 : decode cX12_puppet 27 = .ok (.getfield 264, 3) := by decide +kernel
theorem dX12_puppet_30 : decode cX12_puppet 30 = .ok (.iconst 1, 1) := by decide +kernel
theorem dX12_puppet_31 : decode cX12_puppet 31 = .ok (.isub, 1) := by decide +kernel
theorem dX12_puppet_32 : decode cX12_puppet 32 = .ok (.ireturn, 1) := by decide +kernel
theorem dX12_isPuppet_0 : decode cX12_isPuppet 0 = .ok (.aload_n 0, 1) := by decide +kernel
theorem dX12_isPuppet_1 : decode cX12_isPuppet 1 = .ok (.iload_n 1, 1) := by decide +kernel
theorem dX12_isPuppet_2 : decode cX12_isPuppet 2 = .ok (.iconst 0, 1) := by decide +kernel
theorem dX12_isPuppet_3 : decode cX12_isPuppet 3 = .ok (.aload_n 0, 1) := by decide +kernel
theorem dX12_isPuppet_4 : decode cX12_isPuppet 4 = .ok (.getfield 264, 3) := by decide +kernel
theorem dX12_isPuppet_7 : decode cX12_isPuppet 7 = .ok (.iconst 1, 1) := by decide +kernel
theorem dX12_isPuppet_8 : decode cX12_isPuppet 8 = .ok (.isub, 1) := by decide +kernel
theorem dX12_isPuppet_9 : decode cX12_isPuppet 9 = .ok (.invokestatic 267, 3) := by decide +kernel
theorem dX12_isPuppet_12 : decode cX12_isPuppet 12 = .ok (.iload_n 2, 1) := by decide +kernel
theorem dX12_isPuppet_13 : decode cX12_isPuppet 13 = .ok (.invokevirtual 271, 3) := by decide +kernel
theorem dX12_isPuppet_16 : decode cX12_isPuppet 16 = .ok (.ireturn, 1) := by decide +kernel
theorem dX12_joint_0 : decode cX12_joint 0 = .ok (.aload_n 0, 1) := by decide +kernel
theorem dX12_joint_1 : decode cX12_joint 1 = .ok (.iconst 0, 1) := by decide +kernel
theorem dX12_joint_2 : decode cX12_joint 2 = .ok (.putfield 1, 3) := by decide +kernel
theorem dX12_joint_5 : decode cX12_joint 5 = .ok (.aload_n 0, 1) := by decide +kernel
theorem dX12_joint_6 : decode cX12_joint 6 = .ok (.iload_n 1, 1) := by decide +kernel
theorem dX12_joint_7 : decode cX12_joint 7 = .ok (.iconst 1, 1) := by decide +kernel
theorem dX12_joint_8 : decode cX12_joint 8 = .ok (.invokevirtual 275, 3) := by decide +kernel
theorem dX12_joint_11 : decode cX12_joint 11 = .ok (.ifCond .eq 75, 3) := by decide +kernel
theorem dX12_joint_14 : decode cX12_joint 14 = .ok (.aload_n 0, 1) := by decide +kernel
theorem dX12_joint_15 : decode cX12_joint 15 = .ok (.iload_n 2, 1) := by decide +kernel
theorem dX12_joint_16 : decode cX12_joint 16 = .ok (.iconst (-1), 1) := by decide +kernel
theorem dX12_joint_17 : decode cX12_joint 17 = .ok (.aload_n 0, 1) := by decide +kernel
theorem dX12_joint_18 : decode cX12_joint 18 = .ok (.getfield 13, 3) := by decide +kernel
theorem dX12_joint_21 : decode cX12_joint 21 = .ok (.iload_n 1, 1) := by decide +kernel
theorem dX12_joint_22 : decode cX12_joint 22 = .ok (.iaload, 1) := by decide +kernel
theorem dX12_joint_23 : decode cX12_joint 23 = .ok (.iconst 1, 1) := by decide +kernel
theorem dX12_joint_24 : decode cX12_joint 24 = .ok (.isub, 1) := by decide +kernel
theorem dX12_joint_25 : decode cX12_joint 25 = .ok (.invokestatic 267, 3) := by decide +kernel
theorem dX12_joint_28 : decode cX12_joint 28 = .ok (.ifCond .eq 50, 3) := by decide +kernel
theorem dX12_joint_31 : decode cX12_joint 31 = .ok (.iload_n 3, 1) := by decide +kernel
theorem dX12_joint_32 : decode cX12_joint 32 = .ok (.bipush (-32), 2) := by decide +kernel
theorem dX12_joint_34 : decode cX12_joint 34 = .ok (.iconst 0, 1) := by decide +kernel
theorem dX12_joint_35 : decode cX12_joint 35 = .ok (.invokestatic 267, 3) := by decide +kernel
theorem dX12_joint_38 : decode cX12_joint 38 = .ok (.ifCond .eq 40, 3) := by decide +kernel
theorem dX12_joint_41 : decode cX12_joint 41 = .ok (.iload 4, 2) := by decide +kernel
theorem dX12_joint_43 : decode cX12_joint 43 = .ok (.iconst 0, 1) := by decide +kernel
theorem dX12_joint_44 : decode cX12_joint 44 = .ok (.bipush 32, 2) := by decide +kernel
theorem dX12_joint_46 : decode cX12_joint 46 = .ok (.invokestatic 267, 3) := by decide +kernel
theorem dX12_joint_49 : decode cX12_joint 49 = .ok (.ifCond .eq 29, 3) := by decide +kernel
theorem dX12_joint_52 : decode cX12_joint 52 = .ok (.iload 5, 2) := by decide +kernel
theorem dX12_joint_54 : decode cX12_joint 54 = .ok (.iconst 0, 1) := by decide +kernel
theorem dX12_joint_55 : decode cX12_joint 55 = .ok (.bipush 100, 2) := by decide +kernel
theorem dX12_joint_57 : decode cX12_joint 57 = .ok (.invokestatic 267, 3) := by decide +kernel
theorem dX12_joint_60 : decode cX12_joint 60 = .ok (.ifCond .eq 18, 3) := by decide +kernel
theorem dX12_joint_63 : decode cX12_joint 63 = .ok (.iload 6, 2) := by decide +kernel
theorem dX12_joint_65 : decode cX12_joint 65 = .ok (.iconst 0, 1) := by decide +kernel
theorem dX12_joint_66 : decode cX12_joint 66 = .ok (.bipush 100, 2) := by decide +kernel
theorem dX12_joint_68 : decode cX12_joint 68 = .ok (.invokestatic 267, 3) := by decide +kernel
theorem dX12_joint_71 : decode cX12_joint 71 = .ok (.ifCond .eq 7, 3) := by decide +kernel
theorem dX12_joint_74 : decode cX12_joint 74 = .ok (.iconst 1, 1) := by decide +kernel
theorem dX12_joint_75 : decode cX12_joint 75 = .ok (.goto 4, 3) := by decide +kernel
theorem dX12_joint_78 : decode cX12_joint 78 = .ok (.iconst 0, 1) := by decide +kernel
theorem dX12_joint_79 : decode cX12_joint 79 = .ok (.iconst 2, 1) := by decide +kernel
theorem dX12_joint_80 : decode cX12_joint 80 = .ok (.invokevirtual 271, 3) := by decide +kernel
theorem dX12_joint_83 : decode cX12_joint 83 = .ok (.ifCond .ne 5, 3) := by decide +kernel
theorem dX12_joint_86 : decode cX12_joint 86 = .ok (.iconst 0, 1) := by decide +kernel
theorem dX12_joint_87 : decode cX12_joint 87 = .ok (.ireturn, 1) := by decide +kernel
theorem dX12_joint_88 : decode cX12_joint 88 = .ok (.aload_n 0, 1) := by decide +kernel
theorem dX12_joint_89 : decode cX12_joint 89 = .ok (.getfield 13, 3) := by decide +kernel
theorem dX12_joint_92 : decode cX12_joint 92 = .ok (.iload_n 1, 1) := by decide +kernel
theorem dX12_joint_93 : decode cX12_joint 93 = .ok (.iaload, 1) := by decide +kernel
theorem dX12_joint_94 : decode cX12_joint 94 = .ok (.bipush 12, 2) := by decide +kernel
theorem dX12_joint_96 : decode cX12_joint 96 = .ok (.if_icmp .ne 5, 3) := by decide +kernel
theorem dX12_joint_99 : decode cX12_joint 99 = .ok (.iconst (-1), 1) := by decide +kernel
theorem dX12_joint_100 : decode cX12_joint 100 = .ok (.ireturn, 1) := by decide +kernel
theorem dX12_joint_101 : decode cX12_joint 101 = .ok (.bipush 12, 2) := by decide +kernel
theorem dX12_joint_103 : decode cX12_joint 103 = .ok (.iload_n 1, 1) := by decide +kernel
theorem dX12_joint_104 : decode cX12_joint 104 = .ok (.imul, 1) := by decide +kernel
theorem dX12_joint_105 : decode cX12_joint 105 = .ok (.aload_n 0, 1) := by decide +kernel
theorem dX12_joint_106 : decode cX12_joint 106 = .ok (.getfield 13, 3) := by decide +kernel
theorem dX12_joint_109 : decode cX12_joint 109 = .ok (.iload_n 1, 1) := by decide +kernel
theorem dX12_joint_110 : decode cX12_joint 110 = .ok (.iaload, 1) := by decide +kernel
theorem dX12_joint_111 : decode cX12_joint 111 = .ok (.iadd, 1) := by decide +kernel
theorem dX12_joint_112 : decode cX12_joint 112 = .ok (.istore 7, 2) := by decide +kernel
theorem dX12_joint_114 : decode cX12_joint 114 = .ok (.aload_n 0, 1) := by decide +kernel
theorem dX12_joint_115 : decode cX12_joint 115 = .ok (.getfield 17, 3) := by decide +kernel
theorem dX12_joint_118 : decode cX12_joint 118 = .ok (.iload 7, 2) := by decide +kernel
theorem dX12_joint_120 : decode cX12_joint 120 = .ok (.iload_n 2, 1) := by decide +kernel
theorem dX12_joint_121 : decode cX12_joint 121 = .ok (.iastore, 1) := by decide +kernel
theorem dX12_joint_122 : decode cX12_joint 122 = .ok (.aload_n 0, 1) := by decide +kernel
theorem dX12_joint_123 : decode cX12_joint 123 = .ok (.getfield 20, 3) := by decide +kernel
theorem dX12_joint_126 : decode cX12_joint 126 = .ok (.iload 7, 2) := by decide +kernel
theorem dX12_joint_128 : decode cX12_joint 128 = .ok (.iload_n 3, 1) := by decide +kernel
theorem dX12_joint_129 : decode cX12_joint 129 = .ok (.iastore, 1) := by decide +kernel
theorem dX12_joint_130 : decode cX12_joint 130 = .ok (.aload_n 0, 1) := by decide +kernel
theorem dX12_joint_131 : decode cX12_joint 131 = .ok (.getfield 23, 3) := by decide +kernel
theorem dX12_joint_134 : decode cX12_joint 134 = .ok (.iload 7, 2) := by decide +kernel
theorem dX12_joint_136 : decode cX12_joint 136 = .ok (.iload 4, 2) := by decide +kernel
theorem dX12_joint_138 : decode cX12_joint 138 = .ok (.iastore, 1) := by decide +kernel
theorem dX12_joint_139 : decode cX12_joint 139 = .ok (.aload_n 0, 1) := by decide +kernel
theorem dX12_joint_140 : decode cX12_joint 140 = .ok (.getfield 26, 3) := by decide +kernel
theorem dX12_joint_143 : decode cX12_joint 143 = .ok (.iload 7, 2) := by decide +kernel
theorem dX12_joint_145 : decode cX12_joint 145 = .ok (.iload 5, 2) := by decide +kernel
theorem dX12_joint_147 : decode cX12_joint 147 = .ok (.iastore, 1) := by decide +kernel
theorem dX12_joint_148 : decode cX12_joint 148 = .ok (.aload_n 0, 1) := by decide +kernel
theorem dX12_joint_149 : decode cX12_joint 149 = .ok (.getfield 29, 3) := by decide +kernel
theorem dX12_joint_152 : decode cX12_joint 152 = .ok (.iload 7, 2) := by decide +kernel
theorem dX12_joint_154 : decode cX12_joint 154 = .ok (.iload 6, 2) := by decide +kernel
theorem dX12_joint_156 : decode cX12_joint 156 = .ok (.iastore, 1) := by decide +kernel
theorem dX12_joint_157 : decode cX12_joint 157 = .ok (.aload_n 0, 1) := by decide +kernel
theorem dX12_joint_158 : decode cX12_joint 158 = .ok (.getfield 13, 3) := by decide +kernel
theorem dX12_joint_161 : decode cX12_joint 161 = .ok (.iload_n 1, 1) := by decide +kernel
theorem dX12_joint_162 : decode cX12_joint 162 = .ok (.dup2, 1) := by decide +kernel
theorem dX12_joint_163 : decode cX12_joint 163 = .ok (.iaload, 1) := by decide +kernel
theorem dX12_joint_164 : decode cX12_joint 164 = .ok (.iconst 1, 1) := by decide +kernel
theorem dX12_joint_165 : decode cX12_joint 165 = .ok (.iadd, 1) := by decide +kernel
theorem dX12_joint_166 : decode cX12_joint 166 = .ok (.iastore, 1) := by decide +kernel
theorem dX12_joint_167 : decode cX12_joint 167 = .ok (.aload_n 0, 1) := by decide +kernel
theorem dX12_joint_168 : decode cX12_joint 168 = .ok (.getfield 13, 3) := by decide +kernel
theorem dX12_joint_171 : decode cX12_joint 171 = .ok (.iload_n 1, 1) := by decide +kernel
theorem dX12_joint_172 : decode cX12_joint 172 = .ok (.iaload, 1) := by decide +kernel
theorem dX12_joint_173 : decode cX12_joint 173 = .ok (.iconst 1, 1) := by decide +kernel
theorem dX12_joint_174 : decode cX12_joint 174 = .ok (.isub, 1) := by decide +kernel
theorem dX12_joint_175 : decode cX12_joint 175 = .ok (.ireturn, 1) := by decide +kernel
theorem dX12_feet_0 : decode cX12_feet 0 = .ok (.aload_n 0, 1) := by decide +kernel
theorem dX12_feet_1 : decode cX12_feet 1 = .ok (.iconst 0, 1) := by decide +kernel
theorem dX12_feet_2 : decode cX12_feet 2 = .ok (.putfield 1, 3) := by decide +kernel
theorem dX12_feet_5 : decode cX12_feet 5 = .ok (.aload_n 0, 1) := by decide +kernel
theorem dX12_feet_6 : decode cX12_feet 6 = .ok (.iload_n 1, 1) := by decide +kernel
theorem dX12_feet_7 : decode cX12_feet 7 = .ok (.iconst 1, 1) := by decide +kernel
theorem dX12_feet_8 : decode cX12_feet 8 = .ok (.invokevirtual 275, 3) := by decide +kernel
theorem dX12_feet_11 : decode cX12_feet 11 = .ok (.ifCond .eq 40, 3) := by decide +kernel
theorem dX12_feet_14 : decode cX12_feet 14 = .ok (.aload_n 0, 1) := by decide +kernel
theorem dX12_feet_15 : decode cX12_feet 15 = .ok (.iload_n 2, 1) := by decide +kernel
theorem dX12_feet_16 : decode cX12_feet 16 = .ok (.sipush (-200), 3) := by decide +kernel
theorem dX12_feet_19 : decode cX12_feet 19 = .ok (.sipush 200, 3) := by decide +kernel
theorem dX12_feet_22 : decode cX12_feet 22 = .ok (.invokestatic 267, 3) := by decide +kernel
theorem dX12_feet_25 : decode cX12_feet 25 = .ok (.ifCond .eq 18, 3) := by decide +kernel
theorem dX12_feet_28 : decode cX12_feet 28 = .ok (.iload_n 3, 1) := by decide +kernel
theorem dX12_feet_29 : decode cX12_feet 29 = .ok (.iload_n 2, 1) := by decide +kernel
theorem dX12_feet_30 : decode cX12_feet 30 = .ok (.sipush 200, 3) := by decide +kernel
theorem dX12_feet_33 : decode cX12_feet 33 = .ok (.invokestatic 267, 3) := by decide +kernel
theorem dX12_feet_36 : decode cX12_feet 36 = .ok (.ifCond .eq 7, 3) := by decide +kernel
theorem dX12_feet_39 : decode cX12_feet 39 = .ok (.iconst 1, 1) := by decide +kernel
theorem dX12_feet_40 : decode cX12_feet 40 = .ok (.goto 4, 3) := by decide +kernel
theorem dX12_feet_43 : decode cX12_feet 43 = .ok (.iconst 0, 1) := by decide +kernel
theorem dX12_feet_44 : decode cX12_feet 44 = .ok (.iconst 2, 1) := by decide +kernel
theorem dX12_feet_45 : decode cX12_feet 45 = .ok (.invokevirtual 271, 3) := by decide +kernel
theorem dX12_feet_48 : decode cX12_feet 48 = .ok (.ifCond .ne 4, 3) := by decide +kernel
theorem dX12_feet_51 : decode cX12_feet 51 = .ok (.return_, 1) := by decide +kernel
theorem dX12_feet_52 : decode cX12_feet 52 = .ok (.aload_n 0, 1) := by decide +kernel
theorem dX12_feet_53 : decode cX12_feet 53 = .ok (.getfield 32, 3) := by decide +kernel
theorem dX12_feet_56 : decode cX12_feet 56 = .ok (.iload_n 1, 1) := by decide +kernel
theorem dX12_feet_57 : decode cX12_feet 57 = .ok (.iload_n 2, 1) := by decide +kernel
theorem dX12_feet_58 : decode cX12_feet 58 = .ok (.iastore, 1) := by decide +kernel
theorem dX12_feet_59 : decode cX12_feet 59 = .ok (.aload_n 0, 1) := by decide +kernel
theorem dX12_feet_60 : decode cX12_feet 60 = .ok (.getfield 35, 3) := by decide +kernel
theorem dX12_feet_63 : decode cX12_feet 63 = .ok (.iload_n 1, 1) := by decide +kernel
theorem dX12_feet_64 : decode cX12_feet 64 = .ok (.iload_n 3, 1) := by decide +kernel
theorem dX12_feet_65 : decode cX12_feet 65 = .ok (.iastore, 1) := by decide +kernel
theorem dX12_feet_66 : decode cX12_feet 66 = .ok (.return_, 1) := by decide +kernel
theorem dX12_kit_0 : decode cX12_kit 0 = .ok (.aload_n 0, 1) := by decide +kernel
theorem dX12_kit_1 : decode cX12_kit 1 = .ok (.iconst 0, 1) := by decide +kernel
theorem dX12_kit_2 : decode cX12_kit 2 = .ok (.putfield 1, 3) := by decide +kernel
theorem dX12_kit_5 : decode cX12_kit 5 = .ok (.aload_n 0, 1) := by decide +kernel
theorem dX12_kit_6 : decode cX12_kit 6 = .ok (.iload_n 1, 1) := by decide +kernel
theorem dX12_kit_7 : decode cX12_kit 7 = .ok (.iconst 1, 1) := by decide +kernel
theorem dX12_kit_8 : decode cX12_kit 8 = .ok (.invokevirtual 275, 3) := by decide +kernel
theorem dX12_kit_11 : decode cX12_kit 11 = .ok (.ifCond .eq 17, 3) := by decide +kernel
theorem dX12_kit_14 : decode cX12_kit 14 = .ok (.aload_n 0, 1) := by decide +kernel
theorem dX12_kit_15 : decode cX12_kit 15 = .ok (.iload_n 2, 1) := by decide +kernel
theorem dX12_kit_16 : decode cX12_kit 16 = .ok (.iconst 0, 1) := by decide +kernel
theorem dX12_kit_17 : decode cX12_kit 17 = .ok (.iconst 3, 1) := by decide +kernel
theorem dX12_kit_18 : decode cX12_kit 18 = .ok (.invokestatic 267, 3) := by decide +kernel
theorem dX12_kit_21 : decode cX12_kit 21 = .ok (.iconst 2, 1) := by decide +kernel
theorem dX12_kit_22 : decode cX12_kit 22 = .ok (.invokevirtual 271, 3) := by decide +kernel
theorem dX12_kit_25 : decode cX12_kit 25 = .ok (.ifCond .ne 5, 3) := by decide +kernel
theorem dX12_kit_28 : decode cX12_kit 28 = .ok (.iconst 0, 1) := by decide +kernel
theorem dX12_kit_29 : decode cX12_kit 29 = .ok (.ireturn, 1) := by decide +kernel
theorem dX12_kit_30 : decode cX12_kit 30 = .ok (.aload_n 0, 1) := by decide +kernel
theorem dX12_kit_31 : decode cX12_kit 31 = .ok (.getfield 38, 3) := by decide +kernel
theorem dX12_kit_34 : decode cX12_kit 34 = .ok (.iload_n 1, 1) := by decide +kernel
theorem dX12_kit_35 : decode cX12_kit 35 = .ok (.iaload, 1) := by decide +kernel
theorem dX12_kit_36 : decode cX12_kit 36 = .ok (.istore_n 3, 1) := by decide +kernel
theorem dX12_kit_37 : decode cX12_kit 37 = .ok (.aload_n 0, 1) := by decide +kernel
theorem dX12_kit_38 : decode cX12_kit 38 = .ok (.getfield 38, 3) := by decide +kernel
theorem dX12_kit_41 : decode cX12_kit 41 = .ok (.iload_n 1, 1) := by decide +kernel
theorem dX12_kit_42 : decode cX12_kit 42 = .ok (.iload_n 2, 1) := by decide +kernel
theorem dX12_kit_43 : decode cX12_kit 43 = .ok (.iastore, 1) := by decide +kernel
theorem dX12_kit_44 : decode cX12_kit 44 = .ok (.iload_n 3, 1) := by decide +kernel
theorem dX12_kit_45 : decode cX12_kit 45 = .ok (.ireturn, 1) := by decide +kernel
theorem dX12_sound_0 : decode cX12_sound 0 = .ok (.aload_n 0, 1) := by decide +kernel
theorem dX12_sound_1 : decode cX12_sound 1 = .ok (.iconst 0, 1) := by decide +kernel
theorem dX12_sound_2 : decode cX12_sound 2 = .ok (.putfield 1, 3) := by decide +kernel
theorem dX12_sound_5 : decode cX12_sound 5 = .ok (.aload_n 0, 1) := by decide +kernel
theorem dX12_sound_6 : decode cX12_sound 6 = .ok (.iload_n 1, 1) := by decide +kernel
theorem dX12_sound_7 : decode cX12_sound 7 = .ok (.iconst 0, 1) := by decide +kernel
theorem dX12_sound_8 : decode cX12_sound 8 = .ok (.bipush 25, 2) := by decide +kernel
theorem dX12_sound_10 : decode cX12_sound 10 = .ok (.invokestatic 267, 3) := by decide +kernel
theorem dX12_sound_13 : decode cX12_sound 13 = .ok (.ifCond .eq 17, 3) := by decide +kernel
theorem dX12_sound_16 : decode cX12_sound 16 = .ok (.iload_n 2, 1) := by decide +kernel
theorem dX12_sound_17 : decode cX12_sound 17 = .ok (.iconst 1, 1) := by decide +kernel
theorem dX12_sound_18 : decode cX12_sound 18 = .ok (.bipush 9, 2) := by decide +kernel
theorem dX12_sound_20 : decode cX12_sound 20 = .ok (.invokestatic 267, 3) := by decide +kernel
theorem dX12_sound_23 : decode cX12_sound 23 = .ok (.ifCond .eq 7, 3) := by decide +kernel
theorem dX12_sound_26 : decode cX12_sound 26 = .ok (.iconst 1, 1) := by decide +kernel
theorem dX12_sound_27 : decode cX12_sound 27 = .ok (.goto 4, 3) := by decide +kernel
theorem dX12_sound_30 : decode cX12_sound 30 = .ok (.iconst 0, 1) := by decide +kernel
theorem dX12_sound_31 : decode cX12_sound 31 = .ok (.iconst 1, 1) := by decide +kernel
theorem dX12_sound_32 : decode cX12_sound 32 = .ok (.invokevirtual 271, 3) := by decide +kernel
theorem dX12_sound_35 : decode cX12_sound 35 = .ok (.ifCond .ne 5, 3) := by decide +kernel
theorem dX12_sound_38 : decode cX12_sound 38 = .ok (.iconst 0, 1) := by decide +kernel
theorem dX12_sound_39 : decode cX12_sound 39 = .ok (.ireturn, 1) := by decide +kernel
theorem dX12_sound_40 : decode cX12_sound 40 = .ok (.aload_n 0, 1) := by decide +kernel
theorem dX12_sound_41 : decode cX12_sound 41 = .ok (.getfield 41, 3) := by decide +kernel
theorem dX12_sound_44 : decode cX12_sound 44 = .ok (.iload_n 1, 1) := by decide +kernel
theorem dX12_sound_45 : decode cX12_sound 45 = .ok (.iaload, 1) := by decide +kernel
theorem dX12_sound_46 : decode cX12_sound 46 = .ok (.istore_n 3, 1) := by decide +kernel
theorem dX12_sound_47 : decode cX12_sound 47 = .ok (.aload_n 0, 1) := by decide +kernel
theorem dX12_sound_48 : decode cX12_sound 48 = .ok (.getfield 41, 3) := by decide +kernel
theorem dX12_sound_51 : decode cX12_sound 51 = .ok (.iload_n 1, 1) := by decide +kernel
theorem dX12_sound_52 : decode cX12_sound 52 = .ok (.iload_n 2, 1) := by decide +kernel
theorem dX12_sound_53 : decode cX12_sound 53 = .ok (.iastore, 1) := by decide +kernel
theorem dX12_sound_54 : decode cX12_sound 54 = .ok (.iload_n 3, 1) := by decide +kernel
theorem dX12_sound_55 : decode cX12_sound 55 = .ok (.ireturn, 1) := by decide +kernel
theorem dX12_feed_0 : decode cX12_feed 0 = .ok (.aload_n 0, 1) := by decide +kernel
theorem dX12_feed_1 : decode cX12_feed 1 = .ok (.iconst 0, 1) := by decide +kernel
theorem dX12_feed_2 : decode cX12_feed 2 = .ok (.putfield 1, 3) := by decide +kernel
theorem dX12_feed_5 : decode cX12_feed 5 = .ok (.aload_n 0, 1) := by decide +kernel
theorem dX12_feed_6 : decode cX12_feed 6 = .ok (.getfield 279, 3) := by decide +kernel
theorem dX12_feed_9 : decode cX12_feed 9 = .ok (.bipush 20, 2) := by decide +kernel
theorem dX12_feed_11 : decode cX12_feed 11 = .ok (.iadd, 1) := by decide +kernel
theorem dX12_feed_12 : decode cX12_feed 12 = .ok (.sipush 400, 3) := by decide +kernel
theorem dX12_feed_15 : decode cX12_feed 15 = .ok (.if_icmp .le 5, 3) := by decide +kernel
theorem dX12_feed_18 : decode cX12_feed 18 = .ok (.iconst (-1), 1) := by decide +kernel
theorem dX12_feed_19 : decode cX12_feed 19 = .ok (.ireturn, 1) := by decide +kernel
theorem dX12_feed_20 : decode cX12_feed 20 = .ok (.iconst 0, 1) := by decide +kernel
theorem dX12_feed_21 : decode cX12_feed 21 = .ok (.istore 6, 2) := by decide +kernel
theorem dX12_feed_23 : decode cX12_feed 23 = .ok (.iload 6, 2) := by decide +kernel
theorem dX12_feed_25 : decode cX12_feed 25 = .ok (.bipush 20, 2) := by decide +kernel
theorem dX12_feed_27 : decode cX12_feed 27 = .ok (.if_icmp .ge 93, 3) := by decide +kernel
theorem dX12_feed_30 : decode cX12_feed 30 = .ok (.iload 6, 2) := by decide +kernel
theorem dX12_feed_32 : decode cX12_feed 32 = .ok (.iconst 4, 1) := by decide +kernel
theorem dX12_feed_33 : decode cX12_feed 33 = .ok (.if_icmp .ge 7, 3) := by decide +kernel
theorem dX12_feed_36 : decode cX12_feed 36 = .ok (.iload_n 1, 1) := by decide +kernel
theorem dX12_feed_37 : decode cX12_feed 37 = .ok (.goto 39, 3) := by decide +kernel
theorem dX12_feed_40 : decode cX12_feed 40 = .ok (.iload 6, 2) := by decide +kernel
theorem dX12_feed_42 : decode cX12_feed 42 = .ok (.bipush 8, 2) := by decide +kernel
theorem dX12_feed_44 : decode cX12_feed 44 = .ok (.if_icmp .ge 7, 3) := by decide +kernel
theorem dX12_feed_47 : decode cX12_feed 47 = .ok (.iload_n 2, 1) := by decide +kernel
theorem dX12_feed_48 : decode cX12_feed 48 = .ok (.goto 28, 3) := by decide +kernel
theorem dX12_feed_51 : decode cX12_feed 51 = .ok (.iload 6, 2) := by decide +kernel
theorem dX12_feed_53 : decode cX12_feed 53 = .ok (.bipush 12, 2) := by decide +kernel
theorem dX12_feed_55 : decode cX12_feed 55 = .ok (.if_icmp .ge 7, 3) := by decide +kernel
theorem dX12_feed_58 : decode cX12_feed 58 = .ok (.iload_n 3, 1) := by decide +kernel
theorem dX12_feed_59 : decode cX12_feed 59 = .ok (.goto 17, 3) := by decide +kernel
theorem dX12_feed_62 : decode cX12_feed 62 = .ok (.iload 6, 2) := by decide +kernel
theorem dX12_feed_64 : decode cX12_feed 64 = .ok (.bipush 16, 2) := by decide +kernel
theorem dX12_feed_66 : decode cX12_feed 66 = .ok (.if_icmp .ge 8, 3) := by decide +kernel
theorem dX12_feed_69 : decode cX12_feed 69 = .ok (.iload 4, 2) := by decide +kernel
theorem dX12_feed_71 : decode cX12_feed 71 = .ok (.goto 5, 3) := by decide +kernel
theorem dX12_feed_74 : decode cX12_feed 74 = .ok (.iload 5, 2) := by decide +kernel
theorem dX12_feed_76 : decode cX12_feed 76 = .ok (.istore 7, 2) := by decide +kernel
theorem dX12_feed_78 : decode cX12_feed 78 = .ok (.aload_n 0, 1) := by decide +kernel
theorem dX12_feed_79 : decode cX12_feed 79 = .ok (.getfield 47, 3) := by decide +kernel
theorem dX12_feed_82 : decode cX12_feed 82 = .ok (.aload_n 0, 1) := by decide +kernel
theorem dX12_feed_83 : decode cX12_feed 83 = .ok (.getfield 279, 3) := by decide +kernel
theorem dX12_feed_86 : decode cX12_feed 86 = .ok (.iload 7, 2) := by decide +kernel
theorem dX12_feed_88 : decode cX12_feed 88 = .ok (.bipush 24, 2) := by decide +kernel
theorem dX12_feed_90 : decode cX12_feed 90 = .ok (.bipush 8, 2) := by decide +kernel
theorem dX12_feed_92 : decode cX12_feed 92 = .ok (.iload 6, 2) := by decide +kernel
theorem dX12_feed_94 : decode cX12_feed 94 = .ok (.iconst 4, 1) := by decide +kernel
theorem dX12_feed_95 : decode cX12_feed 95 = .ok (.irem, 1) := by decide +kernel
theorem dX12_feed_96 : decode cX12_feed 96 = .ok (.imul, 1) := by decide +kernel
theorem dX12_feed_97 : decode cX12_feed 97 = .ok (.isub, 1) := by decide +kernel
theorem dX12_feed_98 : decode cX12_feed 98 = .ok (.ishr, 1) := by decide +kernel
theorem dX12_feed_99 : decode cX12_feed 99 = .ok (.sipush 255, 3) := by decide +kernel
theorem dX12_feed_102 : decode cX12_feed 102 = .ok (.iand, 1) := by decide +kernel
theorem dX12_feed_103 : decode cX12_feed 103 = .ok (.iastore, 1) := by decide +kernel
theorem dX12_feed_104 : decode cX12_feed 104 = .ok (.aload_n 0, 1) := by decide +kernel
theorem dX12_feed_105 : decode cX12_feed 105 = .ok (.dup, 1) := by decide +kernel
theorem dX12_feed_106 : decode cX12_feed 106 = .ok (.getfield 279, 3) := by decide +kernel
theorem dX12_feed_109 : decode cX12_feed 109 = .ok (.iconst 1, 1) := by decide +kernel
theorem dX12_feed_110 : decode cX12_feed 110 = .ok (.iadd, 1) := by decide +kernel
theorem dX12_feed_111 : decode cX12_feed 111 = .ok (.putfield 279, 3) := by decide +kernel
theorem dX12_feed_114 : decode cX12_feed 114 = .ok (.iinc 6 1, 3) := by decide +kernel
theorem dX12_feed_117 : decode cX12_feed 117 = .ok (.goto (-94), 3) := by decide +kernel
theorem dX12_feed_120 : decode cX12_feed 120 = .ok (.aload_n 0, 1) := by decide +kernel
theorem dX12_feed_121 : decode cX12_feed 121 = .ok (.getfield 279, 3) := by decide +kernel
theorem dX12_feed_124 : decode cX12_feed 124 = .ok (.ireturn, 1) := by decide +kernel
theorem dX12_fine_0 : decode cX12_fine 0 = .ok (.aload_n 0, 1) := by decide +kernel
theorem dX12_fine_1 : decode cX12_fine 1 = .ok (.getfield 282, 3) := by decide +kernel
theorem dX12_fine_4 : decode cX12_fine 4 = .ok (.iconst (-1), 1) := by decide +kernel
theorem dX12_fine_5 : decode cX12_fine 5 = .ok (.if_icmp .ne 7, 3) := by decide +kernel
theorem dX12_fine_8 : decode cX12_fine 8 = .ok (.iconst 1, 1) := by decide +kernel
theorem dX12_fine_9 : decode cX12_fine 9 = .ok (.goto 4, 3) := by decide +kernel
theorem dX12_fine_12 : decode cX12_fine 12 = .ok (.iconst 0, 1) := by decide +kernel
theorem dX12_fine_13 : decode cX12_fine 13 = .ok (.ireturn, 1) := by decide +kernel
theorem dX12_wrong_0 : decode cX12_wrong 0 = .ok (.aload_n 0, 1) := by decide +kernel
theorem dX12_wrong_1 : decode cX12_wrong 1 = .ok (.getfield 282, 3) := by decide +kernel
theorem dX12_wrong_4 : decode cX12_wrong 4 = .ok (.iconst (-1), 1) := by decide +kernel
theorem dX12_wrong_5 : decode cX12_wrong 5 = .ok (.if_icmp .eq 4, 3) := by decide +kernel
theorem dX12_wrong_8 : decode cX12_wrong 8 = .ok (.return_, 1) := by decide +kernel
theorem dX12_wrong_9 : decode cX12_wrong 9 = .ok (.aload_n 0, 1) := by decide +kernel
theorem dX12_wrong_10 : decode cX12_wrong 10 = .ok (.iload_n 2, 1) := by decide +kernel
theorem dX12_wrong_11 : decode cX12_wrong 11 = .ok (.putfield 282, 3) := by decide +kernel
theorem dX12_wrong_14 : decode cX12_wrong 14 = .ok (.aload_n 0, 1) := by decide +kernel
theorem dX12_wrong_15 : decode cX12_wrong 15 = .ok (.iload_n 1, 1) := by decide +kernel
theorem dX12_wrong_16 : decode cX12_wrong 16 = .ok (.putfield 285, 3) := by decide +kernel
theorem dX12_wrong_19 : decode cX12_wrong 19 = .ok (.return_, 1) := by decide +kernel
theorem dX12_here_0 : decode cX12_here 0 = .ok (.aload_n 0, 1) := by decide +kernel
theorem dX12_here_1 : decode cX12_here 1 = .ok (.getfield 288, 3) := by decide +kernel
theorem dX12_here_4 : decode cX12_here 4 = .ok (.aload_n 0, 1) := by decide +kernel
theorem dX12_here_5 : decode cX12_here 5 = .ok (.getfield 291, 3) := by decide +kernel
theorem dX12_here_8 : decode cX12_here 8 = .ok (.if_icmp .ge 30, 3) := by decide +kernel
theorem dX12_here_11 : decode cX12_here 11 = .ok (.aload_n 0, 1) := by decide +kernel
theorem dX12_here_12 : decode cX12_here 12 = .ok (.getfield 47, 3) := by decide +kernel
theorem dX12_here_15 : decode cX12_here 15 = .ok (.aload_n 0, 1) := by decide +kernel
theorem dX12_here_16 : decode cX12_here 16 = .ok (.getfield 288, 3) := by decide +kernel
theorem dX12_here_19 : decode cX12_here 19 = .ok (.iaload, 1) := by decide +kernel
theorem dX12_here_20 : decode cX12_here 20 = .ok (.bipush 32, 2) := by decide +kernel
theorem dX12_here_22 : decode cX12_here 22 = .ok (.if_icmp .ne 16, 3) := by decide +kernel
theorem dX12_here_25 : decode cX12_here 25 = .ok (.aload_n 0, 1) := by decide +kernel
theorem dX12_here_26 : decode cX12_here 26 = .ok (.dup, 1) := by decide +kernel
theorem dX12_here_27 : decode cX12_here 27 = .ok (.getfield 288, 3) := by decide +kernel
theorem dX12_here_30 : decode cX12_here 30 = .ok (.iconst 1, 1) := by decide +kernel
theorem dX12_here_31 : decode cX12_here 31 = .ok (.iadd, 1) := by decide +kernel
theorem dX12_here_32 : decode cX12_here 32 = .ok (.putfield 288, 3) := by decide +kernel
theorem dX12_here_35 : decode cX12_here 35 = .ok (.goto (-35), 3) := by decide +kernel
theorem dX12_here_38 : decode cX12_here 38 = .ok (.aload_n 0, 1) := by decide +kernel
theorem dX12_here_39 : decode cX12_here 39 = .ok (.getfield 288, 3) := by decide +kernel
theorem dX12_here_42 : decode cX12_here 42 = .ok (.aload_n 0, 1) := by decide +kernel
theorem dX12_here_43 : decode cX12_here 43 = .ok (.getfield 291, 3) := by decide +kernel
theorem dX12_here_46 : decode cX12_here 46 = .ok (.if_icmp .ge 15, 3) := by decide +kernel
theorem dX12_here_49 : decode cX12_here 49 = .ok (.aload_n 0, 1) := by decide +kernel
theorem dX12_here_50 : decode cX12_here 50 = .ok (.getfield 47, 3) := by decide +kernel
theorem dX12_here_53 : decode cX12_here 53 = .ok (.aload_n 0, 1) := by decide +kernel
theorem dX12_here_54 : decode cX12_here 54 = .ok (.getfield 288, 3) := by decide +kernel
theorem dX12_here_57 : decode cX12_here 57 = .ok (.iaload, 1) := by decide +kernel
theorem dX12_here_58 : decode cX12_here 58 = .ok (.goto 4, 3) := by decide +kernel
theorem dX12_here_61 : decode cX12_here 61 = .ok (.iconst 0, 1) := by decide +kernel
theorem dX12_here_62 : decode cX12_here 62 = .ok (.ireturn, 1) := by decide +kernel
theorem dX12_counts_0 : decode cX12_counts 0 = .ok (.lconst 0, 1) := by decide +kernel
theorem dX12_counts_1 : decode cX12_counts 1 = .ok (.lstore_n 3, 1) := by decide +kernel
theorem dX12_counts_2 : decode cX12_counts 2 = .ok (.lconst 0, 1) := by decide +kernel
theorem dX12_counts_3 : decode cX12_counts 3 = .ok (.lstore 5, 2) := by decide +kernel
theorem dX12_counts_5 : decode cX12_counts 5 = .ok (.iload_n 1, 1) := by decide +kernel
theorem dX12_counts_6 : decode cX12_counts 6 = .ok (.istore 7, 2) := by decide +kernel
theorem dX12_counts_8 : decode cX12_counts 8 = .ok (.iload 7, 2) := by decide +kernel
theorem dX12_counts_10 : decode cX12_counts 10 = .ok (.iload_n 2, 1) := by decide +kernel
theorem dX12_counts_11 : decode cX12_counts 11 = .ok (.if_icmp .ge 114, 3) := by decide +kernel
theorem dX12_counts_14 : decode cX12_counts 14 = .ok (.lload 5, 2) := by decide +kernel
theorem dX12_counts_16 : decode cX12_counts 16 = .ok (.lconst 1, 1) := by decide +kernel
theorem dX12_counts_17 : decode cX12_counts 17 = .ok (.ladd, 1) := by decide +kernel
theorem dX12_counts_18 : decode cX12_counts 18 = .ok (.lstore 5, 2) := by decide +kernel
theorem dX12_counts_20 : decode cX12_counts 20 = .ok (.aload_n 0, 1) := by decide +kernel
theorem dX12_counts_21 : decode cX12_counts 21 = .ok (.getfield 50, 3) := by decide +kernel
theorem dX12_counts_24 : decode cX12_counts 24 = .ok (.iload 7, 2) := by decide +kernel
theorem dX12_counts_26 : decode cX12_counts 26 = .ok (.iaload, 1) := by decide +kernel
theorem dX12_counts_27 : decode cX12_counts 27 = .ok (.ifCond .eq 14, 3) := by decide +kernel
theorem dX12_counts_30 : decode cX12_counts 30 = .ok (.aload_n 0, 1) := by decide +kernel
theorem dX12_counts_31 : decode cX12_counts 31 = .ok (.getfield 50, 3) := by decide +kernel
theorem dX12_counts_34 : decode cX12_counts 34 = .ok (.iload 7, 2) := by decide +kernel
theorem dX12_counts_36 : decode cX12_counts 36 = .ok (.iaload, 1) := by decide +kernel
theorem dX12_counts_37 : decode cX12_counts 37 = .ok (.iconst 1, 1) := by decide +kernel
theorem dX12_counts_38 : decode cX12_counts 38 = .ok (.if_icmp .ne 14, 3) := by decide +kernel
theorem dX12_counts_41 : decode cX12_counts 41 = .ok (.lload_n 3, 1) := by decide +kernel
theorem dX12_counts_42 : decode cX12_counts 42 = .ok (.aload_n 0, 1) := by decide +kernel
theorem dX12_counts_43 : decode cX12_counts 43 = .ok (.getfield 53, 3) := by decide +kernel
theorem dX12_counts_46 : decode cX12_counts 46 = .ok (.iload 7, 2) := by decide +kernel
theorem dX12_counts_48 : decode cX12_counts 48 = .ok (.iaload, 1) := by decide +kernel
theorem dX12_counts_49 : decode cX12_counts 49 = .ok (.i2l, 1) := by decide +kernel
theorem dX12_counts_50 : decode cX12_counts 50 = .ok (.ladd, 1) := by decide +kernel
theorem dX12_counts_51 : decode cX12_counts 51 = .ok (.lstore_n 3, 1) := by decide +kernel
theorem dX12_counts_52 : decode cX12_counts 52 = .ok (.aload_n 0, 1) := by decide +kernel
theorem dX12_counts_53 : decode cX12_counts 53 = .ok (.getfield 50, 3) := by decide +kernel
theorem dX12_counts_56 : decode cX12_counts 56 = .ok (.iload 7, 2) := by decide +kernel
theorem dX12_counts_58 : decode cX12_counts 58 = .ok (.iaload, 1) := by decide +kernel
theorem dX12_counts_59 : decode cX12_counts 59 = .ok (.bipush 7, 2) := by decide +kernel
theorem dX12_counts_61 : decode cX12_counts 61 = .ok (.if_icmp .ne 52, 3) := by decide +kernel
theorem dX12_counts_64 : decode cX12_counts 64 = .ok (.aload_n 0, 1) := by decide +kernel
theorem dX12_counts_65 : decode cX12_counts 65 = .ok (.iload 7, 2) := by decide +kernel
theorem dX12_counts_67 : decode cX12_counts 67 = .ok (.iconst 1, 1) := by decide +kernel
theorem dX12_counts_68 : decode cX12_counts 68 = .ok (.iadd, 1) := by decide +kernel
theorem dX12_counts_69 : decode cX12_counts 69 = .ok (.aload_n 0, 1) := by decide +kernel
theorem dX12_counts_70 : decode cX12_counts 70 = .ok (.getfield 71, 3) := by decide +kernel
theorem dX12_counts_73 : decode cX12_counts 73 = .ok (.iload 7, 2) := by decide +kernel
theorem dX12_counts_75 : decode cX12_counts 75 = .ok (.iaload, 1) := by decide +kernel
theorem dX12_counts_76 : decode cX12_counts 76 = .ok (.invokevirtual 386, 3) := by decide +kernel
theorem dX12_counts_79 : decode cX12_counts 79 = .ok (.lload_n 3, 1) := by decide +kernel
theorem dX12_counts_80 : decode cX12_counts 80 = .ok (.aload_n 0, 1) := by decide +kernel
theorem dX12_counts_81 : decode cX12_counts 81 = .ok (.getfield 53, 3) := by decide +kernel
theorem dX12_counts_84 : decode cX12_counts 84 = .ok (.iload 7, 2) := by decide +kernel
theorem dX12_counts_86 : decode cX12_counts 86 = .ok (.iaload, 1) := by decide +kernel
theorem dX12_counts_87 : decode cX12_counts 87 = .ok (.i2l, 1) := by decide +kernel
theorem dX12_counts_88 : decode cX12_counts 88 = .ok (.aload_n 0, 1) := by decide +kernel
theorem dX12_counts_89 : decode cX12_counts 89 = .ok (.getfield 389, 3) := by decide +kernel
theorem dX12_counts_92 : decode cX12_counts 92 = .ok (.lmul, 1) := by decide +kernel
theorem dX12_counts_93 : decode cX12_counts 93 = .ok (.ladd, 1) := by decide +kernel
theorem dX12_counts_94 : decode cX12_counts 94 = .ok (.lstore_n 3, 1) := by decide +kernel
theorem dX12_counts_95 : decode cX12_counts 95 = .ok (.lload 5, 2) := by decide +kernel
theorem dX12_counts_97 : decode cX12_counts 97 = .ok (.aload_n 0, 1) := by decide +kernel
theorem dX12_counts_98 : decode cX12_counts 98 = .ok (.getfield 53, 3) := by decide +kernel
theorem dX12_counts_101 : decode cX12_counts 101 = .ok (.iload 7, 2) := by decide +kernel
theorem dX12_counts_103 : decode cX12_counts 103 = .ok (.iaload, 1) := by decide +kernel
theorem dX12_counts_104 : decode cX12_counts 104 = .ok (.i2l, 1) := by decide +kernel
theorem dX12_counts_105 : decode cX12_counts 105 = .ok (.aload_n 0, 1) := by decide +kernel
theorem dX12_counts_106 : decode cX12_counts 106 = .ok (.getfield 393, 3) := by decide +kernel
theorem dX12_counts_109 : decode cX12_counts 109 = .ok (.lmul, 1) := by decide +kernel
theorem dX12_counts_110 : decode cX12_counts 110 = .ok (.ladd, 1) := by decide +kernel
theorem dX12_counts_111 : decode cX12_counts 111 = .ok (.lstore 5, 2) := by decide +kernel
theorem dX12_counts_113 : decode cX12_counts 113 = .ok (.aload_n 0, 1) := by decide +kernel
theorem dX12_counts_114 : decode cX12_counts 114 = .ok (.getfield 71, 3) := by decide +kernel
theorem dX12_counts_117 : decode cX12_counts 117 = .ok (.iload 7, 2) := by decide +kernel
theorem dX12_counts_119 : decode cX12_counts 119 = .ok (.iaload, 1) := by decide +kernel
theorem dX12_counts_120 : decode cX12_counts 120 = .ok (.istore 7, 2) := by decide +kernel
theorem dX12_counts_122 : decode cX12_counts 122 = .ok (.goto (-114), 3) := by decide +kernel
theorem dX12_counts_125 : decode cX12_counts 125 = .ok (.aload_n 0, 1) := by decide +kernel
theorem dX12_counts_126 : decode cX12_counts 126 = .ok (.lload_n 3, 1) := by decide +kernel
theorem dX12_counts_127 : decode cX12_counts 127 = .ok (.putfield 389, 3) := by decide +kernel
theorem dX12_counts_130 : decode cX12_counts 130 = .ok (.aload_n 0, 1) := by decide +kernel
theorem dX12_counts_131 : decode cX12_counts 131 = .ok (.lload 5, 2) := by decide +kernel
theorem dX12_counts_133 : decode cX12_counts 133 = .ok (.putfield 393, 3) := by decide +kernel
theorem dX12_counts_136 : decode cX12_counts 136 = .ok (.return_, 1) := by decide +kernel
theorem dX12_shot_0 : decode cX12_shot 0 = .ok (.aload_n 0, 1) := by decide +kernel
theorem dX12_shot_1 : decode cX12_shot 1 = .ok (.iconst 0, 1) := by decide +kernel
theorem dX12_shot_2 : decode cX12_shot 2 = .ok (.putfield 1, 3) := by decide +kernel
theorem dX12_shot_5 : decode cX12_shot 5 = .ok (.aload_n 0, 1) := by decide +kernel
theorem dX12_shot_6 : decode cX12_shot 6 = .ok (.iload_n 1, 1) := by decide +kernel
theorem dX12_shot_7 : decode cX12_shot 7 = .ok (.ifCond .lt 15, 3) := by decide +kernel
theorem dX12_shot_10 : decode cX12_shot 10 = .ok (.iload_n 1, 1) := by decide +kernel
theorem dX12_shot_11 : decode cX12_shot 11 = .ok (.aload_n 0, 1) := by decide +kernel
theorem dX12_shot_12 : decode cX12_shot 12 = .ok (.getfield 279, 3) := by decide +kernel
theorem dX12_shot_15 : decode cX12_shot 15 = .ok (.if_icmp .gt 7, 3) := by decide +kernel
theorem dX12_shot_18 : decode cX12_shot 18 = .ok (.iconst 1, 1) := by decide +kernel
theorem dX12_shot_19 : decode cX12_shot 19 = .ok (.goto 4, 3) := by decide +kernel
theorem dX12_shot_22 : decode cX12_shot 22 = .ok (.iconst 0, 1) := by decide +kernel
theorem dX12_shot_23 : decode cX12_shot 23 = .ok (.iconst 1, 1) := by decide +kernel
theorem dX12_shot_24 : decode cX12_shot 24 = .ok (.invokevirtual 271, 3) := by decide +kernel
theorem dX12_shot_27 : decode cX12_shot 27 = .ok (.ifCond .eq 25, 3) := by decide +kernel
theorem dX12_shot_30 : decode cX12_shot 30 = .ok (.aload_n 0, 1) := by decide +kernel
theorem dX12_shot_31 : decode cX12_shot 31 = .ok (.aload_n 0, 1) := by decide +kernel
theorem dX12_shot_32 : decode cX12_shot 32 = .ok (.getfield 398, 3) := by decide +kernel
theorem dX12_shot_35 : decode cX12_shot 35 = .ok (.bipush 12, 2) := by decide +kernel
theorem dX12_shot_37 : decode cX12_shot 37 = .ok (.if_icmp .ge 7, 3) := by decide +kernel
theorem dX12_shot_40 : decode cX12_shot 40 = .ok (.iconst 1, 1) := by decide +kernel
theorem dX12_shot_41 : decode cX12_shot 41 = .ok (.goto 4, 3) := by decide +kernel
theorem dX12_shot_44 : decode cX12_shot 44 = .ok (.iconst 0, 1) := by decide +kernel
theorem dX12_shot_45 : decode cX12_shot 45 = .ok (.iconst 2, 1) := by decide +kernel
theorem dX12_shot_46 : decode cX12_shot 46 = .ok (.invokevirtual 271, 3) := by decide +kernel
theorem dX12_shot_49 : decode cX12_shot 49 = .ok (.ifCond .ne 5, 3) := by decide +kernel
theorem dX12_shot_52 : decode cX12_shot 52 = .ok (.iconst 0, 1) := by decide +kernel
theorem dX12_shot_53 : decode cX12_shot 53 = .ok (.ireturn, 1) := by decide +kernel
theorem dX12_shot_54 : decode cX12_shot 54 = .ok (.aload_n 0, 1) := by decide +kernel
theorem dX12_shot_55 : decode cX12_shot 55 = .ok (.iconst 0, 1) := by decide +kernel
theorem dX12_shot_56 : decode cX12_shot 56 = .ok (.putfield 279, 3) := by decide +kernel
theorem dX12_shot_59 : decode cX12_shot 59 = .ok (.aload_n 0, 1) := by decide +kernel
theorem dX12_shot_60 : decode cX12_shot 60 = .ok (.iload_n 1, 1) := by decide +kernel
theorem dX12_shot_61 : decode cX12_shot 61 = .ok (.putfield 291, 3) := by decide +kernel
theorem dX12_shot_64 : decode cX12_shot 64 = .ok (.aload_n 0, 1) := by decide +kernel
theorem dX12_shot_65 : decode cX12_shot 65 = .ok (.iconst 0, 1) := by decide +kernel
theorem dX12_shot_66 : decode cX12_shot 66 = .ok (.putfield 288, 3) := by decide +kernel
theorem dX12_shot_69 : decode cX12_shot 69 = .ok (.aload_n 0, 1) := by decide +kernel
theorem dX12_shot_70 : decode cX12_shot 70 = .ok (.iconst (-1), 1) := by decide +kernel
theorem dX12_shot_71 : decode cX12_shot 71 = .ok (.putfield 282, 3) := by decide +kernel
theorem dX12_shot_74 : decode cX12_shot 74 = .ok (.aload_n 0, 1) := by decide +kernel
theorem dX12_shot_75 : decode cX12_shot 75 = .ok (.iconst 0, 1) := by decide +kernel
theorem dX12_shot_76 : decode cX12_shot 76 = .ok (.putfield 368, 3) := by decide +kernel
theorem dX12_shot_79 : decode cX12_shot 79 = .ok (.aload_n 0, 1) := by decide +kernel
theorem dX12_shot_80 : decode cX12_shot 80 = .ok (.iconst 0, 1) := by decide +kernel
theorem dX12_shot_81 : decode cX12_shot 81 = .ok (.putfield 332, 3) := by decide +kernel
theorem dX12_shot_84 : decode cX12_shot 84 = .ok (.aload_n 0, 1) := by decide +kernel
theorem dX12_shot_85 : decode cX12_shot 85 = .ok (.iconst 0, 1) := by decide +kernel
theorem dX12_shot_86 : decode cX12_shot 86 = .ok (.putfield 351, 3) := by decide +kernel
theorem dX12_shot_89 : decode cX12_shot 89 = .ok (.aload_n 0, 1) := by decide +kernel
theorem dX12_shot_90 : decode cX12_shot 90 = .ok (.iconst 0, 1) := by decide +kernel
theorem dX12_shot_91 : decode cX12_shot 91 = .ok (.putfield 325, 3) := by decide +kernel
theorem dX12_shot_94 : decode cX12_shot 94 = .ok (.aload_n 0, 1) := by decide +kernel
theorem dX12_shot_95 : decode cX12_shot 95 = .ok (.iconst 0, 1) := by decide +kernel
theorem dX12_shot_96 : decode cX12_shot 96 = .ok (.putfield 348, 3) := by decide +kernel
theorem dX12_shot_99 : decode cX12_shot 99 = .ok (.aload_n 0, 1) := by decide +kernel
theorem dX12_shot_100 : decode cX12_shot 100 = .ok (.invokevirtual 302, 3) := by decide +kernel
theorem dX12_shot_103 : decode cX12_shot 103 = .ok (.ifCond .eq 24, 3) := by decide +kernel
theorem dX12_shot_106 : decode cX12_shot 106 = .ok (.aload_n 0, 1) := by decide +kernel
theorem dX12_shot_107 : decode cX12_shot 107 = .ok (.invokevirtual 429, 3) := by decide +kernel
theorem dX12_shot_110 : decode cX12_shot 110 = .ok (.ifCond .eq 17, 3) := by decide +kernel
theorem dX12_shot_113 : decode cX12_shot 113 = .ok (.aload_n 0, 1) := by decide +kernel
theorem dX12_shot_114 : decode cX12_shot 114 = .ok (.iconst 0, 1) := by decide +kernel
theorem dX12_shot_115 : decode cX12_shot 115 = .ok (.invokevirtual 356, 3) := by decide +kernel
theorem dX12_shot_118 : decode cX12_shot 118 = .ok (.aload_n 0, 1) := by decide +kernel
theorem dX12_shot_119 : decode cX12_shot 119 = .ok (.bipush 59, 2) := by decide +kernel
theorem dX12_shot_121 : decode cX12_shot 121 = .ok (.invokevirtual 338, 3) := by decide +kernel
theorem dX12_shot_124 : decode cX12_shot 124 = .ok (.goto (-25), 3) := by decide +kernel
theorem dX12_shot_127 : decode cX12_shot 127 = .ok (.aload_n 0, 1) := by decide +kernel
theorem dX12_shot_128 : decode cX12_shot 128 = .ok (.invokevirtual 302, 3) := by decide +kernel
theorem dX12_shot_131 : decode cX12_shot 131 = .ok (.ifCond .eq 52, 3) := by decide +kernel
theorem dX12_shot_134 : decode cX12_shot 134 = .ok (.aload_n 0, 1) := by decide +kernel
theorem dX12_shot_135 : decode cX12_shot 135 = .ok (.iconst 0, 1) := by decide +kernel
theorem dX12_shot_136 : decode cX12_shot 136 = .ok (.aload_n 0, 1) := by decide +kernel
theorem dX12_shot_137 : decode cX12_shot 137 = .ok (.getfield 368, 3) := by decide +kernel
theorem dX12_shot_140 : decode cX12_shot 140 = .ok (.invokevirtual 386, 3) := by decide +kernel
theorem dX12_shot_143 : decode cX12_shot 143 = .ok (.aload_n 0, 1) := by decide +kernel
theorem dX12_shot_144 : decode cX12_shot 144 = .ok (.getfield 389, 3) := by decide +kernel
theorem dX12_shot_147 : decode cX12_shot 147 = .ok (.lconst 1, 1) := by decide +kernel
theorem dX12_shot_148 : decode cX12_shot 148 = .ok (.lcmp, 1) := by decide +kernel
theorem dX12_shot_149 : decode cX12_shot 149 = .ok (.ifCond .lt 25, 3) := by decide +kernel
theorem dX12_shot_152 : decode cX12_shot 152 = .ok (.aload_n 0, 1) := by decide +kernel
theorem dX12_shot_153 : decode cX12_shot 153 = .ok (.getfield 389, 3) := by decide +kernel
theorem dX12_shot_156 : decode cX12_shot 156 = .ok (.ldc2_w 432, 3) := by decide +kernel
theorem dX12_shot_159 : decode cX12_shot 159 = .ok (.lcmp, 1) := by decide +kernel
theorem dX12_shot_160 : decode cX12_shot 160 = .ok (.ifCond .gt 14, 3) := by decide +kernel
theorem dX12_shot_163 : decode cX12_shot 163 = .ok (.aload_n 0, 1) := by decide +kernel
theorem dX12_shot_164 : decode cX12_shot 164 = .ok (.getfield 393, 3) := by decide +kernel
theorem dX12_shot_167 : decode cX12_shot 167 = .ok (.ldc2_w 434, 3) := by decide +kernel
theorem dX12_shot_170 : decode cX12_shot 170 = .ok (.lcmp, 1) := by decide +kernel
theorem dX12_shot_171 : decode cX12_shot 171 = .ok (.ifCond .le 12, 3) := by decide +kernel
theorem dX12_shot_174 : decode cX12_shot 174 = .ok (.aload_n 0, 1) := by decide +kernel
theorem dX12_shot_175 : decode cX12_shot 175 = .ok (.iconst 4, 1) := by decide +kernel
theorem dX12_shot_176 : decode cX12_shot 176 = .ok (.aload_n 0, 1) := by decide +kernel
theorem dX12_shot_177 : decode cX12_shot 177 = .ok (.getfield 291, 3) := by decide +kernel
theorem dX12_shot_180 : decode cX12_shot 180 = .ok (.invokevirtual 309, 3) := by decide +kernel
theorem dX12_shot_183 : decode cX12_shot 183 = .ok (.aload_n 0, 1) := by decide +kernel
theorem dX12_shot_184 : decode cX12_shot 184 = .ok (.aload_n 0, 1) := by decide +kernel
theorem dX12_shot_185 : decode cX12_shot 185 = .ok (.getfield 282, 3) := by decide +kernel
theorem dX12_shot_188 : decode cX12_shot 188 = .ok (.putfield 44, 3) := by decide +kernel
theorem dX12_shot_191 : decode cX12_shot 191 = .ok (.aload_n 0, 1) := by decide +kernel
theorem dX12_shot_192 : decode cX12_shot 192 = .ok (.invokevirtual 302, 3) := by decide +kernel
theorem dX12_shot_195 : decode cX12_shot 195 = .ok (.ifCond .ne 11, 3) := by decide +kernel
theorem dX12_shot_198 : decode cX12_shot 198 = .ok (.aload_n 0, 1) := by decide +kernel
theorem dX12_shot_199 : decode cX12_shot 199 = .ok (.getfield 285, 3) := by decide +kernel
theorem dX12_shot_202 : decode cX12_shot 202 = .ok (.bipush 10, 2) := by decide +kernel
theorem dX12_shot_204 : decode cX12_shot 204 = .ok (.isub, 1) := by decide +kernel
theorem dX12_shot_205 : decode cX12_shot 205 = .ok (.ireturn, 1) := by decide +kernel
theorem dX12_shot_206 : decode cX12_shot 206 = .ok (.aload_n 0, 1) := by decide +kernel
theorem dX12_shot_207 : decode cX12_shot 207 = .ok (.getfield 389, 3) := by decide +kernel
theorem dX12_shot_210 : decode cX12_shot 210 = .ok (.l2i, 1) := by decide +kernel
theorem dX12_shot_211 : decode cX12_shot 211 = .ok (.istore_n 2, 1) := by decide +kernel
theorem dX12_shot_212 : decode cX12_shot 212 = .ok (.aload_n 0, 1) := by decide +kernel
theorem dX12_shot_213 : decode cX12_shot 213 = .ok (.iconst 0, 1) := by decide +kernel
theorem dX12_shot_214 : decode cX12_shot 214 = .ok (.putfield 401, 3) := by decide +kernel
theorem dX12_shot_217 : decode cX12_shot 217 = .ok (.aload_n 0, 1) := by decide +kernel
theorem dX12_shot_218 : decode cX12_shot 218 = .ok (.iconst 0, 1) := by decide +kernel
theorem dX12_shot_219 : decode cX12_shot 219 = .ok (.putfield 407, 3) := by decide +kernel
theorem dX12_shot_222 : decode cX12_shot 222 = .ok (.aload_n 0, 1) := by decide +kernel
theorem dX12_shot_223 : decode cX12_shot 223 = .ok (.iconst 0, 1) := by decide +kernel
theorem dX12_shot_224 : decode cX12_shot 224 = .ok (.putfield 410, 3) := by decide +kernel
theorem dX12_shot_227 : decode cX12_shot 227 = .ok (.iconst 0, 1) := by decide +kernel
theorem dX12_shot_228 : decode cX12_shot 228 = .ok (.istore_n 3, 1) := by decide +kernel
theorem dX12_shot_229 : decode cX12_shot 229 = .ok (.iload_n 3, 1) := by decide +kernel
theorem dX12_shot_230 : decode cX12_shot 230 = .ok (.bipush 96, 2) := by decide +kernel
theorem dX12_shot_232 : decode cX12_shot 232 = .ok (.if_icmp .ge 16, 3) := by decide +kernel
theorem dX12_shot_235 : decode cX12_shot 235 = .ok (.aload_n 0, 1) := by decide +kernel
theorem dX12_shot_236 : decode cX12_shot 236 = .ok (.getfield 126, 3) := by decide +kernel
theorem dX12_shot_239 : decode cX12_shot 239 = .ok (.iload_n 3, 1) := by decide +kernel
theorem dX12_shot_240 : decode cX12_shot 240 = .ok (.iconst 0, 1) := by decide +kernel
theorem dX12_shot_241 : decode cX12_shot 241 = .ok (.iastore, 1) := by decide +kernel
theorem dX12_shot_242 : decode cX12_shot 242 = .ok (.iinc 3 1, 3) := by decide +kernel
theorem dX12_shot_245 : decode cX12_shot 245 = .ok (.goto (-16), 3) := by decide +kernel
theorem dX12_shot_248 : decode cX12_shot 248 = .ok (.iconst 0, 1) := by decide +kernel
theorem dX12_shot_249 : decode cX12_shot 249 = .ok (.istore_n 3, 1) := by decide +kernel
theorem dX12_shot_250 : decode cX12_shot 250 = .ok (.iload_n 3, 1) := by decide +kernel
theorem dX12_shot_251 : decode cX12_shot 251 = .ok (.iconst 3, 1) := by decide +kernel
theorem dX12_shot_252 : decode cX12_shot 252 = .ok (.if_icmp .ge 30, 3) := by decide +kernel
theorem dX12_shot_255 : decode cX12_shot 255 = .ok (.aload_n 0, 1) := by decide +kernel
theorem dX12_shot_256 : decode cX12_shot 256 = .ok (.getfield 132, 3) := by decide +kernel
theorem dX12_shot_259 : decode cX12_shot 259 = .ok (.iload_n 3, 1) := by decide +kernel
theorem dX12_shot_260 : decode cX12_shot 260 = .ok (.iconst 0, 1) := by decide +kernel
theorem dX12_shot_261 : decode cX12_shot 261 = .ok (.iastore, 1) := by decide +kernel
theorem dX12_shot_262 : decode cX12_shot 262 = .ok (.aload_n 0, 1) := by decide +kernel
theorem dX12_shot_263 : decode cX12_shot 263 = .ok (.getfield 141, 3) := by decide +kernel
theorem dX12_shot_266 : decode cX12_shot 266 = .ok (.iload_n 3, 1) := by decide +kernel
theorem dX12_shot_267 : decode cX12_shot 267 = .ok (.iconst 0, 1) := by decide +kernel
theorem dX12_shot_268 : decode cX12_shot 268 = .ok (.iastore, 1) := by decide +kernel
theorem dX12_shot_269 : decode cX12_shot 269 = .ok (.aload_n 0, 1) := by decide +kernel
theorem dX12_shot_270 : decode cX12_shot 270 = .ok (.getfield 144, 3) := by decide +kernel
theorem dX12_shot_273 : decode cX12_shot 273 = .ok (.iload_n 3, 1) := by decide +kernel
theorem dX12_shot_274 : decode cX12_shot 274 = .ok (.iconst 0, 1) := by decide +kernel
theorem dX12_shot_275 : decode cX12_shot 275 = .ok (.iastore, 1) := by decide +kernel
theorem dX12_shot_276 : decode cX12_shot 276 = .ok (.iinc 3 1, 3) := by decide +kernel
theorem dX12_shot_279 : decode cX12_shot 279 = .ok (.goto (-29), 3) := by decide +kernel
theorem dX12_shot_282 : decode cX12_shot 282 = .ok (.iconst 0, 1) := by decide +kernel
theorem dX12_shot_283 : decode cX12_shot 283 = .ok (.istore_n 3, 1) := by decide +kernel
theorem dX12_shot_284 : decode cX12_shot 284 = .ok (.iload_n 3, 1) := by decide +kernel
theorem dX12_shot_285 : decode cX12_shot 285 = .ok (.sipush 400, 3) := by decide +kernel
theorem dX12_shot_288 : decode cX12_shot 288 = .ok (.if_icmp .ge 59, 3) := by decide +kernel
theorem dX12_shot_291 : decode cX12_shot 291 = .ok (.iconst 0, 1) := by decide +kernel
theorem dX12_shot_292 : decode cX12_shot 292 = .ok (.istore 4, 2) := by decide +kernel
theorem dX12_shot_294 : decode cX12_shot 294 = .ok (.iload 4, 2) := by decide +kernel
theorem dX12_shot_296 : decode cX12_shot 296 = .ok (.bipush 8, 2) := by decide +kernel
theorem dX12_shot_298 : decode cX12_shot 298 = .ok (.if_icmp .ge 29, 3) := by decide +kernel
theorem dX12_shot_301 : decode cX12_shot 301 = .ok (.aload_n 0, 1) := by decide +kernel
theorem dX12_shot_302 : decode cX12_shot 302 = .ok (.getfield 92, 3) := by decide +kernel
theorem dX12_shot_305 : decode cX12_shot 305 = .ok (.bipush 8, 2) := by decide +kernel
theorem dX12_shot_307 : decode cX12_shot 307 = .ok (.aload_n 0, 1) := by decide +kernel
theorem dX12_shot_308 : decode cX12_shot 308 = .ok (.getfield 398, 3) := by decide +kernel
theorem dX12_shot_311 : decode cX12_shot 311 = .ok (.iload_n 3, 1) := by decide +kernel
theorem dX12_shot_312 : decode cX12_shot 312 = .ok (.invokestatic 404, 3) := by decide +kernel
theorem dX12_shot_315 : decode cX12_shot 315 = .ok (.imul, 1) := by decide +kernel
theorem dX12_shot_316 : decode cX12_shot 316 = .ok (.iload 4, 2) := by decide +kernel
theorem dX12_shot_318 : decode cX12_shot 318 = .ok (.iadd, 1) := by decide +kernel
theorem dX12_shot_319 : decode cX12_shot 319 = .ok (.iconst 0, 1) := by decide +kernel
theorem dX12_shot_320 : decode cX12_shot 320 = .ok (.bastore, 1) := by decide +kernel
theorem dX12_shot_321 : decode cX12_shot 321 = .ok (.iinc 4 1, 3) := by decide +kernel
theorem dX12_shot_324 : decode cX12_shot 324 = .ok (.goto (-30), 3) := by decide +kernel
theorem dX12_shot_327 : decode cX12_shot 327 = .ok (.aload_n 0, 1) := by decide +kernel
theorem dX12_shot_328 : decode cX12_shot 328 = .ok (.getfield 122, 3) := by decide +kernel
theorem dX12_shot_331 : decode cX12_shot 331 = .ok (.aload_n 0, 1) := by decide +kernel
theorem dX12_shot_332 : decode cX12_shot 332 = .ok (.getfield 398, 3) := by decide +kernel
theorem dX12_shot_335 : decode cX12_shot 335 = .ok (.iload_n 3, 1) := by decide +kernel
theorem dX12_shot_336 : decode cX12_shot 336 = .ok (.invokestatic 404, 3) := by decide +kernel
theorem dX12_shot_339 : decode cX12_shot 339 = .ok (.iconst 0, 1) := by decide +kernel
theorem dX12_shot_340 : decode cX12_shot 340 = .ok (.bastore, 1) := by decide +kernel
theorem dX12_shot_341 : decode cX12_shot 341 = .ok (.iinc 3 1, 3) := by decide +kernel
theorem dX12_shot_344 : decode cX12_shot 344 = .ok (.goto (-60), 3) := by decide +kernel
theorem dX12_shot_347 : decode cX12_shot 347 = .ok (.aload_n 0, 1) := by decide +kernel
theorem dX12_shot_348 : decode cX12_shot 348 = .ok (.iconst 0, 1) := by decide +kernel
theorem dX12_shot_349 : decode cX12_shot 349 = .ok (.aload_n 0, 1) := by decide +kernel
theorem dX12_shot_350 : decode cX12_shot 350 = .ok (.getfield 368, 3) := by decide +kernel
theorem dX12_shot_353 : decode cX12_shot 353 = .ok (.iload_n 2, 1) := by decide +kernel
theorem dX12_shot_354 : decode cX12_shot 354 = .ok (.invokevirtual 425, 3) := by decide +kernel
theorem dX12_shot_357 : decode cX12_shot 357 = .ok (.aload_n 0, 1) := by decide +kernel
theorem dX12_shot_358 : decode cX12_shot 358 = .ok (.getfield 104, 3) := by decide +kernel
theorem dX12_shot_361 : decode cX12_shot 361 = .ok (.aload_n 0, 1) := by decide +kernel
theorem dX12_shot_362 : decode cX12_shot 362 = .ok (.getfield 398, 3) := by decide +kernel
theorem dX12_shot_365 : decode cX12_shot 365 = .ok (.iload_n 2, 1) := by decide +kernel
theorem dX12_shot_366 : decode cX12_shot 366 = .ok (.iastore, 1) := by decide +kernel
theorem dX12_shot_367 : decode cX12_shot 367 = .ok (.aload_n 0, 1) := by decide +kernel
theorem dX12_shot_368 : decode cX12_shot 368 = .ok (.getfield 107, 3) := by decide +kernel
theorem dX12_shot_371 : decode cX12_shot 371 = .ok (.aload_n 0, 1) := by decide +kernel
theorem dX12_shot_372 : decode cX12_shot 372 = .ok (.getfield 398, 3) := by decide +kernel
theorem dX12_shot_375 : decode cX12_shot 375 = .ok (.aload_n 0, 1) := by decide +kernel
theorem dX12_shot_376 : decode cX12_shot 376 = .ok (.getfield 325, 3) := by decide +kernel
theorem dX12_shot_379 : decode cX12_shot 379 = .ok (.iastore, 1) := by decide +kernel
theorem dX12_shot_380 : decode cX12_shot 380 = .ok (.aload_n 0, 1) := by decide +kernel
theorem dX12_shot_381 : decode cX12_shot 381 = .ok (.getfield 110, 3) := by decide +kernel
theorem dX12_shot_384 : decode cX12_shot 384 = .ok (.aload_n 0, 1) := by decide +kernel
theorem dX12_shot_385 : decode cX12_shot 385 = .ok (.getfield 398, 3) := by decide +kernel
theorem dX12_shot_388 : decode cX12_shot 388 = .ok (.aload_n 0, 1) := by decide +kernel
theorem dX12_shot_389 : decode cX12_shot 389 = .ok (.getfield 348, 3) := by decide +kernel
theorem dX12_shot_392 : decode cX12_shot 392 = .ok (.iastore, 1) := by decide +kernel
theorem dX12_shot_393 : decode cX12_shot 393 = .ok (.aload_n 0, 1) := by decide +kernel
theorem dX12_shot_394 : decode cX12_shot 394 = .ok (.dup, 1) := by decide +kernel
theorem dX12_shot_395 : decode cX12_shot 395 = .ok (.getfield 398, 3) := by decide +kernel
theorem dX12_shot_398 : decode cX12_shot 398 = .ok (.iconst 1, 1) := by decide +kernel
theorem dX12_shot_399 : decode cX12_shot 399 = .ok (.iadd, 1) := by decide +kernel
theorem dX12_shot_400 : decode cX12_shot 400 = .ok (.putfield 398, 3) := by decide +kernel
theorem dX12_shot_403 : decode cX12_shot 403 = .ok (.aload_n 0, 1) := by decide +kernel
theorem dX12_shot_404 : decode cX12_shot 404 = .ok (.getfield 398, 3) := by decide +kernel
theorem dX12_shot_407 : decode cX12_shot 407 = .ok (.iconst 1, 1) := by decide +kernel
theorem dX12_shot_408 : decode cX12_shot 408 = .ok (.isub, 1) := by decide +kernel
theorem dX12_shot_409 : decode cX12_shot 409 = .ok (.ireturn, 1) := by decide +kernel
theorem dX12_isMore_0 : decode cX12_isMore 0 = .ok (.aload_n 0, 1) := by decide +kernel
theorem dX12_isMore_1 : decode cX12_isMore 1 = .ok (.invokevirtual 294, 3) := by decide +kernel
theorem dX12_isMore_4 : decode cX12_isMore 4 = .ok (.pop, 1) := by decide +kernel
theorem dX12_isMore_5 : decode cX12_isMore 5 = .ok (.aload_n 0, 1) := by decide +kernel
theorem dX12_isMore_6 : decode cX12_isMore 6 = .ok (.getfield 288, 3) := by decide +kernel
theorem dX12_isMore_9 : decode cX12_isMore 9 = .ok (.aload_n 0, 1) := by decide +kernel
theorem dX12_isMore_10 : decode cX12_isMore 10 = .ok (.getfield 291, 3) := by decide +kernel
theorem dX12_isMore_13 : decode cX12_isMore 13 = .ok (.if_icmp .ge 7, 3) := by decide +kernel
theorem dX12_isMore_16 : decode cX12_isMore 16 = .ok (.iconst 1, 1) := by decide +kernel
theorem dX12_isMore_17 : decode cX12_isMore 17 = .ok (.goto 4, 3) := by decide +kernel
theorem dX12_isMore_20 : decode cX12_isMore 20 = .ok (.iconst 0, 1) := by decide +kernel
theorem dX12_isMore_21 : decode cX12_isMore 21 = .ok (.ireturn, 1) := by decide +kernel
theorem dX12_fault_0 : decode cX12_fault 0 = .ok (.aload_n 0, 1) := by decide +kernel
theorem dX12_fault_1 : decode cX12_fault 1 = .ok (.iconst 0, 1) := by decide +kernel
theorem dX12_fault_2 : decode cX12_fault 2 = .ok (.putfield 1, 3) := by decide +kernel
theorem dX12_fault_5 : decode cX12_fault 5 = .ok (.aload_n 0, 1) := by decide +kernel
theorem dX12_fault_6 : decode cX12_fault 6 = .ok (.getfield 44, 3) := by decide +kernel
theorem dX12_fault_9 : decode cX12_fault 9 = .ok (.ireturn, 1) := by decide +kernel
theorem dX12_isShot_0 : decode cX12_isShot 0 = .ok (.aload_n 0, 1) := by decide +kernel
theorem dX12_isShot_1 : decode cX12_isShot 1 = .ok (.iload_n 1, 1) := by decide +kernel
theorem dX12_isShot_2 : decode cX12_isShot 2 = .ok (.iconst 0, 1) := by decide +kernel
theorem dX12_isShot_3 : decode cX12_isShot 3 = .ok (.aload_n 0, 1) := by decide +kernel
theorem dX12_isShot_4 : decode cX12_isShot 4 = .ok (.getfield 398, 3) := by decide +kernel
theorem dX12_isShot_7 : decode cX12_isShot 7 = .ok (.iconst 1, 1) := by decide +kernel
theorem dX12_isShot_8 : decode cX12_isShot 8 = .ok (.isub, 1) := by decide +kernel
theorem dX12_isShot_9 : decode cX12_isShot 9 = .ok (.invokestatic 267, 3) := by decide +kernel
theorem dX12_isShot_12 : decode cX12_isShot 12 = .ok (.iconst 1, 1) := by decide +kernel
theorem dX12_isShot_13 : decode cX12_isShot 13 = .ok (.invokevirtual 271, 3) := by decide +kernel
theorem dX12_isShot_16 : decode cX12_isShot 16 = .ok (.ireturn, 1) := by decide +kernel
theorem dX12_told_0 : decode cX12_told 0 = .ok (.aload_n 0, 1) := by decide +kernel
theorem dX12_told_1 : decode cX12_told 1 = .ok (.iconst 0, 1) := by decide +kernel
theorem dX12_told_2 : decode cX12_told 2 = .ok (.putfield 1, 3) := by decide +kernel
theorem dX12_told_5 : decode cX12_told 5 = .ok (.aload_n 0, 1) := by decide +kernel
theorem dX12_told_6 : decode cX12_told 6 = .ok (.iload_n 1, 1) := by decide +kernel
theorem dX12_told_7 : decode cX12_told 7 = .ok (.invokevirtual 436, 3) := by decide +kernel
theorem dX12_told_10 : decode cX12_told 10 = .ok (.ifCond .eq 17, 3) := by decide +kernel
theorem dX12_told_13 : decode cX12_told 13 = .ok (.aload_n 0, 1) := by decide +kernel
theorem dX12_told_14 : decode cX12_told 14 = .ok (.iload_n 2, 1) := by decide +kernel
theorem dX12_told_15 : decode cX12_told 15 = .ok (.iconst 0, 1) := by decide +kernel
theorem dX12_told_16 : decode cX12_told 16 = .ok (.iconst 5, 1) := by decide +kernel
theorem dX12_told_17 : decode cX12_told 17 = .ok (.invokestatic 267, 3) := by decide +kernel
theorem dX12_told_20 : decode cX12_told 20 = .ok (.iconst 2, 1) := by decide +kernel
theorem dX12_told_21 : decode cX12_told 21 = .ok (.invokevirtual 271, 3) := by decide +kernel
theorem dX12_told_24 : decode cX12_told 24 = .ok (.ifCond .ne 5, 3) := by decide +kernel
theorem dX12_told_27 : decode cX12_told 27 = .ok (.iconst 0, 1) := by decide +kernel
theorem dX12_told_28 : decode cX12_told 28 = .ok (.ireturn, 1) := by decide +kernel
theorem dX12_told_29 : decode cX12_told 29 = .ok (.iload_n 2, 1) := by decide +kernel
theorem dX12_told_30 : decode cX12_told 30 = .ok (.tableswitch 69 0 4 #[34, 41, 48, 55, 62], 34) := by decide +kernel
theorem dX12_told_64 : decode cX12_told 64 = .ok (.aload_n 0, 1) := by decide +kernel
theorem dX12_told_65 : decode cX12_told 65 = .ok (.getfield 104, 3) := by decide +kernel
theorem dX12_told_68 : decode cX12_told 68 = .ok (.iload_n 1, 1) := by decide +kernel
theorem dX12_told_69 : decode cX12_told 69 = .ok (.iaload, 1) := by decide +kernel
theorem dX12_told_70 : decode cX12_told 70 = .ok (.ireturn, 1) := by decide +kernel
theorem dX12_told_71 : decode cX12_told 71 = .ok (.aload_n 0, 1) := by decide +kernel
theorem dX12_told_72 : decode cX12_told 72 = .ok (.getfield 107, 3) := by decide +kernel
theorem dX12_told_75 : decode cX12_told 75 = .ok (.iload_n 1, 1) := by decide +kernel
theorem dX12_told_76 : decode cX12_told 76 = .ok (.iaload, 1) := by decide +kernel
theorem dX12_told_77 : decode cX12_told 77 = .ok (.ireturn, 1) := by decide +kernel
theorem dX12_told_78 : decode cX12_told 78 = .ok (.aload_n 0, 1) := by decide +kernel
theorem dX12_told_79 : decode cX12_told 79 = .ok (.getfield 110, 3) := by decide +kernel
theorem dX12_told_82 : decode cX12_told 82 = .ok (.iload_n 1, 1) := by decide +kernel
theorem dX12_told_83 : decode cX12_told 83 = .ok (.iaload, 1) := by decide +kernel
theorem dX12_told_84 : decode cX12_told 84 = .ok (.ireturn, 1) := by decide +kernel
theorem dX12_told_85 : decode cX12_told 85 = .ok (.aload_n 0, 1) := by decide +kernel
theorem dX12_told_86 : decode cX12_told 86 = .ok (.getfield 113, 3) := by decide +kernel
theorem dX12_told_89 : decode cX12_told 89 = .ok (.iload_n 1, 1) := by decide +kernel
theorem dX12_told_90 : decode cX12_told 90 = .ok (.iaload, 1) := by decide +kernel
theorem dX12_told_91 : decode cX12_told 91 = .ok (.ireturn, 1) := by decide +kernel
theorem dX12_told_92 : decode cX12_told 92 = .ok (.aload_n 0, 1) := by decide +kernel
theorem dX12_told_93 : decode cX12_told 93 = .ok (.getfield 116, 3) := by decide +kernel
theorem dX12_told_96 : decode cX12_told 96 = .ok (.iload_n 1, 1) := by decide +kernel
theorem dX12_told_97 : decode cX12_told 97 = .ok (.iaload, 1) := by decide +kernel
theorem dX12_told_98 : decode cX12_told 98 = .ok (.ireturn, 1) := by decide +kernel
theorem dX12_told_99 : decode cX12_told 99 = .ok (.iconst 0, 1) := by decide +kernel
theorem dX12_told_100 : decode cX12_told 100 = .ok (.istore_n 3, 1) := by decide +kernel
theorem dX12_told_101 : decode cX12_told 101 = .ok (.iconst 0, 1) := by decide +kernel
theorem dX12_told_102 : decode cX12_told 102 = .ok (.istore 4, 2) := by decide +kernel
theorem dX12_told_104 : decode cX12_told 104 = .ok (.iload 4, 2) := by decide +kernel
theorem dX12_told_106 : decode cX12_told 106 = .ok (.aload_n 0, 1) := by decide +kernel
theorem dX12_told_107 : decode cX12_told 107 = .ok (.getfield 104, 3) := by decide +kernel
theorem dX12_told_110 : decode cX12_told 110 = .ok (.iload_n 1, 1) := by decide +kernel
theorem dX12_told_111 : decode cX12_told 111 = .ok (.iaload, 1) := by decide +kernel
theorem dX12_told_112 : decode cX12_told 112 = .ok (.if_icmp .ge 27, 3) := by decide +kernel
theorem dX12_told_115 : decode cX12_told 115 = .ok (.iload_n 3, 1) := by decide +kernel
theorem dX12_told_116 : decode cX12_told 116 = .ok (.aload_n 0, 1) := by decide +kernel
theorem dX12_told_117 : decode cX12_told 117 = .ok (.iload_n 1, 1) := by decide +kernel
theorem dX12_told_118 : decode cX12_told 118 = .ok (.iload 4, 2) := by decide +kernel
theorem dX12_told_120 : decode cX12_told 120 = .ok (.invokevirtual 439, 3) := by decide +kernel
theorem dX12_told_123 : decode cX12_told 123 = .ok (.ifCond .eq 7, 3) := by decide +kernel
theorem dX12_told_126 : decode cX12_told 126 = .ok (.iconst 1, 1) := by decide +kernel
theorem dX12_told_127 : decode cX12_told 127 = .ok (.goto 4, 3) := by decide +kernel
theorem dX12_told_130 : decode cX12_told 130 = .ok (.iconst 0, 1) := by decide +kernel
theorem dX12_told_131 : decode cX12_told 131 = .ok (.iadd, 1) := by decide +kernel
theorem dX12_told_132 : decode cX12_told 132 = .ok (.istore_n 3, 1) := by decide +kernel
theorem dX12_told_133 : decode cX12_told 133 = .ok (.iinc 4 1, 3) := by decide +kernel
theorem dX12_told_136 : decode cX12_told 136 = .ok (.goto (-32), 3) := by decide +kernel
theorem dX12_told_139 : decode cX12_told 139 = .ok (.iload_n 3, 1) := by decide +kernel
theorem dX12_told_140 : decode cX12_told 140 = .ok (.ireturn, 1) := by decide +kernel
theorem dX12_step_0 : decode cX12_step 0 = .ok (.aload_n 0, 1) := by decide +kernel
theorem dX12_step_1 : decode cX12_step 1 = .ok (.iconst 0, 1) := by decide +kernel
theorem dX12_step_2 : decode cX12_step 2 = .ok (.putfield 1, 3) := by decide +kernel
theorem dX12_step_5 : decode cX12_step 5 = .ok (.aload_n 0, 1) := by decide +kernel
theorem dX12_step_6 : decode cX12_step 6 = .ok (.iload_n 1, 1) := by decide +kernel
theorem dX12_step_7 : decode cX12_step 7 = .ok (.invokevirtual 436, 3) := by decide +kernel
theorem dX12_step_10 : decode cX12_step 10 = .ok (.ifCond .ne 5, 3) := by decide +kernel
theorem dX12_step_13 : decode cX12_step 13 = .ok (.iconst 0, 1) := by decide +kernel
theorem dX12_step_14 : decode cX12_step 14 = .ok (.ireturn, 1) := by decide +kernel
theorem dX12_step_15 : decode cX12_step 15 = .ok (.aload_n 0, 1) := by decide +kernel
theorem dX12_step_16 : decode cX12_step 16 = .ok (.iload_n 1, 1) := by decide +kernel
theorem dX12_step_17 : decode cX12_step 17 = .ok (.iload_n 2, 1) := by decide +kernel
theorem dX12_step_18 : decode cX12_step 18 = .ok (.invokevirtual 442, 3) := by decide +kernel
theorem dX12_step_21 : decode cX12_step 21 = .ok (.ifCond .eq 34, 3) := by decide +kernel
theorem dX12_step_24 : decode cX12_step 24 = .ok (.iload_n 3, 1) := by decide +kernel
theorem dX12_step_25 : decode cX12_step 25 = .ok (.iconst 0, 1) := by decide +kernel
theorem dX12_step_26 : decode cX12_step 26 = .ok (.aload_n 0, 1) := by decide +kernel
theorem dX12_step_27 : decode cX12_step 27 = .ok (.getfield 264, 3) := by decide +kernel
theorem dX12_step_30 : decode cX12_step 30 = .ok (.iconst 1, 1) := by decide +kernel
theorem dX12_step_31 : decode cX12_step 31 = .ok (.isub, 1) := by decide +kernel
theorem dX12_step_32 : decode cX12_step 32 = .ok (.invokestatic 267, 3) := by decide +kernel
theorem dX12_step_35 : decode cX12_step 35 = .ok (.ifCond .eq 20, 3) := by decide +kernel
theorem dX12_step_38 : decode cX12_step 38 = .ok (.iload 4, 2) := by decide +kernel
theorem dX12_step_40 : decode cX12_step 40 = .ok (.iconst 0, 1) := by decide +kernel
theorem dX12_step_41 : decode cX12_step 41 = .ok (.aload_n 0, 1) := by decide +kernel
theorem dX12_step_42 : decode cX12_step 42 = .ok (.getfield 13, 3) := by decide +kernel
theorem dX12_step_45 : decode cX12_step 45 = .ok (.iload_n 3, 1) := by decide +kernel
theorem dX12_step_46 : decode cX12_step 46 = .ok (.iaload, 1) := by decide +kernel
theorem dX12_step_47 : decode cX12_step 47 = .ok (.iconst 1, 1) := by decide +kernel
theorem dX12_step_48 : decode cX12_step 48 = .ok (.isub, 1) := by decide +kernel
theorem dX12_step_49 : decode cX12_step 49 = .ok (.invokestatic 267, 3) := by decide +kernel
theorem dX12_step_52 : decode cX12_step 52 = .ok (.ifCond .ne 7, 3) := by decide +kernel
theorem dX12_step_55 : decode cX12_step 55 = .ok (.ldc_w 445, 3) := by decide +kernel
theorem dX12_step_58 : decode cX12_step 58 = .ok (.ireturn, 1) := by decide +kernel
theorem dX12_step_59 : decode cX12_step 59 = .ok (.aload_n 0, 1) := by decide +kernel
theorem dX12_step_60 : decode cX12_step 60 = .ok (.iload_n 1, 1) := by decide +kernel
theorem dX12_step_61 : decode cX12_step 61 = .ok (.iload_n 2, 1) := by decide +kernel
theorem dX12_step_62 : decode cX12_step 62 = .ok (.iload_n 3, 1) := by decide +kernel
theorem dX12_step_63 : decode cX12_step 63 = .ok (.iload 4, 2) := by decide +kernel
theorem dX12_step_65 : decode cX12_step 65 = .ok (.invokevirtual 446, 3) := by decide +kernel
theorem dX12_step_68 : decode cX12_step 68 = .ok (.ireturn, 1) := by decide +kernel
theorem dX12_mouth_0 : decode cX12_mouth 0 = .ok (.aload_n 0, 1) := by decide +kernel
theorem dX12_mouth_1 : decode cX12_mouth 1 = .ok (.iconst 0, 1) := by decide +kernel
theorem dX12_mouth_2 : decode cX12_mouth 2 = .ok (.putfield 1, 3) := by decide +kernel
theorem dX12_mouth_5 : decode cX12_mouth 5 = .ok (.aload_n 0, 1) := by decide +kernel
theorem dX12_mouth_6 : decode cX12_mouth 6 = .ok (.iload_n 1, 1) := by decide +kernel
theorem dX12_mouth_7 : decode cX12_mouth 7 = .ok (.invokevirtual 436, 3) := by decide +kernel
theorem dX12_mouth_10 : decode cX12_mouth 10 = .ok (.ifCond .ne 5, 3) := by decide +kernel
theorem dX12_mouth_13 : decode cX12_mouth 13 = .ok (.iconst 0, 1) := by decide +kernel
theorem dX12_mouth_14 : decode cX12_mouth 14 = .ok (.ireturn, 1) := by decide +kernel
theorem dX12_mouth_15 : decode cX12_mouth 15 = .ok (.aload_n 0, 1) := by decide +kernel
theorem dX12_mouth_16 : decode cX12_mouth 16 = .ok (.iload_n 1, 1) := by decide +kernel
theorem dX12_mouth_17 : decode cX12_mouth 17 = .ok (.iload_n 2, 1) := by decide +kernel
theorem dX12_mouth_18 : decode cX12_mouth 18 = .ok (.invokevirtual 442, 3) := by decide +kernel
theorem dX12_mouth_21 : decode cX12_mouth 21 = .ok (.ifCond .eq 27, 3) := by decide +kernel
theorem dX12_mouth_24 : decode cX12_mouth 24 = .ok (.iload_n 3, 1) := by decide +kernel
theorem dX12_mouth_25 : decode cX12_mouth 25 = .ok (.iconst 0, 1) := by decide +kernel
theorem dX12_mouth_26 : decode cX12_mouth 26 = .ok (.aload_n 0, 1) := by decide +kernel
theorem dX12_mouth_27 : decode cX12_mouth 27 = .ok (.getfield 264, 3) := by decide +kernel
theorem dX12_mouth_30 : decode cX12_mouth 30 = .ok (.iconst 1, 1) := by decide +kernel
theorem dX12_mouth_31 : decode cX12_mouth 31 = .ok (.isub, 1) := by decide +kernel
theorem dX12_mouth_32 : decode cX12_mouth 32 = .ok (.invokestatic 267, 3) := by decide +kernel
theorem dX12_mouth_35 : decode cX12_mouth 35 = .ok (.ifCond .eq 13, 3) := by decide +kernel
theorem dX12_mouth_38 : decode cX12_mouth 38 = .ok (.aload_n 0, 1) := by decide +kernel
theorem dX12_mouth_39 : decode cX12_mouth 39 = .ok (.iload_n 1, 1) := by decide +kernel
theorem dX12_mouth_40 : decode cX12_mouth 40 = .ok (.iload_n 2, 1) := by decide +kernel
theorem dX12_mouth_41 : decode cX12_mouth 41 = .ok (.iload_n 3, 1) := by decide +kernel
theorem dX12_mouth_42 : decode cX12_mouth 42 = .ok (.invokevirtual 449, 3) := by decide +kernel
theorem dX12_mouth_45 : decode cX12_mouth 45 = .ok (.goto 4, 3) := by decide +kernel
theorem dX12_mouth_48 : decode cX12_mouth 48 = .ok (.iconst (-1), 1) := by decide +kernel
theorem dX12_mouth_49 : decode cX12_mouth 49 = .ok (.ireturn, 1) := by decide +kernel
theorem dX12_camera_0 : decode cX12_camera 0 = .ok (.aload_n 0, 1) := by decide +kernel
theorem dX12_camera_1 : decode cX12_camera 1 = .ok (.iconst 0, 1) := by decide +kernel
theorem dX12_camera_2 : decode cX12_camera 2 = .ok (.putfield 1, 3) := by decide +kernel
theorem dX12_camera_5 : decode cX12_camera 5 = .ok (.aload_n 0, 1) := by decide +kernel
theorem dX12_camera_6 : decode cX12_camera 6 = .ok (.iload_n 1, 1) := by decide +kernel
theorem dX12_camera_7 : decode cX12_camera 7 = .ok (.invokevirtual 436, 3) := by decide +kernel
theorem dX12_camera_10 : decode cX12_camera 10 = .ok (.ifCond .ne 5, 3) := by decide +kernel
theorem dX12_camera_13 : decode cX12_camera 13 = .ok (.iconst 0, 1) := by decide +kernel
theorem dX12_camera_14 : decode cX12_camera 14 = .ok (.ireturn, 1) := by decide +kernel
theorem dX12_camera_15 : decode cX12_camera 15 = .ok (.aload_n 0, 1) := by decide +kernel
theorem dX12_camera_16 : decode cX12_camera 16 = .ok (.iload_n 1, 1) := by decide +kernel
theorem dX12_camera_17 : decode cX12_camera 17 = .ok (.iload_n 2, 1) := by decide +kernel
theorem dX12_camera_18 : decode cX12_camera 18 = .ok (.invokevirtual 442, 3) := by decide +kernel
theorem dX12_camera_21 : decode cX12_camera 21 = .ok (.ifCond .eq 29, 3) := by decide +kernel
theorem dX12_camera_24 : decode cX12_camera 24 = .ok (.iload_n 3, 1) := by decide +kernel
theorem dX12_camera_25 : decode cX12_camera 25 = .ok (.iconst 0, 1) := by decide +kernel
theorem dX12_camera_26 : decode cX12_camera 26 = .ok (.iconst 2, 1) := by decide +kernel
theorem dX12_camera_27 : decode cX12_camera 27 = .ok (.invokestatic 267, 3) := by decide +kernel
theorem dX12_camera_30 : decode cX12_camera 30 = .ok (.ifCond .eq 20, 3) := by decide +kernel
theorem dX12_camera_33 : decode cX12_camera 33 = .ok (.aload_n 0, 1) := by decide +kernel
theorem dX12_camera_34 : decode cX12_camera 34 = .ok (.getfield 95, 3) := by decide +kernel
theorem dX12_camera_37 : decode cX12_camera 37 = .ok (.iconst 3, 1) := by decide +kernel
theorem dX12_camera_38 : decode cX12_camera 38 = .ok (.iload_n 1, 1) := by decide +kernel
theorem dX12_camera_39 : decode cX12_camera 39 = .ok (.iload_n 2, 1) := by decide +kernel
theorem dX12_camera_40 : decode cX12_camera 40 = .ok (.invokestatic 404, 3) := by decide +kernel
theorem dX12_camera_43 : decode cX12_camera 43 = .ok (.imul, 1) := by decide +kernel
theorem dX12_camera_44 : decode cX12_camera 44 = .ok (.iload_n 3, 1) := by decide +kernel
theorem dX12_camera_45 : decode cX12_camera 45 = .ok (.iadd, 1) := by decide +kernel
theorem dX12_camera_46 : decode cX12_camera 46 = .ok (.iaload, 1) := by decide +kernel
theorem dX12_camera_47 : decode cX12_camera 47 = .ok (.goto 4, 3) := by decide +kernel
theorem dX12_camera_50 : decode cX12_camera 50 = .ok (.iconst (-1), 1) := by decide +kernel
theorem dX12_camera_51 : decode cX12_camera 51 = .ok (.ireturn, 1) := by decide +kernel
theorem dX12_state_0 : decode cX12_state 0 = .ok (.aload_n 0, 1) := by decide +kernel
theorem dX12_state_1 : decode cX12_state 1 = .ok (.iconst 0, 1) := by decide +kernel
theorem dX12_state_2 : decode cX12_state 2 = .ok (.putfield 1, 3) := by decide +kernel
theorem dX12_state_5 : decode cX12_state 5 = .ok (.aload_n 0, 1) := by decide +kernel
theorem dX12_state_6 : decode cX12_state 6 = .ok (.iload_n 1, 1) := by decide +kernel
theorem dX12_state_7 : decode cX12_state 7 = .ok (.invokevirtual 436, 3) := by decide +kernel
theorem dX12_state_10 : decode cX12_state 10 = .ok (.ifCond .ne 5, 3) := by decide +kernel
theorem dX12_state_13 : decode cX12_state 13 = .ok (.iconst 0, 1) := by decide +kernel
theorem dX12_state_14 : decode cX12_state 14 = .ok (.ireturn, 1) := by decide +kernel
theorem dX12_state_15 : decode cX12_state 15 = .ok (.aload_n 0, 1) := by decide +kernel
theorem dX12_state_16 : decode cX12_state 16 = .ok (.iload_n 1, 1) := by decide +kernel
theorem dX12_state_17 : decode cX12_state 17 = .ok (.iload_n 2, 1) := by decide +kernel
theorem dX12_state_18 : decode cX12_state 18 = .ok (.invokevirtual 442, 3) := by decide +kernel
theorem dX12_state_21 : decode cX12_state 21 = .ok (.ifCond .eq 17, 3) := by decide +kernel
theorem dX12_state_24 : decode cX12_state 24 = .ok (.iload_n 3, 1) := by decide +kernel
theorem dX12_state_25 : decode cX12_state 25 = .ok (.iconst 0, 1) := by decide +kernel
theorem dX12_state_26 : decode cX12_state 26 = .ok (.aload_n 0, 1) := by decide +kernel
theorem dX12_state_27 : decode cX12_state 27 = .ok (.getfield 264, 3) := by decide +kernel
theorem dX12_state_30 : decode cX12_state 30 = .ok (.iconst 1, 1) := by decide +kernel
theorem dX12_state_31 : decode cX12_state 31 = .ok (.isub, 1) := by decide +kernel
theorem dX12_state_32 : decode cX12_state 32 = .ok (.invokestatic 267, 3) := by decide +kernel
theorem dX12_state_35 : decode cX12_state 35 = .ok (.ifCond .ne 5, 3) := by decide +kernel
theorem dX12_state_38 : decode cX12_state 38 = .ok (.iconst (-1), 1) := by decide +kernel
theorem dX12_state_39 : decode cX12_state 39 = .ok (.ireturn, 1) := by decide +kernel
theorem dX12_state_40 : decode cX12_state 40 = .ok (.aload_n 0, 1) := by decide +kernel
theorem dX12_state_41 : decode cX12_state 41 = .ok (.getfield 101, 3) := by decide +kernel
theorem dX12_state_44 : decode cX12_state 44 = .ok (.iload_n 1, 1) := by decide +kernel
theorem dX12_state_45 : decode cX12_state 45 = .ok (.iload_n 2, 1) := by decide +kernel
theorem dX12_state_46 : decode cX12_state 46 = .ok (.invokestatic 404, 3) := by decide +kernel
theorem dX12_state_49 : decode cX12_state 49 = .ok (.iaload, 1) := by decide +kernel
theorem dX12_state_50 : decode cX12_state 50 = .ok (.iload_n 3, 1) := by decide +kernel
theorem dX12_state_51 : decode cX12_state 51 = .ok (.ishr, 1) := by decide +kernel
theorem dX12_state_52 : decode cX12_state 52 = .ok (.iconst 1, 1) := by decide +kernel
theorem dX12_state_53 : decode cX12_state 53 = .ok (.iand, 1) := by decide +kernel
theorem dX12_state_54 : decode cX12_state 54 = .ok (.istore 4, 2) := by decide +kernel
theorem dX12_state_56 : decode cX12_state 56 = .ok (.aload_n 0, 1) := by decide +kernel
theorem dX12_state_57 : decode cX12_state 57 = .ok (.iload_n 1, 1) := by decide +kernel
theorem dX12_state_58 : decode cX12_state 58 = .ok (.iload_n 2, 1) := by decide +kernel
theorem dX12_state_59 : decode cX12_state 59 = .ok (.iload_n 3, 1) := by decide +kernel
theorem dX12_state_60 : decode cX12_state 60 = .ok (.invokevirtual 456, 3) := by decide +kernel
theorem dX12_state_63 : decode cX12_state 63 = .ok (.ifCond .eq 7, 3) := by decide +kernel
theorem dX12_state_66 : decode cX12_state 66 = .ok (.iconst 1, 1) := by decide +kernel
theorem dX12_state_67 : decode cX12_state 67 = .ok (.goto 4, 3) := by decide +kernel
theorem dX12_state_70 : decode cX12_state 70 = .ok (.iconst 0, 1) := by decide +kernel
theorem dX12_state_71 : decode cX12_state 71 = .ok (.iconst 2, 1) := by decide +kernel
theorem dX12_state_72 : decode cX12_state 72 = .ok (.iload 4, 2) := by decide +kernel
theorem dX12_state_74 : decode cX12_state 74 = .ok (.imul, 1) := by decide +kernel
theorem dX12_state_75 : decode cX12_state 75 = .ok (.iadd, 1) := by decide +kernel
theorem dX12_state_76 : decode cX12_state 76 = .ok (.aload_n 0, 1) := by decide +kernel
theorem dX12_state_77 : decode cX12_state 77 = .ok (.iload_n 3, 1) := by decide +kernel
theorem dX12_state_78 : decode cX12_state 78 = .ok (.aload_n 0, 1) := by decide +kernel
theorem dX12_state_79 : decode cX12_state 79 = .ok (.iload_n 1, 1) := by decide +kernel
theorem dX12_state_80 : decode cX12_state 80 = .ok (.iload_n 2, 1) := by decide +kernel
theorem dX12_state_81 : decode cX12_state 81 = .ok (.iload_n 3, 1) := by decide +kernel
theorem dX12_state_82 : decode cX12_state 82 = .ok (.iload_n 3, 1) := by decide +kernel
theorem dX12_state_83 : decode cX12_state 83 = .ok (.invokevirtual 459, 3) := by decide +kernel
theorem dX12_state_86 : decode cX12_state 86 = .ok (.invokevirtual 462, 3) := by decide +kernel
theorem dX12_state_89 : decode cX12_state 89 = .ok (.ifCond .eq 7, 3) := by decide +kernel
theorem dX12_state_92 : decode cX12_state 92 = .ok (.iconst 4, 1) := by decide +kernel
theorem dX12_state_93 : decode cX12_state 93 = .ok (.goto 4, 3) := by decide +kernel
theorem dX12_state_96 : decode cX12_state 96 = .ok (.iconst 0, 1) := by decide +kernel
theorem dX12_state_97 : decode cX12_state 97 = .ok (.iadd, 1) := by decide +kernel
theorem dX12_state_98 : decode cX12_state 98 = .ok (.ireturn, 1) := by decide +kernel
theorem dX12_lean_0 : decode cX12_lean 0 = .ok (.aload_n 0, 1) := by decide +kernel
theorem dX12_lean_1 : decode cX12_lean 1 = .ok (.iconst 0, 1) := by decide +kernel
theorem dX12_lean_2 : decode cX12_lean 2 = .ok (.putfield 1, 3) := by decide +kernel
theorem dX12_lean_5 : decode cX12_lean 5 = .ok (.aload_n 0, 1) := by decide +kernel
theorem dX12_lean_6 : decode cX12_lean 6 = .ok (.iload_n 1, 1) := by decide +kernel
theorem dX12_lean_7 : decode cX12_lean 7 = .ok (.invokevirtual 436, 3) := by decide +kernel
theorem dX12_lean_10 : decode cX12_lean 10 = .ok (.ifCond .ne 5, 3) := by decide +kernel
theorem dX12_lean_13 : decode cX12_lean 13 = .ok (.iconst 0, 1) := by decide +kernel
theorem dX12_lean_14 : decode cX12_lean 14 = .ok (.ireturn, 1) := by decide +kernel
theorem dX12_lean_15 : decode cX12_lean 15 = .ok (.aload_n 0, 1) := by decide +kernel
theorem dX12_lean_16 : decode cX12_lean 16 = .ok (.iload_n 1, 1) := by decide +kernel
theorem dX12_lean_17 : decode cX12_lean 17 = .ok (.iload_n 2, 1) := by decide +kernel
theorem dX12_lean_18 : decode cX12_lean 18 = .ok (.invokevirtual 442, 3) := by decide +kernel
theorem dX12_lean_21 : decode cX12_lean 21 = .ok (.ifCond .eq 28, 3) := by decide +kernel
theorem dX12_lean_24 : decode cX12_lean 24 = .ok (.iload_n 3, 1) := by decide +kernel
theorem dX12_lean_25 : decode cX12_lean 25 = .ok (.iconst 0, 1) := by decide +kernel
theorem dX12_lean_26 : decode cX12_lean 26 = .ok (.aload_n 0, 1) := by decide +kernel
theorem dX12_lean_27 : decode cX12_lean 27 = .ok (.getfield 264, 3) := by decide +kernel
theorem dX12_lean_30 : decode cX12_lean 30 = .ok (.iconst 1, 1) := by decide +kernel
theorem dX12_lean_31 : decode cX12_lean 31 = .ok (.isub, 1) := by decide +kernel
theorem dX12_lean_32 : decode cX12_lean 32 = .ok (.invokestatic 267, 3) := by decide +kernel
theorem dX12_lean_35 : decode cX12_lean 35 = .ok (.ifCond .eq 14, 3) := by decide +kernel
theorem dX12_lean_38 : decode cX12_lean 38 = .ok (.aload_n 0, 1) := by decide +kernel
theorem dX12_lean_39 : decode cX12_lean 39 = .ok (.iload_n 1, 1) := by decide +kernel
theorem dX12_lean_40 : decode cX12_lean 40 = .ok (.iload_n 2, 1) := by decide +kernel
theorem dX12_lean_41 : decode cX12_lean 41 = .ok (.iload_n 3, 1) := by decide +kernel
theorem dX12_lean_42 : decode cX12_lean 42 = .ok (.iload_n 3, 1) := by decide +kernel
theorem dX12_lean_43 : decode cX12_lean 43 = .ok (.invokevirtual 459, 3) := by decide +kernel
theorem dX12_lean_46 : decode cX12_lean 46 = .ok (.goto 6, 3) := by decide +kernel
theorem dX12_lean_49 : decode cX12_lean 49 = .ok (.ldc_w 445, 3) := by decide +kernel
theorem dX12_lean_52 : decode cX12_lean 52 = .ok (.ireturn, 1) := by decide +kernel
theorem dX12_breach_0 : decode cX12_breach 0 = .ok (.aload_n 0, 1) := by decide +kernel
theorem dX12_breach_1 : decode cX12_breach 1 = .ok (.iconst 0, 1) := by decide +kernel
theorem dX12_breach_2 : decode cX12_breach 2 = .ok (.putfield 1, 3) := by decide +kernel
theorem dX12_breach_5 : decode cX12_breach 5 = .ok (.aload_n 0, 1) := by decide +kernel
theorem dX12_breach_6 : decode cX12_breach 6 = .ok (.iload_n 1, 1) := by decide +kernel
theorem dX12_breach_7 : decode cX12_breach 7 = .ok (.invokevirtual 436, 3) := by decide +kernel
theorem dX12_breach_10 : decode cX12_breach 10 = .ok (.ifCond .eq 17, 3) := by decide +kernel
theorem dX12_breach_13 : decode cX12_breach 13 = .ok (.aload_n 0, 1) := by decide +kernel
theorem dX12_breach_14 : decode cX12_breach 14 = .ok (.iload_n 2, 1) := by decide +kernel
theorem dX12_breach_15 : decode cX12_breach 15 = .ok (.iconst 0, 1) := by decide +kernel
theorem dX12_breach_16 : decode cX12_breach 16 = .ok (.iconst 2, 1) := by decide +kernel
theorem dX12_breach_17 : decode cX12_breach 17 = .ok (.invokestatic 267, 3) := by decide +kernel
theorem dX12_breach_20 : decode cX12_breach 20 = .ok (.iconst 2, 1) := by decide +kernel
theorem dX12_breach_21 : decode cX12_breach 21 = .ok (.invokevirtual 271, 3) := by decide +kernel
theorem dX12_breach_24 : decode cX12_breach 24 = .ok (.ifCond .ne 5, 3) := by decide +kernel
theorem dX12_breach_27 : decode cX12_breach 27 = .ok (.iconst 0, 1) := by decide +kernel
theorem dX12_breach_28 : decode cX12_breach 28 = .ok (.ireturn, 1) := by decide +kernel
theorem dX12_breach_29 : decode cX12_breach 29 = .ok (.iconst 0, 1) := by decide +kernel
theorem dX12_breach_30 : decode cX12_breach 30 = .ok (.istore_n 3, 1) := by decide +kernel
theorem dX12_breach_31 : decode cX12_breach 31 = .ok (.iload_n 3, 1) := by decide +kernel
theorem dX12_breach_32 : decode cX12_breach 32 = .ok (.aload_n 0, 1) := by decide +kernel
theorem dX12_breach_33 : decode cX12_breach 33 = .ok (.getfield 104, 3) := by decide +kernel
theorem dX12_breach_36 : decode cX12_breach 36 = .ok (.iload_n 1, 1) := by decide +kernel
theorem dX12_breach_37 : decode cX12_breach 37 = .ok (.iaload, 1) := by decide +kernel
theorem dX12_breach_38 : decode cX12_breach 38 = .ok (.if_icmp .ge 114, 3) := by decide +kernel
theorem dX12_breach_41 : decode cX12_breach 41 = .ok (.iconst 0, 1) := by decide +kernel
theorem dX12_breach_42 : decode cX12_breach 42 = .ok (.istore 4, 2) := by decide +kernel
theorem dX12_breach_44 : decode cX12_breach 44 = .ok (.iload 4, 2) := by decide +kernel
theorem dX12_breach_46 : decode cX12_breach 46 = .ok (.aload_n 0, 1) := by decide +kernel
theorem dX12_breach_47 : decode cX12_breach 47 = .ok (.getfield 264, 3) := by decide +kernel
theorem dX12_breach_50 : decode cX12_breach 50 = .ok (.if_icmp .ge 96, 3) := by decide +kernel
theorem dX12_breach_53 : decode cX12_breach 53 = .ok (.iconst 0, 1) := by decide +kernel
theorem dX12_breach_54 : decode cX12_breach 54 = .ok (.istore 5, 2) := by decide +kernel
theorem dX12_breach_56 : decode cX12_breach 56 = .ok (.iload 5, 2) := by decide +kernel
theorem dX12_breach_58 : decode cX12_breach 58 = .ok (.aload_n 0, 1) := by decide +kernel
theorem dX12_breach_59 : decode cX12_breach 59 = .ok (.getfield 13, 3) := by decide +kernel
theorem dX12_breach_62 : decode cX12_breach 62 = .ok (.iload 4, 2) := by decide +kernel
theorem dX12_breach_64 : decode cX12_breach 64 = .ok (.iaload, 1) := by decide +kernel
theorem dX12_breach_65 : decode cX12_breach 65 = .ok (.if_icmp .ge 75, 3) := by decide +kernel
theorem dX12_breach_68 : decode cX12_breach 68 = .ok (.aload_n 0, 1) := by decide +kernel
theorem dX12_breach_69 : decode cX12_breach 69 = .ok (.iload_n 1, 1) := by decide +kernel
theorem dX12_breach_70 : decode cX12_breach 70 = .ok (.iload_n 3, 1) := by decide +kernel
theorem dX12_breach_71 : decode cX12_breach 71 = .ok (.iload 4, 2) := by decide +kernel
theorem dX12_breach_73 : decode cX12_breach 73 = .ok (.iload 5, 2) := by decide +kernel
theorem dX12_breach_75 : decode cX12_breach 75 = .ok (.invokevirtual 446, 3) := by decide +kernel
theorem dX12_breach_78 : decode cX12_breach 78 = .ok (.aload_n 0, 1) := by decide +kernel
theorem dX12_breach_79 : decode cX12_breach 79 = .ok (.getfield 20, 3) := by decide +kernel
theorem dX12_breach_82 : decode cX12_breach 82 = .ok (.bipush 12, 2) := by decide +kernel
theorem dX12_breach_84 : decode cX12_breach 84 = .ok (.iload 4, 2) := by decide +kernel
theorem dX12_breach_86 : decode cX12_breach 86 = .ok (.imul, 1) := by decide +kernel
theorem dX12_breach_87 : decode cX12_breach 87 = .ok (.iload 5, 2) := by decide +kernel
theorem dX12_breach_89 : decode cX12_breach 89 = .ok (.iadd, 1) := by decide +kernel
theorem dX12_breach_90 : decode cX12_breach 90 = .ok (.iaload, 1) := by decide +kernel
theorem dX12_breach_91 : decode cX12_breach 91 = .ok (.aload_n 0, 1) := by decide +kernel
theorem dX12_breach_92 : decode cX12_breach 92 = .ok (.getfield 23, 3) := by decide +kernel
theorem dX12_breach_95 : decode cX12_breach 95 = .ok (.bipush 12, 2) := by decide +kernel
theorem dX12_breach_97 : decode cX12_breach 97 = .ok (.iload 4, 2) := by decide +kernel
theorem dX12_breach_99 : decode cX12_breach 99 = .ok (.imul, 1) := by decide +kernel
theorem dX12_breach_100 : decode cX12_breach 100 = .ok (.iload 5, 2) := by decide +kernel
theorem dX12_breach_102 : decode cX12_breach 102 = .ok (.iadd, 1) := by decide +kernel
theorem dX12_breach_103 : decode cX12_breach 103 = .ok (.iaload, 1) := by decide +kernel
theorem dX12_breach_104 : decode cX12_breach 104 = .ok (.invokestatic 267, 3) := by decide +kernel
theorem dX12_breach_107 : decode cX12_breach 107 = .ok (.ifCond .eq 6, 3) := by decide +kernel
theorem dX12_breach_110 : decode cX12_breach 110 = .ok (.goto 24, 3) := by decide +kernel
theorem dX12_breach_113 : decode cX12_breach 113 = .ok (.iload_n 2, 1) := by decide +kernel
theorem dX12_breach_114 : decode cX12_breach 114 = .ok (.ifCond .ne 7, 3) := by decide +kernel
theorem dX12_breach_117 : decode cX12_breach 117 = .ok (.iload_n 3, 1) := by decide +kernel
theorem dX12_breach_118 : decode cX12_breach 118 = .ok (.goto 15, 3) := by decide +kernel
theorem dX12_breach_121 : decode cX12_breach 121 = .ok (.iload_n 2, 1) := by decide +kernel
theorem dX12_breach_122 : decode cX12_breach 122 = .ok (.iconst 1, 1) := by decide +kernel
theorem dX12_breach_123 : decode cX12_breach 123 = .ok (.if_icmp .ne 8, 3) := by decide +kernel
theorem dX12_breach_126 : decode cX12_breach 126 = .ok (.iload 4, 2) := by decide +kernel
theorem dX12_breach_128 : decode cX12_breach 128 = .ok (.goto 5, 3) := by decide +kernel
theorem dX12_breach_131 : decode cX12_breach 131 = .ok (.iload 5, 2) := by decide +kernel
theorem dX12_breach_133 : decode cX12_breach 133 = .ok (.ireturn, 1) := by decide +kernel
theorem dX12_breach_134 : decode cX12_breach 134 = .ok (.iinc 5 1, 3) := by decide +kernel
theorem dX12_breach_137 : decode cX12_breach 137 = .ok (.goto (-81), 3) := by decide +kernel
theorem dX12_breach_140 : decode cX12_breach 140 = .ok (.iinc 4 1, 3) := by decide +kernel
theorem dX12_breach_143 : decode cX12_breach 143 = .ok (.goto (-99), 3) := by decide +kernel
theorem dX12_breach_146 : decode cX12_breach 146 = .ok (.iinc 3 1, 3) := by decide +kernel
theorem dX12_breach_149 : decode cX12_breach 149 = .ok (.goto (-118), 3) := by decide +kernel
theorem dX12_breach_152 : decode cX12_breach 152 = .ok (.iconst (-1), 1) := by decide +kernel
theorem dX12_breach_153 : decode cX12_breach 153 = .ok (.ireturn, 1) := by decide +kernel
theorem dX12_fall_0 : decode cX12_fall 0 = .ok (.aload_n 0, 1) := by decide +kernel
theorem dX12_fall_1 : decode cX12_fall 1 = .ok (.iconst 0, 1) := by decide +kernel
theorem dX12_fall_2 : decode cX12_fall 2 = .ok (.putfield 1, 3) := by decide +kernel
theorem dX12_fall_5 : decode cX12_fall 5 = .ok (.aload_n 0, 1) := by decide +kernel
theorem dX12_fall_6 : decode cX12_fall 6 = .ok (.iload_n 1, 1) := by decide +kernel
theorem dX12_fall_7 : decode cX12_fall 7 = .ok (.invokevirtual 436, 3) := by decide +kernel
theorem dX12_fall_10 : decode cX12_fall 10 = .ok (.ifCond .eq 17, 3) := by decide +kernel
theorem dX12_fall_13 : decode cX12_fall 13 = .ok (.aload_n 0, 1) := by decide +kernel
theorem dX12_fall_14 : decode cX12_fall 14 = .ok (.iload_n 2, 1) := by decide +kernel
theorem dX12_fall_15 : decode cX12_fall 15 = .ok (.iconst 0, 1) := by decide +kernel
theorem dX12_fall_16 : decode cX12_fall 16 = .ok (.iconst 1, 1) := by decide +kernel
theorem dX12_fall_17 : decode cX12_fall 17 = .ok (.invokestatic 267, 3) := by decide +kernel
theorem dX12_fall_20 : decode cX12_fall 20 = .ok (.iconst 2, 1) := by decide +kernel
theorem dX12_fall_21 : decode cX12_fall 21 = .ok (.invokevirtual 271, 3) := by decide +kernel
theorem dX12_fall_24 : decode cX12_fall 24 = .ok (.ifCond .ne 5, 3) := by decide +kernel
theorem dX12_fall_27 : decode cX12_fall 27 = .ok (.iconst 0, 1) := by decide +kernel
theorem dX12_fall_28 : decode cX12_fall 28 = .ok (.ireturn, 1) := by decide +kernel
theorem dX12_fall_29 : decode cX12_fall 29 = .ok (.iconst 0, 1) := by decide +kernel
theorem dX12_fall_30 : decode cX12_fall 30 = .ok (.istore_n 3, 1) := by decide +kernel
theorem dX12_fall_31 : decode cX12_fall 31 = .ok (.iload_n 3, 1) := by decide +kernel
theorem dX12_fall_32 : decode cX12_fall 32 = .ok (.aload_n 0, 1) := by decide +kernel
theorem dX12_fall_33 : decode cX12_fall 33 = .ok (.getfield 104, 3) := by decide +kernel
theorem dX12_fall_36 : decode cX12_fall 36 = .ok (.iload_n 1, 1) := by decide +kernel
theorem dX12_fall_37 : decode cX12_fall 37 = .ok (.iaload, 1) := by decide +kernel
theorem dX12_fall_38 : decode cX12_fall 38 = .ok (.if_icmp .ge 85, 3) := by decide +kernel
theorem dX12_fall_41 : decode cX12_fall 41 = .ok (.iconst 0, 1) := by decide +kernel
theorem dX12_fall_42 : decode cX12_fall 42 = .ok (.istore 4, 2) := by decide +kernel
theorem dX12_fall_44 : decode cX12_fall 44 = .ok (.iload 4, 2) := by decide +kernel
theorem dX12_fall_46 : decode cX12_fall 46 = .ok (.aload_n 0, 1) := by decide +kernel
theorem dX12_fall_47 : decode cX12_fall 47 = .ok (.getfield 264, 3) := by decide +kernel
theorem dX12_fall_50 : decode cX12_fall 50 = .ok (.if_icmp .ge 67, 3) := by decide +kernel
theorem dX12_fall_53 : decode cX12_fall 53 = .ok (.aload_n 0, 1) := by decide +kernel
theorem dX12_fall_54 : decode cX12_fall 54 = .ok (.getfield 107, 3) := by decide +kernel
theorem dX12_fall_57 : decode cX12_fall 57 = .ok (.iload_n 1, 1) := by decide +kernel
theorem dX12_fall_58 : decode cX12_fall 58 = .ok (.iaload, 1) := by decide +kernel
theorem dX12_fall_59 : decode cX12_fall 59 = .ok (.iload 4, 2) := by decide +kernel
theorem dX12_fall_61 : decode cX12_fall 61 = .ok (.ishr, 1) := by decide +kernel
theorem dX12_fall_62 : decode cX12_fall 62 = .ok (.iconst 1, 1) := by decide +kernel
theorem dX12_fall_63 : decode cX12_fall 63 = .ok (.iand, 1) := by decide +kernel
theorem dX12_fall_64 : decode cX12_fall 64 = .ok (.ifCond .eq 47, 3) := by decide +kernel
theorem dX12_fall_67 : decode cX12_fall 67 = .ok (.aload_n 0, 1) := by decide +kernel
theorem dX12_fall_68 : decode cX12_fall 68 = .ok (.iload_n 1, 1) := by decide +kernel
theorem dX12_fall_69 : decode cX12_fall 69 = .ok (.iload_n 3, 1) := by decide +kernel
theorem dX12_fall_70 : decode cX12_fall 70 = .ok (.iload 4, 2) := by decide +kernel
theorem dX12_fall_72 : decode cX12_fall 72 = .ok (.invokevirtual 456, 3) := by decide +kernel
theorem dX12_fall_75 : decode cX12_fall 75 = .ok (.ifCond .ne 36, 3) := by decide +kernel
theorem dX12_fall_78 : decode cX12_fall 78 = .ok (.aload_n 0, 1) := by decide +kernel
theorem dX12_fall_79 : decode cX12_fall 79 = .ok (.iload 4, 2) := by decide +kernel
theorem dX12_fall_81 : decode cX12_fall 81 = .ok (.aload_n 0, 1) := by decide +kernel
theorem dX12_fall_82 : decode cX12_fall 82 = .ok (.iload_n 1, 1) := by decide +kernel
theorem dX12_fall_83 : decode cX12_fall 83 = .ok (.iload_n 3, 1) := by decide +kernel
theorem dX12_fall_84 : decode cX12_fall 84 = .ok (.iload 4, 2) := by decide +kernel
theorem dX12_fall_86 : decode cX12_fall 86 = .ok (.iload 4, 2) := by decide +kernel
theorem dX12_fall_88 : decode cX12_fall 88 = .ok (.invokevirtual 459, 3) := by decide +kernel
theorem dX12_fall_91 : decode cX12_fall 91 = .ok (.invokevirtual 462, 3) := by decide +kernel
theorem dX12_fall_94 : decode cX12_fall 94 = .ok (.ifCond .eq 6, 3) := by decide +kernel
theorem dX12_fall_97 : decode cX12_fall 97 = .ok (.goto 14, 3) := by decide +kernel
theorem dX12_fall_100 : decode cX12_fall 100 = .ok (.iload_n 2, 1) := by decide +kernel
theorem dX12_fall_101 : decode cX12_fall 101 = .ok (.ifCond .ne 7, 3) := by decide +kernel
theorem dX12_fall_104 : decode cX12_fall 104 = .ok (.iload_n 3, 1) := by decide +kernel
theorem dX12_fall_105 : decode cX12_fall 105 = .ok (.goto 5, 3) := by decide +kernel
theorem dX12_fall_108 : decode cX12_fall 108 = .ok (.iload 4, 2) := by decide +kernel
theorem dX12_fall_110 : decode cX12_fall 110 = .ok (.ireturn, 1) := by decide +kernel
theorem dX12_fall_111 : decode cX12_fall 111 = .ok (.iinc 4 1, 3) := by decide +kernel
theorem dX12_fall_114 : decode cX12_fall 114 = .ok (.goto (-70), 3) := by decide +kernel
theorem dX12_fall_117 : decode cX12_fall 117 = .ok (.iinc 3 1, 3) := by decide +kernel
theorem dX12_fall_120 : decode cX12_fall 120 = .ok (.goto (-89), 3) := by decide +kernel
theorem dX12_fall_123 : decode cX12_fall 123 = .ok (.iconst (-1), 1) := by decide +kernel
theorem dX12_fall_124 : decode cX12_fall 124 = .ok (.ireturn, 1) := by decide +kernel
theorem dX12_alike_0 : decode cX12_alike 0 = .ok (.aload_n 0, 1) := by decide +kernel
theorem dX12_alike_1 : decode cX12_alike 1 = .ok (.iconst 0, 1) := by decide +kernel
theorem dX12_alike_2 : decode cX12_alike 2 = .ok (.putfield 1, 3) := by decide +kernel
theorem dX12_alike_5 : decode cX12_alike 5 = .ok (.aload_n 0, 1) := by decide +kernel
theorem dX12_alike_6 : decode cX12_alike 6 = .ok (.iload_n 1, 1) := by decide +kernel
theorem dX12_alike_7 : decode cX12_alike 7 = .ok (.invokevirtual 436, 3) := by decide +kernel
theorem dX12_alike_10 : decode cX12_alike 10 = .ok (.ifCond .eq 34, 3) := by decide +kernel
theorem dX12_alike_13 : decode cX12_alike 13 = .ok (.aload_n 0, 1) := by decide +kernel
theorem dX12_alike_14 : decode cX12_alike 14 = .ok (.aload_n 0, 1) := by decide +kernel
theorem dX12_alike_15 : decode cX12_alike 15 = .ok (.iload_n 1, 1) := by decide +kernel
theorem dX12_alike_16 : decode cX12_alike 16 = .ok (.iload_n 2, 1) := by decide +kernel
theorem dX12_alike_17 : decode cX12_alike 17 = .ok (.invokevirtual 442, 3) := by decide +kernel
theorem dX12_alike_20 : decode cX12_alike 20 = .ok (.ifCond .eq 16, 3) := by decide +kernel
theorem dX12_alike_23 : decode cX12_alike 23 = .ok (.aload_n 0, 1) := by decide +kernel
theorem dX12_alike_24 : decode cX12_alike 24 = .ok (.iload_n 1, 1) := by decide +kernel
theorem dX12_alike_25 : decode cX12_alike 25 = .ok (.iload_n 3, 1) := by decide +kernel
theorem dX12_alike_26 : decode cX12_alike 26 = .ok (.invokevirtual 442, 3) := by decide +kernel
theorem dX12_alike_29 : decode cX12_alike 29 = .ok (.ifCond .eq 7, 3) := by decide +kernel
theorem dX12_alike_32 : decode cX12_alike 32 = .ok (.iconst 1, 1) := by decide +kernel
theorem dX12_alike_33 : decode cX12_alike 33 = .ok (.goto 4, 3) := by decide +kernel
theorem dX12_alike_36 : decode cX12_alike 36 = .ok (.iconst 0, 1) := by decide +kernel
theorem dX12_alike_37 : decode cX12_alike 37 = .ok (.iconst 2, 1) := by decide +kernel
theorem dX12_alike_38 : decode cX12_alike 38 = .ok (.invokevirtual 271, 3) := by decide +kernel
theorem dX12_alike_41 : decode cX12_alike 41 = .ok (.ifCond .ne 5, 3) := by decide +kernel
theorem dX12_alike_44 : decode cX12_alike 44 = .ok (.iconst 0, 1) := by decide +kernel
theorem dX12_alike_45 : decode cX12_alike 45 = .ok (.ireturn, 1) := by decide +kernel
theorem dX12_alike_46 : decode cX12_alike 46 = .ok (.aload_n 0, 1) := by decide +kernel
theorem dX12_alike_47 : decode cX12_alike 47 = .ok (.iload_n 1, 1) := by decide +kernel
theorem dX12_alike_48 : decode cX12_alike 48 = .ok (.iload_n 2, 1) := by decide +kernel
theorem dX12_alike_49 : decode cX12_alike 49 = .ok (.iload_n 3, 1) := by decide +kernel
theorem dX12_alike_50 : decode cX12_alike 50 = .ok (.invokevirtual 465, 3) := by decide +kernel
theorem dX12_alike_53 : decode cX12_alike 53 = .ok (.ireturn, 1) := by decide +kernel
theorem dX12_swap_0 : decode cX12_swap 0 = .ok (.aload_n 0, 1) := by decide +kernel
theorem dX12_swap_1 : decode cX12_swap 1 = .ok (.iconst 0, 1) := by decide +kernel
theorem dX12_swap_2 : decode cX12_swap 2 = .ok (.putfield 1, 3) := by decide +kernel
theorem dX12_swap_5 : decode cX12_swap 5 = .ok (.aload_n 0, 1) := by decide +kernel
theorem dX12_swap_6 : decode cX12_swap 6 = .ok (.iload_n 1, 1) := by decide +kernel
theorem dX12_swap_7 : decode cX12_swap 7 = .ok (.invokevirtual 436, 3) := by decide +kernel
theorem dX12_swap_10 : decode cX12_swap 10 = .ok (.ifCond .eq 21, 3) := by decide +kernel
theorem dX12_swap_13 : decode cX12_swap 13 = .ok (.aload_n 0, 1) := by decide +kernel
theorem dX12_swap_14 : decode cX12_swap 14 = .ok (.iload_n 2, 1) := by decide +kernel
theorem dX12_swap_15 : decode cX12_swap 15 = .ok (.iconst 2, 1) := by decide +kernel
theorem dX12_swap_16 : decode cX12_swap 16 = .ok (.invokevirtual 275, 3) := by decide +kernel
theorem dX12_swap_19 : decode cX12_swap 19 = .ok (.ifCond .eq 12, 3) := by decide +kernel
theorem dX12_swap_22 : decode cX12_swap 22 = .ok (.aload_n 0, 1) := by decide +kernel
theorem dX12_swap_23 : decode cX12_swap 23 = .ok (.iload_n 3, 1) := by decide +kernel
theorem dX12_swap_24 : decode cX12_swap 24 = .ok (.iconst 2, 1) := by decide +kernel
theorem dX12_swap_25 : decode cX12_swap 25 = .ok (.invokevirtual 275, 3) := by decide +kernel
theorem dX12_swap_28 : decode cX12_swap 28 = .ok (.ifCond .ne 5, 3) := by decide +kernel
theorem dX12_swap_31 : decode cX12_swap 31 = .ok (.iconst 0, 1) := by decide +kernel
theorem dX12_swap_32 : decode cX12_swap 32 = .ok (.ireturn, 1) := by decide +kernel
theorem dX12_swap_33 : decode cX12_swap 33 = .ok (.aload_n 0, 1) := by decide +kernel
theorem dX12_swap_34 : decode cX12_swap 34 = .ok (.getfield 107, 3) := by decide +kernel
theorem dX12_swap_37 : decode cX12_swap 37 = .ok (.iload_n 1, 1) := by decide +kernel
theorem dX12_swap_38 : decode cX12_swap 38 = .ok (.iaload, 1) := by decide +kernel
theorem dX12_swap_39 : decode cX12_swap 39 = .ok (.iload_n 2, 1) := by decide +kernel
theorem dX12_swap_40 : decode cX12_swap 40 = .ok (.ishr, 1) := by decide +kernel
theorem dX12_swap_41 : decode cX12_swap 41 = .ok (.iconst 1, 1) := by decide +kernel
theorem dX12_swap_42 : decode cX12_swap 42 = .ok (.iand, 1) := by decide +kernel
theorem dX12_swap_43 : decode cX12_swap 43 = .ok (.ifCond .ne 5, 3) := by decide +kernel
theorem dX12_swap_46 : decode cX12_swap 46 = .ok (.iconst (-1), 1) := by decide +kernel
theorem dX12_swap_47 : decode cX12_swap 47 = .ok (.ireturn, 1) := by decide +kernel
theorem dX12_swap_48 : decode cX12_swap 48 = .ok (.aload_n 0, 1) := by decide +kernel
theorem dX12_swap_49 : decode cX12_swap 49 = .ok (.getfield 107, 3) := by decide +kernel
theorem dX12_swap_52 : decode cX12_swap 52 = .ok (.iload_n 1, 1) := by decide +kernel
theorem dX12_swap_53 : decode cX12_swap 53 = .ok (.iaload, 1) := by decide +kernel
theorem dX12_swap_54 : decode cX12_swap 54 = .ok (.iload_n 3, 1) := by decide +kernel
theorem dX12_swap_55 : decode cX12_swap 55 = .ok (.ishr, 1) := by decide +kernel
theorem dX12_swap_56 : decode cX12_swap 56 = .ok (.iconst 1, 1) := by decide +kernel
theorem dX12_swap_57 : decode cX12_swap 57 = .ok (.iand, 1) := by decide +kernel
theorem dX12_swap_58 : decode cX12_swap 58 = .ok (.iconst 1, 1) := by decide +kernel
theorem dX12_swap_59 : decode cX12_swap 59 = .ok (.if_icmp .ne 6, 3) := by decide +kernel
theorem dX12_swap_62 : decode cX12_swap 62 = .ok (.bipush (-2), 2) := by decide +kernel
theorem dX12_swap_64 : decode cX12_swap 64 = .ok (.ireturn, 1) := by decide +kernel
theorem dX12_swap_65 : decode cX12_swap 65 = .ok (.aload_n 0, 1) := by decide +kernel
theorem dX12_swap_66 : decode cX12_swap 66 = .ok (.iload_n 2, 1) := by decide +kernel
theorem dX12_swap_67 : decode cX12_swap 67 = .ok (.iload_n 3, 1) := by decide +kernel
theorem dX12_swap_68 : decode cX12_swap 68 = .ok (.invokevirtual 468, 3) := by decide +kernel
theorem dX12_swap_71 : decode cX12_swap 71 = .ok (.ifCond .ne 6, 3) := by decide +kernel
theorem dX12_swap_74 : decode cX12_swap 74 = .ok (.bipush (-3), 2) := by decide +kernel
theorem dX12_swap_76 : decode cX12_swap 76 = .ok (.ireturn, 1) := by decide +kernel
theorem dX12_swap_77 : decode cX12_swap 77 = .ok (.iconst 1, 1) := by decide +kernel
theorem dX12_swap_78 : decode cX12_swap 78 = .ok (.istore 4, 2) := by decide +kernel
theorem dX12_swap_80 : decode cX12_swap 80 = .ok (.iconst 1, 1) := by decide +kernel
theorem dX12_swap_81 : decode cX12_swap 81 = .ok (.istore 5, 2) := by decide +kernel
theorem dX12_swap_83 : decode cX12_swap 83 = .ok (.iconst 0, 1) := by decide +kernel
theorem dX12_swap_84 : decode cX12_swap 84 = .ok (.istore 6, 2) := by decide +kernel
theorem dX12_swap_86 : decode cX12_swap 86 = .ok (.iload 6, 2) := by decide +kernel
theorem dX12_swap_88 : decode cX12_swap 88 = .ok (.aload_n 0, 1) := by decide +kernel
theorem dX12_swap_89 : decode cX12_swap 89 = .ok (.getfield 104, 3) := by decide +kernel
theorem dX12_swap_92 : decode cX12_swap 92 = .ok (.iload_n 1, 1) := by decide +kernel
theorem dX12_swap_93 : decode cX12_swap 93 = .ok (.iaload, 1) := by decide +kernel
theorem dX12_swap_94 : decode cX12_swap 94 = .ok (.if_icmp .ge 121, 3) := by decide +kernel
theorem dX12_swap_97 : decode cX12_swap 97 = .ok (.iconst 0, 1) := by decide +kernel
theorem dX12_swap_98 : decode cX12_swap 98 = .ok (.istore 7, 2) := by decide +kernel
theorem dX12_swap_100 : decode cX12_swap 100 = .ok (.iload 7, 2) := by decide +kernel
theorem dX12_swap_102 : decode cX12_swap 102 = .ok (.aload_n 0, 1) := by decide +kernel
theorem dX12_swap_103 : decode cX12_swap 103 = .ok (.getfield 13, 3) := by decide +kernel
theorem dX12_swap_106 : decode cX12_swap 106 = .ok (.iload_n 2, 1) := by decide +kernel
theorem dX12_swap_107 : decode cX12_swap 107 = .ok (.iaload, 1) := by decide +kernel
theorem dX12_swap_108 : decode cX12_swap 108 = .ok (.if_icmp .ge 61, 3) := by decide +kernel
theorem dX12_swap_111 : decode cX12_swap 111 = .ok (.iload 4, 2) := by decide +kernel
theorem dX12_swap_113 : decode cX12_swap 113 = .ok (.ifCond .eq 47, 3) := by decide +kernel
theorem dX12_swap_116 : decode cX12_swap 116 = .ok (.aload_n 0, 1) := by decide +kernel
theorem dX12_swap_117 : decode cX12_swap 117 = .ok (.iload_n 1, 1) := by decide +kernel
theorem dX12_swap_118 : decode cX12_swap 118 = .ok (.iload 6, 2) := by decide +kernel
theorem dX12_swap_120 : decode cX12_swap 120 = .ok (.iload_n 2, 1) := by decide +kernel
theorem dX12_swap_121 : decode cX12_swap 121 = .ok (.iload 7, 2) := by decide +kernel
theorem dX12_swap_123 : decode cX12_swap 123 = .ok (.invokevirtual 446, 3) := by decide +kernel
theorem dX12_swap_126 : decode cX12_swap 126 = .ok (.aload_n 0, 1) := by decide +kernel
theorem dX12_swap_127 : decode cX12_swap 127 = .ok (.getfield 20, 3) := by decide +kernel
theorem dX12_swap_130 : decode cX12_swap 130 = .ok (.bipush 12, 2) := by decide +kernel
theorem dX12_swap_132 : decode cX12_swap 132 = .ok (.iload_n 3, 1) := by decide +kernel
theorem dX12_swap_133 : decode cX12_swap 133 = .ok (.imul, 1) := by decide +kernel
theorem dX12_swap_134 : decode cX12_swap 134 = .ok (.iload 7, 2) := by decide +kernel
theorem dX12_swap_136 : decode cX12_swap 136 = .ok (.iadd, 1) := by decide +kernel
theorem dX12_swap_137 : decode cX12_swap 137 = .ok (.iaload, 1) := by decide +kernel
theorem dX12_swap_138 : decode cX12_swap 138 = .ok (.aload_n 0, 1) := by decide +kernel
theorem dX12_swap_139 : decode cX12_swap 139 = .ok (.getfield 23, 3) := by decide +kernel
theorem dX12_swap_142 : decode cX12_swap 142 = .ok (.bipush 12, 2) := by decide +kernel
theorem dX12_swap_144 : decode cX12_swap 144 = .ok (.iload_n 3, 1) := by decide +kernel
theorem dX12_swap_145 : decode cX12_swap 145 = .ok (.imul, 1) := by decide +kernel
theorem dX12_swap_146 : decode cX12_swap 146 = .ok (.iload 7, 2) := by decide +kernel
theorem dX12_swap_148 : decode cX12_swap 148 = .ok (.iadd, 1) := by decide +kernel
theorem dX12_swap_149 : decode cX12_swap 149 = .ok (.iaload, 1) := by decide +kernel
theorem dX12_swap_150 : decode cX12_swap 150 = .ok (.invokestatic 267, 3) := by decide +kernel
theorem dX12_swap_153 : decode cX12_swap 153 = .ok (.ifCond .eq 7, 3) := by decide +kernel
theorem dX12_swap_156 : decode cX12_swap 156 = .ok (.iconst 1, 1) := by decide +kernel
theorem dX12_swap_157 : decode cX12_swap 157 = .ok (.goto 4, 3) := by decide +kernel
theorem dX12_swap_160 : decode cX12_swap 160 = .ok (.iconst 0, 1) := by decide +kernel
theorem dX12_swap_161 : decode cX12_swap 161 = .ok (.istore 4, 2) := by decide +kernel
theorem dX12_swap_163 : decode cX12_swap 163 = .ok (.iinc 7 1, 3) := by decide +kernel
theorem dX12_swap_166 : decode cX12_swap 166 = .ok (.goto (-66), 3) := by decide +kernel
theorem dX12_swap_169 : decode cX12_swap 169 = .ok (.iload 5, 2) := by decide +kernel
theorem dX12_swap_171 : decode cX12_swap 171 = .ok (.ifCond .eq 35, 3) := by decide +kernel
theorem dX12_swap_174 : decode cX12_swap 174 = .ok (.aload_n 0, 1) := by decide +kernel
theorem dX12_swap_175 : decode cX12_swap 175 = .ok (.iload_n 1, 1) := by decide +kernel
theorem dX12_swap_176 : decode cX12_swap 176 = .ok (.iload 6, 2) := by decide +kernel
theorem dX12_swap_178 : decode cX12_swap 178 = .ok (.iload_n 2, 1) := by decide +kernel
theorem dX12_swap_179 : decode cX12_swap 179 = .ok (.invokevirtual 456, 3) := by decide +kernel
theorem dX12_swap_182 : decode cX12_swap 182 = .ok (.ifCond .ne 20, 3) := by decide +kernel
theorem dX12_swap_185 : decode cX12_swap 185 = .ok (.aload_n 0, 1) := by decide +kernel
theorem dX12_swap_186 : decode cX12_swap 186 = .ok (.iload_n 3, 1) := by decide +kernel
theorem dX12_swap_187 : decode cX12_swap 187 = .ok (.aload_n 0, 1) := by decide +kernel
theorem dX12_swap_188 : decode cX12_swap 188 = .ok (.iload_n 1, 1) := by decide +kernel
theorem dX12_swap_189 : decode cX12_swap 189 = .ok (.iload 6, 2) := by decide +kernel
theorem dX12_swap_191 : decode cX12_swap 191 = .ok (.iload_n 3, 1) := by decide +kernel
theorem dX12_swap_192 : decode cX12_swap 192 = .ok (.iload_n 2, 1) := by decide +kernel
theorem dX12_swap_193 : decode cX12_swap 193 = .ok (.invokevirtual 459, 3) := by decide +kernel
theorem dX12_swap_196 : decode cX12_swap 196 = .ok (.invokevirtual 462, 3) := by decide +kernel
theorem dX12_swap_199 : decode cX12_swap 199 = .ok (.ifCond .eq 7, 3) := by decide +kernel
theorem dX12_swap_202 : decode cX12_swap 202 = .ok (.iconst 1, 1) := by decide +kernel
theorem dX12_swap_203 : decode cX12_swap 203 = .ok (.goto 4, 3) := by decide +kernel
theorem dX12_swap_206 : decode cX12_swap 206 = .ok (.iconst 0, 1) := by decide +kernel
theorem dX12_swap_207 : decode cX12_swap 207 = .ok (.istore 5, 2) := by decide +kernel
theorem dX12_swap_209 : decode cX12_swap 209 = .ok (.iinc 6 1, 3) := by decide +kernel
theorem dX12_swap_212 : decode cX12_swap 212 = .ok (.goto (-126), 3) := by decide +kernel
theorem dX12_swap_215 : decode cX12_swap 215 = .ok (.iload 4, 2) := by decide +kernel
theorem dX12_swap_217 : decode cX12_swap 217 = .ok (.ifCond .ne 6, 3) := by decide +kernel
theorem dX12_swap_220 : decode cX12_swap 220 = .ok (.bipush (-4), 2) := by decide +kernel
theorem dX12_swap_222 : decode cX12_swap 222 = .ok (.ireturn, 1) := by decide +kernel
theorem dX12_swap_223 : decode cX12_swap 223 = .ok (.iload 5, 2) := by decide +kernel
theorem dX12_swap_225 : decode cX12_swap 225 = .ok (.ifCond .ne 6, 3) := by decide +kernel
theorem dX12_swap_228 : decode cX12_swap 228 = .ok (.bipush (-5), 2) := by decide +kernel
theorem dX12_swap_230 : decode cX12_swap 230 = .ok (.ireturn, 1) := by decide +kernel
theorem dX12_swap_231 : decode cX12_swap 231 = .ok (.iconst 0, 1) := by decide +kernel
theorem dX12_swap_232 : decode cX12_swap 232 = .ok (.istore 6, 2) := by decide +kernel
theorem dX12_swap_234 : decode cX12_swap 234 = .ok (.iload 6, 2) := by decide +kernel
theorem dX12_swap_236 : decode cX12_swap 236 = .ok (.aload_n 0, 1) := by decide +kernel
theorem dX12_swap_237 : decode cX12_swap 237 = .ok (.getfield 104, 3) := by decide +kernel
theorem dX12_swap_240 : decode cX12_swap 240 = .ok (.iload_n 1, 1) := by decide +kernel
theorem dX12_swap_241 : decode cX12_swap 241 = .ok (.iaload, 1) := by decide +kernel
theorem dX12_swap_242 : decode cX12_swap 242 = .ok (.if_icmp .ge 163, 3) := by decide +kernel
theorem dX12_swap_245 : decode cX12_swap 245 = .ok (.iload_n 1, 1) := by decide +kernel
theorem dX12_swap_246 : decode cX12_swap 246 = .ok (.iload 6, 2) := by decide +kernel
theorem dX12_swap_248 : decode cX12_swap 248 = .ok (.invokestatic 404, 3) := by decide +kernel
theorem dX12_swap_251 : decode cX12_swap 251 = .ok (.istore 7, 2) := by decide +kernel
theorem dX12_swap_253 : decode cX12_swap 253 = .ok (.iconst 0, 1) := by decide +kernel
theorem dX12_swap_254 : decode cX12_swap 254 = .ok (.istore 8, 2) := by decide +kernel
theorem dX12_swap_256 : decode cX12_swap 256 = .ok (.iload 8, 2) := by decide +kernel
theorem dX12_swap_258 : decode cX12_swap 258 = .ok (.bipush 12, 2) := by decide +kernel
theorem dX12_swap_260 : decode cX12_swap 260 = .ok (.if_icmp .ge 64, 3) := by decide +kernel
theorem dX12_swap_263 : decode cX12_swap 263 = .ok (.aload_n 0, 1) := by decide +kernel
theorem dX12_swap_264 : decode cX12_swap 264 = .ok (.getfield 87, 3) := by decide +kernel
theorem dX12_swap_267 : decode cX12_swap 267 = .ok (.bipush 96, 2) := by decide +kernel
theorem dX12_swap_269 : decode cX12_swap 269 = .ok (.iload 7, 2) := by decide +kernel
theorem dX12_swap_271 : decode cX12_swap 271 = .ok (.imul, 1) := by decide +kernel
theorem dX12_swap_272 : decode cX12_swap 272 = .ok (.bipush 12, 2) := by decide +kernel
theorem dX12_swap_274 : decode cX12_swap 274 = .ok (.iload_n 3, 1) := by decide +kernel
theorem dX12_swap_275 : decode cX12_swap 275 = .ok (.imul, 1) := by decide +kernel
theorem dX12_swap_276 : decode cX12_swap 276 = .ok (.iadd, 1) := by decide +kernel
theorem dX12_swap_277 : decode cX12_swap 277 = .ok (.iload 8, 2) := by decide +kernel
theorem dX12_swap_279 : decode cX12_swap 279 = .ok (.iadd, 1) := by decide +kernel
theorem dX12_swap_280 : decode cX12_swap 280 = .ok (.aload_n 0, 1) := by decide +kernel
theorem dX12_swap_281 : decode cX12_swap 281 = .ok (.getfield 87, 3) := by decide +kernel
theorem dX12_swap_284 : decode cX12_swap 284 = .ok (.bipush 96, 2) := by decide +kernel
theorem dX12_swap_286 : decode cX12_swap 286 = .ok (.iload 7, 2) := by decide +kernel
theorem dX12_swap_288 : decode cX12_swap 288 = .ok (.imul, 1) := by decide +kernel
theorem dX12_swap_289 : decode cX12_swap 289 = .ok (.bipush 12, 2) := by decide +kernel
theorem dX12_swap_291 : decode cX12_swap 291 = .ok (.iload_n 2, 1) := by decide +kernel
theorem dX12_swap_292 : decode cX12_swap 292 = .ok (.imul, 1) := by decide +kernel
theorem dX12_swap_293 : decode cX12_swap 293 = .ok (.iadd, 1) := by decide +kernel
theorem dX12_swap_294 : decode cX12_swap 294 = .ok (.iload 8, 2) := by decide +kernel
theorem dX12_swap_296 : decode cX12_swap 296 = .ok (.iadd, 1) := by decide +kernel
theorem dX12_swap_297 : decode cX12_swap 297 = .ok (.baload, 1) := by decide +kernel
theorem dX12_swap_298 : decode cX12_swap 298 = .ok (.bastore, 1) := by decide +kernel
theorem dX12_swap_299 : decode cX12_swap 299 = .ok (.aload_n 0, 1) := by decide +kernel
theorem dX12_swap_300 : decode cX12_swap 300 = .ok (.getfield 87, 3) := by decide +kernel
theorem dX12_swap_303 : decode cX12_swap 303 = .ok (.bipush 96, 2) := by decide +kernel
theorem dX12_swap_305 : decode cX12_swap 305 = .ok (.iload 7, 2) := by decide +kernel
theorem dX12_swap_307 : decode cX12_swap 307 = .ok (.imul, 1) := by decide +kernel
theorem dX12_swap_308 : decode cX12_swap 308 = .ok (.bipush 12, 2) := by decide +kernel
theorem dX12_swap_310 : decode cX12_swap 310 = .ok (.iload_n 2, 1) := by decide +kernel
theorem dX12_swap_311 : decode cX12_swap 311 = .ok (.imul, 1) := by decide +kernel
theorem dX12_swap_312 : decode cX12_swap 312 = .ok (.iadd, 1) := by decide +kernel
theorem dX12_swap_313 : decode cX12_swap 313 = .ok (.iload 8, 2) := by decide +kernel
theorem dX12_swap_315 : decode cX12_swap 315 = .ok (.iadd, 1) := by decide +kernel
theorem dX12_swap_316 : decode cX12_swap 316 = .ok (.iconst 0, 1) := by decide +kernel
theorem dX12_swap_317 : decode cX12_swap 317 = .ok (.bastore, 1) := by decide +kernel
theorem dX12_swap_318 : decode cX12_swap 318 = .ok (.iinc 8 1, 3) := by decide +kernel
theorem dX12_swap_321 : decode cX12_swap 321 = .ok (.goto (-65), 3) := by decide +kernel
theorem dX12_swap_324 : decode cX12_swap 324 = .ok (.aload_n 0, 1) := by decide +kernel
theorem dX12_swap_325 : decode cX12_swap 325 = .ok (.getfield 92, 3) := by decide +kernel
theorem dX12_swap_328 : decode cX12_swap 328 = .ok (.bipush 8, 2) := by decide +kernel
theorem dX12_swap_330 : decode cX12_swap 330 = .ok (.iload 7, 2) := by decide +kernel
theorem dX12_swap_332 : decode cX12_swap 332 = .ok (.imul, 1) := by decide +kernel
theorem dX12_swap_333 : decode cX12_swap 333 = .ok (.iload_n 3, 1) := by decide +kernel
theorem dX12_swap_334 : decode cX12_swap 334 = .ok (.iadd, 1) := by decide +kernel
theorem dX12_swap_335 : decode cX12_swap 335 = .ok (.aload_n 0, 1) := by decide +kernel
theorem dX12_swap_336 : decode cX12_swap 336 = .ok (.getfield 92, 3) := by decide +kernel
theorem dX12_swap_339 : decode cX12_swap 339 = .ok (.bipush 8, 2) := by decide +kernel
theorem dX12_swap_341 : decode cX12_swap 341 = .ok (.iload 7, 2) := by decide +kernel
theorem dX12_swap_343 : decode cX12_swap 343 = .ok (.imul, 1) := by decide +kernel
theorem dX12_swap_344 : decode cX12_swap 344 = .ok (.iload_n 2, 1) := by decide +kernel
theorem dX12_swap_345 : decode cX12_swap 345 = .ok (.iadd, 1) := by decide +kernel
theorem dX12_swap_346 : decode cX12_swap 346 = .ok (.baload, 1) := by decide +kernel
theorem dX12_swap_347 : decode cX12_swap 347 = .ok (.bastore, 1) := by decide +kernel
theorem dX12_swap_348 : decode cX12_swap 348 = .ok (.aload_n 0, 1) := by decide +kernel
theorem dX12_swap_349 : decode cX12_swap 349 = .ok (.getfield 92, 3) := by decide +kernel
theorem dX12_swap_352 : decode cX12_swap 352 = .ok (.bipush 8, 2) := by decide +kernel
theorem dX12_swap_354 : decode cX12_swap 354 = .ok (.iload 7, 2) := by decide +kernel
theorem dX12_swap_356 : decode cX12_swap 356 = .ok (.imul, 1) := by decide +kernel
theorem dX12_swap_357 : decode cX12_swap 357 = .ok (.iload_n 2, 1) := by decide +kernel
theorem dX12_swap_358 : decode cX12_swap 358 = .ok (.iadd, 1) := by decide +kernel
theorem dX12_swap_359 : decode cX12_swap 359 = .ok (.iconst 0, 1) := by decide +kernel
theorem dX12_swap_360 : decode cX12_swap 360 = .ok (.bastore, 1) := by decide +kernel
theorem dX12_swap_361 : decode cX12_swap 361 = .ok (.aload_n 0, 1) := by decide +kernel
theorem dX12_swap_362 : decode cX12_swap 362 = .ok (.getfield 98, 3) := by decide +kernel
theorem dX12_swap_365 : decode cX12_swap 365 = .ok (.iload 7, 2) := by decide +kernel
theorem dX12_swap_367 : decode cX12_swap 367 = .ok (.aload_n 0, 1) := by decide +kernel
theorem dX12_swap_368 : decode cX12_swap 368 = .ok (.getfield 98, 3) := by decide +kernel
theorem dX12_swap_371 : decode cX12_swap 371 = .ok (.iload 7, 2) := by decide +kernel
theorem dX12_swap_373 : decode cX12_swap 373 = .ok (.iaload, 1) := by decide +kernel
theorem dX12_swap_374 : decode cX12_swap 374 = .ok (.iload_n 2, 1) := by decide +kernel
theorem dX12_swap_375 : decode cX12_swap 375 = .ok (.iload_n 3, 1) := by decide +kernel
theorem dX12_swap_376 : decode cX12_swap 376 = .ok (.invokestatic 471, 3) := by decide +kernel
theorem dX12_swap_379 : decode cX12_swap 379 = .ok (.iastore, 1) := by decide +kernel
theorem dX12_swap_380 : decode cX12_swap 380 = .ok (.aload_n 0, 1) := by decide +kernel
theorem dX12_swap_381 : decode cX12_swap 381 = .ok (.getfield 101, 3) := by decide +kernel
theorem dX12_swap_384 : decode cX12_swap 384 = .ok (.iload 7, 2) := by decide +kernel
theorem dX12_swap_386 : decode cX12_swap 386 = .ok (.aload_n 0, 1) := by decide +kernel
theorem dX12_swap_387 : decode cX12_swap 387 = .ok (.getfield 101, 3) := by decide +kernel
theorem dX12_swap_390 : decode cX12_swap 390 = .ok (.iload 7, 2) := by decide +kernel
theorem dX12_swap_392 : decode cX12_swap 392 = .ok (.iaload, 1) := by decide +kernel
theorem dX12_swap_393 : decode cX12_swap 393 = .ok (.iload_n 2, 1) := by decide +kernel
theorem dX12_swap_394 : decode cX12_swap 394 = .ok (.iload_n 3, 1) := by decide +kernel
theorem dX12_swap_395 : decode cX12_swap 395 = .ok (.invokestatic 471, 3) := by decide +kernel
theorem dX12_swap_398 : decode cX12_swap 398 = .ok (.iastore, 1) := by decide +kernel
theorem dX12_swap_399 : decode cX12_swap 399 = .ok (.iinc 6 1, 3) := by decide +kernel
theorem dX12_swap_402 : decode cX12_swap 402 = .ok (.goto (-168), 3) := by decide +kernel
theorem dX12_swap_405 : decode cX12_swap 405 = .ok (.aload_n 0, 1) := by decide +kernel
theorem dX12_swap_406 : decode cX12_swap 406 = .ok (.getfield 107, 3) := by decide +kernel
theorem dX12_swap_409 : decode cX12_swap 409 = .ok (.iload_n 1, 1) := by decide +kernel
theorem dX12_swap_410 : decode cX12_swap 410 = .ok (.aload_n 0, 1) := by decide +kernel
theorem dX12_swap_411 : decode cX12_swap 411 = .ok (.getfield 107, 3) := by decide +kernel
theorem dX12_swap_414 : decode cX12_swap 414 = .ok (.iload_n 1, 1) := by decide +kernel
theorem dX12_swap_415 : decode cX12_swap 415 = .ok (.iaload, 1) := by decide +kernel
theorem dX12_swap_416 : decode cX12_swap 416 = .ok (.iload_n 2, 1) := by decide +kernel
theorem dX12_swap_417 : decode cX12_swap 417 = .ok (.iload_n 3, 1) := by decide +kernel
theorem dX12_swap_418 : decode cX12_swap 418 = .ok (.invokestatic 471, 3) := by decide +kernel
theorem dX12_swap_421 : decode cX12_swap 421 = .ok (.iastore, 1) := by decide +kernel
theorem dX12_swap_422 : decode cX12_swap 422 = .ok (.aload_n 0, 1) := by decide +kernel
theorem dX12_swap_423 : decode cX12_swap 423 = .ok (.getfield 110, 3) := by decide +kernel
theorem dX12_swap_426 : decode cX12_swap 426 = .ok (.iload_n 1, 1) := by decide +kernel
theorem dX12_swap_427 : decode cX12_swap 427 = .ok (.aload_n 0, 1) := by decide +kernel
theorem dX12_swap_428 : decode cX12_swap 428 = .ok (.getfield 110, 3) := by decide +kernel
theorem dX12_swap_431 : decode cX12_swap 431 = .ok (.iload_n 1, 1) := by decide +kernel
theorem dX12_swap_432 : decode cX12_swap 432 = .ok (.iaload, 1) := by decide +kernel
theorem dX12_swap_433 : decode cX12_swap 433 = .ok (.iload_n 2, 1) := by decide +kernel
theorem dX12_swap_434 : decode cX12_swap 434 = .ok (.iload_n 3, 1) := by decide +kernel
theorem dX12_swap_435 : decode cX12_swap 435 = .ok (.invokestatic 471, 3) := by decide +kernel
theorem dX12_swap_438 : decode cX12_swap 438 = .ok (.iastore, 1) := by decide +kernel
theorem dX12_swap_439 : decode cX12_swap 439 = .ok (.iconst 1, 1) := by decide +kernel
theorem dX12_swap_440 : decode cX12_swap 440 = .ok (.ireturn, 1) := by decide +kernel
theorem dX12_set_0 : decode cX12_set 0 = .ok (.aload_n 0, 1) := by decide +kernel
theorem dX12_set_1 : decode cX12_set 1 = .ok (.iconst 0, 1) := by decide +kernel
theorem dX12_set_2 : decode cX12_set 2 = .ok (.putfield 1, 3) := by decide +kernel
theorem dX12_set_5 : decode cX12_set 5 = .ok (.iload_n 1, 1) := by decide +kernel
theorem dX12_set_6 : decode cX12_set 6 = .ok (.ifCond .ne 26, 3) := by decide +kernel
theorem dX12_set_9 : decode cX12_set 9 = .ok (.iload_n 2, 1) := by decide +kernel
theorem dX12_set_10 : decode cX12_set 10 = .ok (.iconst 0, 1) := by decide +kernel
theorem dX12_set_11 : decode cX12_set 11 = .ok (.iconst 2, 1) := by decide +kernel
theorem dX12_set_12 : decode cX12_set 12 = .ok (.invokestatic 267, 3) := by decide +kernel
theorem dX12_set_15 : decode cX12_set 15 = .ok (.ifCond .eq 17, 3) := by decide +kernel
theorem dX12_set_18 : decode cX12_set 18 = .ok (.iload_n 3, 1) := by decide +kernel
theorem dX12_set_19 : decode cX12_set 19 = .ok (.iconst 1, 1) := by decide +kernel
theorem dX12_set_20 : decode cX12_set 20 = .ok (.bipush 100, 2) := by decide +kernel
theorem dX12_set_22 : decode cX12_set 22 = .ok (.invokestatic 267, 3) := by decide +kernel
theorem dX12_set_25 : decode cX12_set 25 = .ok (.ifCond .eq 7, 3) := by decide +kernel
theorem dX12_set_28 : decode cX12_set 28 = .ok (.iconst 1, 1) := by decide +kernel
theorem dX12_set_29 : decode cX12_set 29 = .ok (.goto 4, 3) := by decide +kernel
theorem dX12_set_32 : decode cX12_set 32 = .ok (.iconst 0, 1) := by decide +kernel
theorem dX12_set_33 : decode cX12_set 33 = .ok (.istore 4, 2) := by decide +kernel
theorem dX12_set_35 : decode cX12_set 35 = .ok (.iload_n 1, 1) := by decide +kernel
theorem dX12_set_36 : decode cX12_set 36 = .ok (.iconst 1, 1) := by decide +kernel
theorem dX12_set_37 : decode cX12_set 37 = .ok (.if_icmp .ne 27, 3) := by decide +kernel
theorem dX12_set_40 : decode cX12_set 40 = .ok (.iload_n 2, 1) := by decide +kernel
theorem dX12_set_41 : decode cX12_set 41 = .ok (.iconst 0, 1) := by decide +kernel
theorem dX12_set_42 : decode cX12_set 42 = .ok (.bipush 7, 2) := by decide +kernel
theorem dX12_set_44 : decode cX12_set 44 = .ok (.invokestatic 267, 3) := by decide +kernel
theorem dX12_set_47 : decode cX12_set 47 = .ok (.ifCond .eq 17, 3) := by decide +kernel
theorem dX12_set_50 : decode cX12_set 50 = .ok (.iload_n 3, 1) := by decide +kernel
theorem dX12_set_51 : decode cX12_set 51 = .ok (.iconst 0, 1) := by decide +kernel
theorem dX12_set_52 : decode cX12_set 52 = .ok (.bipush 20, 2) := by decide +kernel
theorem dX12_set_54 : decode cX12_set 54 = .ok (.invokestatic 267, 3) := by decide +kernel
theorem dX12_set_57 : decode cX12_set 57 = .ok (.ifCond .eq 7, 3) := by decide +kernel
theorem dX12_set_60 : decode cX12_set 60 = .ok (.iconst 1, 1) := by decide +kernel
theorem dX12_set_61 : decode cX12_set 61 = .ok (.goto 4, 3) := by decide +kernel
theorem dX12_set_64 : decode cX12_set 64 = .ok (.iconst 0, 1) := by decide +kernel
theorem dX12_set_65 : decode cX12_set 65 = .ok (.istore 5, 2) := by decide +kernel
theorem dX12_set_67 : decode cX12_set 67 = .ok (.iload_n 1, 1) := by decide +kernel
theorem dX12_set_68 : decode cX12_set 68 = .ok (.iconst 2, 1) := by decide +kernel
theorem dX12_set_69 : decode cX12_set 69 = .ok (.if_icmp .ne 31, 3) := by decide +kernel
theorem dX12_set_72 : decode cX12_set 72 = .ok (.iload_n 2, 1) := by decide +kernel
theorem dX12_set_73 : decode cX12_set 73 = .ok (.iconst 0, 1) := by decide +kernel
theorem dX12_set_74 : decode cX12_set 74 = .ok (.aload_n 0, 1) := by decide +kernel
theorem dX12_set_75 : decode cX12_set 75 = .ok (.getfield 398, 3) := by decide +kernel
theorem dX12_set_78 : decode cX12_set 78 = .ok (.iconst 1, 1) := by decide +kernel
theorem dX12_set_79 : decode cX12_set 79 = .ok (.isub, 1) := by decide +kernel
theorem dX12_set_80 : decode cX12_set 80 = .ok (.invokestatic 267, 3) := by decide +kernel
theorem dX12_set_83 : decode cX12_set 83 = .ok (.ifCond .eq 17, 3) := by decide +kernel
theorem dX12_set_86 : decode cX12_set 86 = .ok (.iload_n 3, 1) := by decide +kernel
theorem dX12_set_87 : decode cX12_set 87 = .ok (.iconst 0, 1) := by decide +kernel
theorem dX12_set_88 : decode cX12_set 88 = .ok (.bipush 7, 2) := by decide +kernel
theorem dX12_set_90 : decode cX12_set 90 = .ok (.invokestatic 267, 3) := by decide +kernel
theorem dX12_set_93 : decode cX12_set 93 = .ok (.ifCond .eq 7, 3) := by decide +kernel
theorem dX12_set_96 : decode cX12_set 96 = .ok (.iconst 1, 1) := by decide +kernel
theorem dX12_set_97 : decode cX12_set 97 = .ok (.goto 4, 3) := by decide +kernel
theorem dX12_set_100 : decode cX12_set 100 = .ok (.iconst 0, 1) := by decide +kernel
theorem dX12_set_101 : decode cX12_set 101 = .ok (.istore 6, 2) := by decide +kernel
theorem dX12_set_103 : decode cX12_set 103 = .ok (.aload_n 0, 1) := by decide +kernel
theorem dX12_set_104 : decode cX12_set 104 = .ok (.iload 4, 2) := by decide +kernel
theorem dX12_set_106 : decode cX12_set 106 = .ok (.ifCond .ne 13, 3) := by decide +kernel
theorem dX12_set_109 : decode cX12_set 109 = .ok (.iload 5, 2) := by decide +kernel
theorem dX12_set_111 : decode cX12_set 111 = .ok (.ifCond .ne 8, 3) := by decide +kernel
theorem dX12_set_114 : decode cX12_set 114 = .ok (.iload 6, 2) := by decide +kernel
theorem dX12_set_116 : decode cX12_set 116 = .ok (.ifCond .eq 7, 3) := by decide +kernel
theorem dX12_set_119 : decode cX12_set 119 = .ok (.iconst 1, 1) := by decide +kernel
theorem dX12_set_120 : decode cX12_set 120 = .ok (.goto 4, 3) := by decide +kernel
theorem dX12_set_123 : decode cX12_set 123 = .ok (.iconst 0, 1) := by decide +kernel
theorem dX12_set_124 : decode cX12_set 124 = .ok (.iconst 1, 1) := by decide +kernel
theorem dX12_set_125 : decode cX12_set 125 = .ok (.invokevirtual 271, 3) := by decide +kernel
theorem dX12_set_128 : decode cX12_set 128 = .ok (.ifCond .ne 5, 3) := by decide +kernel
theorem dX12_set_131 : decode cX12_set 131 = .ok (.iconst 0, 1) := by decide +kernel
theorem dX12_set_132 : decode cX12_set 132 = .ok (.ireturn, 1) := by decide +kernel
theorem dX12_set_133 : decode cX12_set 133 = .ok (.iload 4, 2) := by decide +kernel
theorem dX12_set_135 : decode cX12_set 135 = .ok (.ifCond .eq 12, 3) := by decide +kernel
theorem dX12_set_138 : decode cX12_set 138 = .ok (.aload_n 0, 1) := by decide +kernel
theorem dX12_set_139 : decode cX12_set 139 = .ok (.getfield 156, 3) := by decide +kernel
theorem dX12_set_142 : decode cX12_set 142 = .ok (.iload_n 2, 1) := by decide +kernel
theorem dX12_set_143 : decode cX12_set 143 = .ok (.iaload, 1) := by decide +kernel
theorem dX12_set_144 : decode cX12_set 144 = .ok (.goto 23, 3) := by decide +kernel
theorem dX12_set_147 : decode cX12_set 147 = .ok (.iload 5, 2) := by decide +kernel
theorem dX12_set_149 : decode cX12_set 149 = .ok (.ifCond .eq 12, 3) := by decide +kernel
theorem dX12_set_152 : decode cX12_set 152 = .ok (.aload_n 0, 1) := by decide +kernel
theorem dX12_set_153 : decode cX12_set 153 = .ok (.getfield 159, 3) := by decide +kernel
theorem dX12_set_156 : decode cX12_set 156 = .ok (.iload_n 2, 1) := by decide +kernel
theorem dX12_set_157 : decode cX12_set 157 = .ok (.iaload, 1) := by decide +kernel
theorem dX12_set_158 : decode cX12_set 158 = .ok (.goto 9, 3) := by decide +kernel
theorem dX12_set_161 : decode cX12_set 161 = .ok (.aload_n 0, 1) := by decide +kernel
theorem dX12_set_162 : decode cX12_set 162 = .ok (.getfield 113, 3) := by decide +kernel
theorem dX12_set_165 : decode cX12_set 165 = .ok (.iload_n 2, 1) := by decide +kernel
theorem dX12_set_166 : decode cX12_set 166 = .ok (.iaload, 1) := by decide +kernel
theorem dX12_set_167 : decode cX12_set 167 = .ok (.istore 7, 2) := by decide +kernel
theorem dX12_set_169 : decode cX12_set 169 = .ok (.iload 4, 2) := by decide +kernel
theorem dX12_set_171 : decode cX12_set 171 = .ok (.ifCond .eq 10, 3) := by decide +kernel
theorem dX12_set_174 : decode cX12_set 174 = .ok (.aload_n 0, 1) := by decide +kernel
theorem dX12_set_175 : decode cX12_set 175 = .ok (.getfield 156, 3) := by decide +kernel
theorem dX12_set_178 : decode cX12_set 178 = .ok (.iload_n 2, 1) := by decide +kernel
theorem dX12_set_179 : decode cX12_set 179 = .ok (.iload_n 3, 1) := by decide +kernel
theorem dX12_set_180 : decode cX12_set 180 = .ok (.iastore, 1) := by decide +kernel
theorem dX12_set_181 : decode cX12_set 181 = .ok (.iload 5, 2) := by decide +kernel
theorem dX12_set_183 : decode cX12_set 183 = .ok (.ifCond .eq 10, 3) := by decide +kernel
theorem dX12_set_186 : decode cX12_set 186 = .ok (.aload_n 0, 1) := by decide +kernel
theorem dX12_set_187 : decode cX12_set 187 = .ok (.getfield 159, 3) := by decide +kernel
theorem dX12_set_190 : decode cX12_set 190 = .ok (.iload_n 2, 1) := by decide +kernel
theorem dX12_set_191 : decode cX12_set 191 = .ok (.iload_n 3, 1) := by decide +kernel
theorem dX12_set_192 : decode cX12_set 192 = .ok (.iastore, 1) := by decide +kernel
theorem dX12_set_193 : decode cX12_set 193 = .ok (.iload 6, 2) := by decide +kernel
theorem dX12_set_195 : decode cX12_set 195 = .ok (.ifCond .eq 10, 3) := by decide +kernel
theorem dX12_set_198 : decode cX12_set 198 = .ok (.aload_n 0, 1) := by decide +kernel
theorem dX12_set_199 : decode cX12_set 199 = .ok (.getfield 113, 3) := by decide +kernel
theorem dX12_set_202 : decode cX12_set 202 = .ok (.iload_n 2, 1) := by decide +kernel
theorem dX12_set_203 : decode cX12_set 203 = .ok (.iload_n 3, 1) := by decide +kernel
theorem dX12_set_204 : decode cX12_set 204 = .ok (.iastore, 1) := by decide +kernel
theorem dX12_set_205 : decode cX12_set 205 = .ok (.iload 7, 2) := by decide +kernel
theorem dX12_set_207 : decode cX12_set 207 = .ok (.ireturn, 1) := by decide +kernel
theorem dX12_lasts_0 : decode cX12_lasts 0 = .ok (.aload_n 0, 1) := by decide +kernel
theorem dX12_lasts_1 : decode cX12_lasts 1 = .ok (.iconst 0, 1) := by decide +kernel
theorem dX12_lasts_2 : decode cX12_lasts 2 = .ok (.putfield 1, 3) := by decide +kernel
theorem dX12_lasts_5 : decode cX12_lasts 5 = .ok (.aload_n 0, 1) := by decide +kernel
theorem dX12_lasts_6 : decode cX12_lasts 6 = .ok (.iload_n 1, 1) := by decide +kernel
theorem dX12_lasts_7 : decode cX12_lasts 7 = .ok (.invokevirtual 436, 3) := by decide +kernel
theorem dX12_lasts_10 : decode cX12_lasts 10 = .ok (.ifCond .eq 17, 3) := by decide +kernel
theorem dX12_lasts_13 : decode cX12_lasts 13 = .ok (.aload_n 0, 1) := by decide +kernel
theorem dX12_lasts_14 : decode cX12_lasts 14 = .ok (.iload_n 2, 1) := by decide +kernel
theorem dX12_lasts_15 : decode cX12_lasts 15 = .ok (.iconst 0, 1) := by decide +kernel
theorem dX12_lasts_16 : decode cX12_lasts 16 = .ok (.iconst 2, 1) := by decide +kernel
theorem dX12_lasts_17 : decode cX12_lasts 17 = .ok (.invokestatic 267, 3) := by decide +kernel
theorem dX12_lasts_20 : decode cX12_lasts 20 = .ok (.iconst 2, 1) := by decide +kernel
theorem dX12_lasts_21 : decode cX12_lasts 21 = .ok (.invokevirtual 271, 3) := by decide +kernel
theorem dX12_lasts_24 : decode cX12_lasts 24 = .ok (.ifCond .ne 5, 3) := by decide +kernel
theorem dX12_lasts_27 : decode cX12_lasts 27 = .ok (.iconst 0, 1) := by decide +kernel
theorem dX12_lasts_28 : decode cX12_lasts 28 = .ok (.ireturn, 1) := by decide +kernel
theorem dX12_lasts_29 : decode cX12_lasts 29 = .ok (.aload_n 0, 1) := by decide +kernel
theorem dX12_lasts_30 : decode cX12_lasts 30 = .ok (.iload_n 1, 1) := by decide +kernel
theorem dX12_lasts_31 : decode cX12_lasts 31 = .ok (.iload_n 2, 1) := by decide +kernel
theorem dX12_lasts_32 : decode cX12_lasts 32 = .ok (.invokevirtual 477, 3) := by decide +kernel
theorem dX12_lasts_35 : decode cX12_lasts 35 = .ok (.ireturn, 1) := by decide +kernel
theorem dX12_clash_0 : decode cX12_clash 0 = .ok (.aload_n 0, 1) := by decide +kernel
theorem dX12_clash_1 : decode cX12_clash 1 = .ok (.iconst 0, 1) := by decide +kernel
theorem dX12_clash_2 : decode cX12_clash 2 = .ok (.putfield 1, 3) := by decide +kernel
theorem dX12_clash_5 : decode cX12_clash 5 = .ok (.aload_n 0, 1) := by decide +kernel
theorem dX12_clash_6 : decode cX12_clash 6 = .ok (.iload_n 1, 1) := by decide +kernel
theorem dX12_clash_7 : decode cX12_clash 7 = .ok (.invokevirtual 436, 3) := by decide +kernel
theorem dX12_clash_10 : decode cX12_clash 10 = .ok (.ifCond .eq 11, 3) := by decide +kernel
theorem dX12_clash_13 : decode cX12_clash 13 = .ok (.aload_n 0, 1) := by decide +kernel
theorem dX12_clash_14 : decode cX12_clash 14 = .ok (.iload_n 2, 1) := by decide +kernel
theorem dX12_clash_15 : decode cX12_clash 15 = .ok (.invokevirtual 436, 3) := by decide +kernel
theorem dX12_clash_18 : decode cX12_clash 18 = .ok (.ifCond .ne 5, 3) := by decide +kernel
theorem dX12_clash_21 : decode cX12_clash 21 = .ok (.iconst 0, 1) := by decide +kernel
theorem dX12_clash_22 : decode cX12_clash 22 = .ok (.ireturn, 1) := by decide +kernel
theorem dX12_clash_23 : decode cX12_clash 23 = .ok (.aload_n 0, 1) := by decide +kernel
theorem dX12_clash_24 : decode cX12_clash 24 = .ok (.iload_n 1, 1) := by decide +kernel
theorem dX12_clash_25 : decode cX12_clash 25 = .ok (.iload_n 2, 1) := by decide +kernel
theorem dX12_clash_26 : decode cX12_clash 26 = .ok (.invokevirtual 483, 3) := by decide +kernel
theorem dX12_clash_29 : decode cX12_clash 29 = .ok (.ireturn, 1) := by decide +kernel
theorem dX12_best_0 : decode cX12_best 0 = .ok (.aload_n 0, 1) := by decide +kernel
theorem dX12_best_1 : decode cX12_best 1 = .ok (.iconst 0, 1) := by decide +kernel
theorem dX12_best_2 : decode cX12_best 2 = .ok (.putfield 1, 3) := by decide +kernel
theorem dX12_best_5 : decode cX12_best 5 = .ok (.iconst 0, 1) := by decide +kernel
theorem dX12_best_6 : decode cX12_best 6 = .ok (.istore 4, 2) := by decide +kernel
theorem dX12_best_8 : decode cX12_best 8 = .ok (.iconst 0, 1) := by decide +kernel
theorem dX12_best_9 : decode cX12_best 9 = .ok (.istore 5, 2) := by decide +kernel
theorem dX12_best_11 : decode cX12_best 11 = .ok (.iload 5, 2) := by decide +kernel
theorem dX12_best_13 : decode cX12_best 13 = .ok (.aload_n 0, 1) := by decide +kernel
theorem dX12_best_14 : decode cX12_best 14 = .ok (.getfield 398, 3) := by decide +kernel
theorem dX12_best_17 : decode cX12_best 17 = .ok (.if_icmp .ge 20, 3) := by decide +kernel
theorem dX12_best_20 : decode cX12_best 20 = .ok (.iload 4, 2) := by decide +kernel
theorem dX12_best_22 : decode cX12_best 22 = .ok (.iload_n 1, 1) := by decide +kernel
theorem dX12_best_23 : decode cX12_best 23 = .ok (.iload 5, 2) := by decide +kernel
theorem dX12_best_25 : decode cX12_best 25 = .ok (.ishr, 1) := by decide +kernel
theorem dX12_best_26 : decode cX12_best 26 = .ok (.iconst 1, 1) := by decide +kernel
theorem dX12_best_27 : decode cX12_best 27 = .ok (.iand, 1) := by decide +kernel
theorem dX12_best_28 : decode cX12_best 28 = .ok (.iadd, 1) := by decide +kernel
theorem dX12_best_29 : decode cX12_best 29 = .ok (.istore 4, 2) := by decide +kernel
theorem dX12_best_31 : decode cX12_best 31 = .ok (.iinc 5 1, 3) := by decide +kernel
theorem dX12_best_34 : decode cX12_best 34 = .ok (.goto (-23), 3) := by decide +kernel
theorem dX12_best_37 : decode cX12_best 37 = .ok (.aload_n 0, 1) := by decide +kernel
theorem dX12_best_38 : decode cX12_best 38 = .ok (.iload_n 1, 1) := by decide +kernel
theorem dX12_best_39 : decode cX12_best 39 = .ok (.ifCond .le 35, 3) := by decide +kernel
theorem dX12_best_42 : decode cX12_best 42 = .ok (.iload_n 1, 1) := by decide +kernel
theorem dX12_best_43 : decode cX12_best 43 = .ok (.aload_n 0, 1) := by decide +kernel
theorem dX12_best_44 : decode cX12_best 44 = .ok (.getfield 398, 3) := by decide +kernel
theorem dX12_best_47 : decode cX12_best 47 = .ok (.ishr, 1) := by decide +kernel
theorem dX12_best_48 : decode cX12_best 48 = .ok (.ifCond .ne 26, 3) := by decide +kernel
theorem dX12_best_51 : decode cX12_best 51 = .ok (.iload 4, 2) := by decide +kernel
theorem dX12_best_53 : decode cX12_best 53 = .ok (.iconst 1, 1) := by decide +kernel
theorem dX12_best_54 : decode cX12_best 54 = .ok (.iconst 5, 1) := by decide +kernel
theorem dX12_best_55 : decode cX12_best 55 = .ok (.invokestatic 267, 3) := by decide +kernel
theorem dX12_best_58 : decode cX12_best 58 = .ok (.ifCond .eq 16, 3) := by decide +kernel
theorem dX12_best_61 : decode cX12_best 61 = .ok (.iload_n 2, 1) := by decide +kernel
theorem dX12_best_62 : decode cX12_best 62 = .ok (.iconst 0, 1) := by decide +kernel
theorem dX12_best_63 : decode cX12_best 63 = .ok (.iconst 5, 1) := by decide +kernel
theorem dX12_best_64 : decode cX12_best 64 = .ok (.invokestatic 267, 3) := by decide +kernel
theorem dX12_best_67 : decode cX12_best 67 = .ok (.ifCond .eq 7, 3) := by decide +kernel
theorem dX12_best_70 : decode cX12_best 70 = .ok (.iconst 1, 1) := by decide +kernel
theorem dX12_best_71 : decode cX12_best 71 = .ok (.goto 4, 3) := by decide +kernel
theorem dX12_best_74 : decode cX12_best 74 = .ok (.iconst 0, 1) := by decide +kernel
theorem dX12_best_75 : decode cX12_best 75 = .ok (.iconst 1, 1) := by decide +kernel
theorem dX12_best_76 : decode cX12_best 76 = .ok (.invokevirtual 271, 3) := by decide +kernel
theorem dX12_best_79 : decode cX12_best 79 = .ok (.ifCond .ne 5, 3) := by decide +kernel
theorem dX12_best_82 : decode cX12_best 82 = .ok (.iconst 0, 1) := by decide +kernel
theorem dX12_best_83 : decode cX12_best 83 = .ok (.ireturn, 1) := by decide +kernel
theorem dX12_best_84 : decode cX12_best 84 = .ok (.aload_n 0, 1) := by decide +kernel
theorem dX12_best_85 : decode cX12_best 85 = .ok (.iconst 0, 1) := by decide +kernel
theorem dX12_best_86 : decode cX12_best 86 = .ok (.putfield 486, 3) := by decide +kernel
theorem dX12_best_89 : decode cX12_best 89 = .ok (.aload_n 0, 1) := by decide +kernel
theorem dX12_best_90 : decode cX12_best 90 = .ok (.iconst 0, 1) := by decide +kernel
theorem dX12_best_91 : decode cX12_best 91 = .ok (.putfield 489, 3) := by decide +kernel
theorem dX12_best_94 : decode cX12_best 94 = .ok (.aload_n 0, 1) := by decide +kernel
theorem dX12_best_95 : decode cX12_best 95 = .ok (.iload_n 1, 1) := by decide +kernel
theorem dX12_best_96 : decode cX12_best 96 = .ok (.invokevirtual 501, 3) := by decide +kernel
theorem dX12_best_99 : decode cX12_best 99 = .ok (.iload_n 2, 1) := by decide +kernel
theorem dX12_best_100 : decode cX12_best 100 = .ok (.iconst 4, 1) := by decide +kernel
theorem dX12_best_101 : decode cX12_best 101 = .ok (.if_icmp .ne 9, 3) := by decide +kernel
theorem dX12_best_104 : decode cX12_best 104 = .ok (.aload_n 0, 1) := by decide +kernel
theorem dX12_best_105 : decode cX12_best 105 = .ok (.getfield 492, 3) := by decide +kernel
theorem dX12_best_108 : decode cX12_best 108 = .ok (.l2i, 1) := by decide +kernel
theorem dX12_best_109 : decode cX12_best 109 = .ok (.ireturn, 1) := by decide +kernel
theorem dX12_best_110 : decode cX12_best 110 = .ok (.iload_n 2, 1) := by decide +kernel
theorem dX12_best_111 : decode cX12_best 111 = .ok (.iconst 5, 1) := by decide +kernel
theorem dX12_best_112 : decode cX12_best 112 = .ok (.if_icmp .ne 9, 3) := by decide +kernel
theorem dX12_best_115 : decode cX12_best 115 = .ok (.aload_n 0, 1) := by decide +kernel
theorem dX12_best_116 : decode cX12_best 116 = .ok (.getfield 495, 3) := by decide +kernel
theorem dX12_best_119 : decode cX12_best 119 = .ok (.l2i, 1) := by decide +kernel
theorem dX12_best_120 : decode cX12_best 120 = .ok (.ireturn, 1) := by decide +kernel
theorem dX12_best_121 : decode cX12_best 121 = .ok (.iload_n 3, 1) := by decide +kernel
theorem dX12_best_122 : decode cX12_best 122 = .ok (.iconst 0, 1) := by decide +kernel
theorem dX12_best_123 : decode cX12_best 123 = .ok (.aload_n 0, 1) := by decide +kernel
theorem dX12_best_124 : decode cX12_best 124 = .ok (.getfield 489, 3) := by decide +kernel
theorem dX12_best_127 : decode cX12_best 127 = .ok (.iconst 1, 1) := by decide +kernel
theorem dX12_best_128 : decode cX12_best 128 = .ok (.isub, 1) := by decide +kernel
theorem dX12_best_129 : decode cX12_best 129 = .ok (.invokestatic 267, 3) := by decide +kernel
theorem dX12_best_132 : decode cX12_best 132 = .ok (.ifCond .ne 5, 3) := by decide +kernel
theorem dX12_best_135 : decode cX12_best 135 = .ok (.iconst (-1), 1) := by decide +kernel
theorem dX12_best_136 : decode cX12_best 136 = .ok (.ireturn, 1) := by decide +kernel
theorem dX12_best_137 : decode cX12_best 137 = .ok (.iload_n 2, 1) := by decide +kernel
theorem dX12_best_138 : decode cX12_best 138 = .ok (.ifCond .ne 12, 3) := by decide +kernel
theorem dX12_best_141 : decode cX12_best 141 = .ok (.aload_n 0, 1) := by decide +kernel
theorem dX12_best_142 : decode cX12_best 142 = .ok (.getfield 174, 3) := by decide +kernel
theorem dX12_best_145 : decode cX12_best 145 = .ok (.iload_n 3, 1) := by decide +kernel
theorem dX12_best_146 : decode cX12_best 146 = .ok (.iaload, 1) := by decide +kernel
theorem dX12_best_147 : decode cX12_best 147 = .ok (.goto 37, 3) := by decide +kernel
theorem dX12_best_150 : decode cX12_best 150 = .ok (.iload_n 2, 1) := by decide +kernel
theorem dX12_best_151 : decode cX12_best 151 = .ok (.iconst 1, 1) := by decide +kernel
theorem dX12_best_152 : decode cX12_best 152 = .ok (.if_icmp .ne 12, 3) := by decide +kernel
theorem dX12_best_155 : decode cX12_best 155 = .ok (.aload_n 0, 1) := by decide +kernel
theorem dX12_best_156 : decode cX12_best 156 = .ok (.getfield 177, 3) := by decide +kernel
theorem dX12_best_159 : decode cX12_best 159 = .ok (.iload_n 3, 1) := by decide +kernel
theorem dX12_best_160 : decode cX12_best 160 = .ok (.iaload, 1) := by decide +kernel
theorem dX12_best_161 : decode cX12_best 161 = .ok (.goto 23, 3) := by decide +kernel
theorem dX12_best_164 : decode cX12_best 164 = .ok (.iload_n 2, 1) := by decide +kernel
theorem dX12_best_165 : decode cX12_best 165 = .ok (.iconst 2, 1) := by decide +kernel
theorem dX12_best_166 : decode cX12_best 166 = .ok (.if_icmp .ne 12, 3) := by decide +kernel
theorem dX12_best_169 : decode cX12_best 169 = .ok (.aload_n 0, 1) := by decide +kernel
theorem dX12_best_170 : decode cX12_best 170 = .ok (.getfield 180, 3) := by decide +kernel
theorem dX12_best_173 : decode cX12_best 173 = .ok (.iload_n 3, 1) := by decide +kernel
theorem dX12_best_174 : decode cX12_best 174 = .ok (.iaload, 1) := by decide +kernel
theorem dX12_best_175 : decode cX12_best 175 = .ok (.goto 9, 3) := by decide +kernel
theorem dX12_best_178 : decode cX12_best 178 = .ok (.aload_n 0, 1) := by decide +kernel
theorem dX12_best_179 : decode cX12_best 179 = .ok (.getfield 183, 3) := by decide +kernel
theorem dX12_best_182 : decode cX12_best 182 = .ok (.iload_n 3, 1) := by decide +kernel
theorem dX12_best_183 : decode cX12_best 183 = .ok (.iaload, 1) := by decide +kernel
theorem dX12_best_184 : decode cX12_best 184 = .ok (.ireturn, 1) := by decide +kernel
theorem dX12_row_0 : decode cX12_row 0 = .ok (.aload_n 0, 1) := by decide +kernel
theorem dX12_row_1 : decode cX12_row 1 = .ok (.iconst 0, 1) := by decide +kernel
theorem dX12_row_2 : decode cX12_row 2 = .ok (.putfield 1, 3) := by decide +kernel
theorem dX12_row_5 : decode cX12_row 5 = .ok (.aload_n 0, 1) := by decide +kernel
theorem dX12_row_6 : decode cX12_row 6 = .ok (.iload_n 1, 1) := by decide +kernel
theorem dX12_row_7 : decode cX12_row 7 = .ok (.invokevirtual 436, 3) := by decide +kernel
theorem dX12_row_10 : decode cX12_row 10 = .ok (.ifCond .eq 36, 3) := by decide +kernel
theorem dX12_row_13 : decode cX12_row 13 = .ok (.aload_n 0, 1) := by decide +kernel
theorem dX12_row_14 : decode cX12_row 14 = .ok (.iload_n 2, 1) := by decide +kernel
theorem dX12_row_15 : decode cX12_row 15 = .ok (.iconst 0, 1) := by decide +kernel
theorem dX12_row_16 : decode cX12_row 16 = .ok (.iconst 2, 1) := by decide +kernel
theorem dX12_row_17 : decode cX12_row 17 = .ok (.invokestatic 267, 3) := by decide +kernel
theorem dX12_row_20 : decode cX12_row 20 = .ok (.ifCond .eq 18, 3) := by decide +kernel
theorem dX12_row_23 : decode cX12_row 23 = .ok (.iload_n 3, 1) := by decide +kernel
theorem dX12_row_24 : decode cX12_row 24 = .ok (.iconst 0, 1) := by decide +kernel
theorem dX12_row_25 : decode cX12_row 25 = .ok (.ldc_w 313, 3) := by decide +kernel
theorem dX12_row_28 : decode cX12_row 28 = .ok (.invokestatic 267, 3) := by decide +kernel
theorem dX12_row_31 : decode cX12_row 31 = .ok (.ifCond .eq 7, 3) := by decide +kernel
theorem dX12_row_34 : decode cX12_row 34 = .ok (.iconst 1, 1) := by decide +kernel
theorem dX12_row_35 : decode cX12_row 35 = .ok (.goto 4, 3) := by decide +kernel
theorem dX12_row_38 : decode cX12_row 38 = .ok (.iconst 0, 1) := by decide +kernel
theorem dX12_row_39 : decode cX12_row 39 = .ok (.iconst 2, 1) := by decide +kernel
theorem dX12_row_40 : decode cX12_row 40 = .ok (.invokevirtual 271, 3) := by decide +kernel
theorem dX12_row_43 : decode cX12_row 43 = .ok (.ifCond .ne 5, 3) := by decide +kernel
theorem dX12_row_46 : decode cX12_row 46 = .ok (.iconst 0, 1) := by decide +kernel
theorem dX12_row_47 : decode cX12_row 47 = .ok (.ireturn, 1) := by decide +kernel
theorem dX12_row_48 : decode cX12_row 48 = .ok (.aload_n 0, 1) := by decide +kernel
theorem dX12_row_49 : decode cX12_row 49 = .ok (.getfield 504, 3) := by decide +kernel
theorem dX12_row_52 : decode cX12_row 52 = .ok (.bipush 12, 2) := by decide +kernel
theorem dX12_row_54 : decode cX12_row 54 = .ok (.if_icmp .ne 5, 3) := by decide +kernel
theorem dX12_row_57 : decode cX12_row 57 = .ok (.iconst (-1), 1) := by decide +kernel
theorem dX12_row_58 : decode cX12_row 58 = .ok (.ireturn, 1) := by decide +kernel
theorem dX12_row_59 : decode cX12_row 59 = .ok (.aload_n 0, 1) := by decide +kernel
theorem dX12_row_60 : decode cX12_row 60 = .ok (.getfield 186, 3) := by decide +kernel
theorem dX12_row_63 : decode cX12_row 63 = .ok (.aload_n 0, 1) := by decide +kernel
theorem dX12_row_64 : decode cX12_row 64 = .ok (.getfield 504, 3) := by decide +kernel
theorem dX12_row_67 : decode cX12_row 67 = .ok (.iload_n 1, 1) := by decide +kernel
theorem dX12_row_68 : decode cX12_row 68 = .ok (.iastore, 1) := by decide +kernel
theorem dX12_row_69 : decode cX12_row 69 = .ok (.aload_n 0, 1) := by decide +kernel
theorem dX12_row_70 : decode cX12_row 70 = .ok (.getfield 189, 3) := by decide +kernel
theorem dX12_row_73 : decode cX12_row 73 = .ok (.aload_n 0, 1) := by decide +kernel
theorem dX12_row_74 : decode cX12_row 74 = .ok (.getfield 504, 3) := by decide +kernel
theorem dX12_row_77 : decode cX12_row 77 = .ok (.iload_n 2, 1) := by decide +kernel
theorem dX12_row_78 : decode cX12_row 78 = .ok (.iastore, 1) := by decide +kernel
theorem dX12_row_79 : decode cX12_row 79 = .ok (.aload_n 0, 1) := by decide +kernel
theorem dX12_row_80 : decode cX12_row 80 = .ok (.getfield 192, 3) := by decide +kernel
theorem dX12_row_83 : decode cX12_row 83 = .ok (.aload_n 0, 1) := by decide +kernel
theorem dX12_row_84 : decode cX12_row 84 = .ok (.getfield 504, 3) := by decide +kernel
theorem dX12_row_87 : decode cX12_row 87 = .ok (.iload_n 3, 1) := by decide +kernel
theorem dX12_row_88 : decode cX12_row 88 = .ok (.iastore, 1) := by decide +kernel
theorem dX12_row_89 : decode cX12_row 89 = .ok (.aload_n 0, 1) := by decide +kernel
theorem dX12_row_90 : decode cX12_row 90 = .ok (.dup, 1) := by decide +kernel
theorem dX12_row_91 : decode cX12_row 91 = .ok (.getfield 504, 3) := by decide +kernel
theorem dX12_row_94 : decode cX12_row 94 = .ok (.iconst 1, 1) := by decide +kernel
theorem dX12_row_95 : decode cX12_row 95 = .ok (.iadd, 1) := by decide +kernel
theorem dX12_row_96 : decode cX12_row 96 = .ok (.putfield 504, 3) := by decide +kernel
theorem dX12_row_99 : decode cX12_row 99 = .ok (.aload_n 0, 1) := by decide +kernel
theorem dX12_row_100 : decode cX12_row 100 = .ok (.getfield 504, 3) := by decide +kernel
theorem dX12_row_103 : decode cX12_row 103 = .ok (.ireturn, 1) := by decide +kernel
theorem dX12_check_0 : decode cX12_check 0 = .ok (.aload_n 0, 1) := by decide +kernel
theorem dX12_check_1 : decode cX12_check 1 = .ok (.iconst 0, 1) := by decide +kernel
theorem dX12_check_2 : decode cX12_check 2 = .ok (.putfield 1, 3) := by decide +kernel
theorem dX12_check_5 : decode cX12_check 5 = .ok (.iconst 0, 1) := by decide +kernel
theorem dX12_check_6 : decode cX12_check 6 = .ok (.istore_n 1, 1) := by decide +kernel
theorem dX12_check_7 : decode cX12_check 7 = .ok (.iload_n 1, 1) := by decide +kernel
theorem dX12_check_8 : decode cX12_check 8 = .ok (.aload_n 0, 1) := by decide +kernel
theorem dX12_check_9 : decode cX12_check 9 = .ok (.getfield 504, 3) := by decide +kernel
theorem dX12_check_12 : decode cX12_check 12 = .ok (.if_icmp .ge 27, 3) := by decide +kernel
theorem dX12_check_15 : decode cX12_check 15 = .ok (.aload_n 0, 1) := by decide +kernel
theorem dX12_check_16 : decode cX12_check 16 = .ok (.iload_n 1, 1) := by decide +kernel
theorem dX12_check_17 : decode cX12_check 17 = .ok (.invokevirtual 510, 3) := by decide +kernel
theorem dX12_check_20 : decode cX12_check 20 = .ok (.ifCond .le 13, 3) := by decide +kernel
theorem dX12_check_23 : decode cX12_check 23 = .ok (.iconst 4, 1) := by decide +kernel
theorem dX12_check_24 : decode cX12_check 24 = .ok (.iload_n 1, 1) := by decide +kernel
theorem dX12_check_25 : decode cX12_check 25 = .ok (.imul, 1) := by decide +kernel
theorem dX12_check_26 : decode cX12_check 26 = .ok (.aload_n 0, 1) := by decide +kernel
theorem dX12_check_27 : decode cX12_check 27 = .ok (.iload_n 1, 1) := by decide +kernel
theorem dX12_check_28 : decode cX12_check 28 = .ok (.invokevirtual 510, 3) := by decide +kernel
theorem dX12_check_31 : decode cX12_check 31 = .ok (.iadd, 1) := by decide +kernel
theorem dX12_check_32 : decode cX12_check 32 = .ok (.ireturn, 1) := by decide +kernel
theorem dX12_check_33 : decode cX12_check 33 = .ok (.iinc 1 1, 3) := by decide +kernel
theorem dX12_check_36 : decode cX12_check 36 = .ok (.goto (-29), 3) := by decide +kernel
theorem dX12_check_39 : decode cX12_check 39 = .ok (.iconst (-1), 1) := by decide +kernel
theorem dX12_check_40 : decode cX12_check 40 = .ok (.ireturn, 1) := by decide +kernel
theorem dX12_clear_0 : decode cX12_clear 0 = .ok (.aload_n 0, 1) := by decide +kernel
theorem dX12_clear_1 : decode cX12_clear 1 = .ok (.iconst 0, 1) := by decide +kernel
theorem dX12_clear_2 : decode cX12_clear 2 = .ok (.putfield 1, 3) := by decide +kernel
theorem dX12_clear_5 : decode cX12_clear 5 = .ok (.aload_n 0, 1) := by decide +kernel
theorem dX12_clear_6 : decode cX12_clear 6 = .ok (.getfield 504, 3) := by decide +kernel
theorem dX12_clear_9 : decode cX12_clear 9 = .ok (.istore_n 1, 1) := by decide +kernel
theorem dX12_clear_10 : decode cX12_clear 10 = .ok (.aload_n 0, 1) := by decide +kernel
theorem dX12_clear_11 : decode cX12_clear 11 = .ok (.iconst 0, 1) := by decide +kernel
theorem dX12_clear_12 : decode cX12_clear 12 = .ok (.putfield 504, 3) := by decide +kernel
theorem dX12_clear_15 : decode cX12_clear 15 = .ok (.iload_n 1, 1) := by decide +kernel
theorem dX12_clear_16 : decode cX12_clear 16 = .ok (.ireturn, 1) := by decide +kernel
theorem dX12_bump_0 : decode cX12_bump 0 = .ok (.aload_n 0, 1) := by decide +kernel
theorem dX12_bump_1 : decode cX12_bump 1 = .ok (.iconst 0, 1) := by decide +kernel
theorem dX12_bump_2 : decode cX12_bump 2 = .ok (.putfield 1, 3) := by decide +kernel
theorem dX12_bump_5 : decode cX12_bump 5 = .ok (.aload_n 0, 1) := by decide +kernel
theorem dX12_bump_6 : decode cX12_bump 6 = .ok (.iload_n 1, 1) := by decide +kernel
theorem dX12_bump_7 : decode cX12_bump 7 = .ok (.invokevirtual 436, 3) := by decide +kernel
theorem dX12_bump_10 : decode cX12_bump 10 = .ok (.ifCond .eq 51, 3) := by decide +kernel
theorem dX12_bump_13 : decode cX12_bump 13 = .ok (.aload_n 0, 1) := by decide +kernel
theorem dX12_bump_14 : decode cX12_bump 14 = .ok (.aload_n 0, 1) := by decide +kernel
theorem dX12_bump_15 : decode cX12_bump 15 = .ok (.iload_n 1, 1) := by decide +kernel
theorem dX12_bump_16 : decode cX12_bump 16 = .ok (.iload_n 2, 1) := by decide +kernel
theorem dX12_bump_17 : decode cX12_bump 17 = .ok (.invokevirtual 442, 3) := by decide +kernel
theorem dX12_bump_20 : decode cX12_bump 20 = .ok (.iconst 2, 1) := by decide +kernel
theorem dX12_bump_21 : decode cX12_bump 21 = .ok (.invokevirtual 271, 3) := by decide +kernel
theorem dX12_bump_24 : decode cX12_bump 24 = .ok (.ifCond .eq 37, 3) := by decide +kernel
theorem dX12_bump_27 : decode cX12_bump 27 = .ok (.aload_n 0, 1) := by decide +kernel
theorem dX12_bump_28 : decode cX12_bump 28 = .ok (.iload_n 3, 1) := by decide +kernel
theorem dX12_bump_29 : decode cX12_bump 29 = .ok (.iconst 1, 1) := by decide +kernel
theorem dX12_bump_30 : decode cX12_bump 30 = .ok (.sipush 1000, 3) := by decide +kernel
theorem dX12_bump_33 : decode cX12_bump 33 = .ok (.invokestatic 267, 3) := by decide +kernel
theorem dX12_bump_36 : decode cX12_bump 36 = .ok (.ifCond .eq 17, 3) := by decide +kernel
theorem dX12_bump_39 : decode cX12_bump 39 = .ok (.iload 4, 2) := by decide +kernel
theorem dX12_bump_41 : decode cX12_bump 41 = .ok (.iconst 0, 1) := by decide +kernel
theorem dX12_bump_42 : decode cX12_bump 42 = .ok (.iconst 2, 1) := by decide +kernel
theorem dX12_bump_43 : decode cX12_bump 43 = .ok (.invokestatic 267, 3) := by decide +kernel
theorem dX12_bump_46 : decode cX12_bump 46 = .ok (.ifCond .eq 7, 3) := by decide +kernel
theorem dX12_bump_49 : decode cX12_bump 49 = .ok (.iconst 1, 1) := by decide +kernel
theorem dX12_bump_50 : decode cX12_bump 50 = .ok (.goto 4, 3) := by decide +kernel
theorem dX12_bump_53 : decode cX12_bump 53 = .ok (.iconst 0, 1) := by decide +kernel
theorem dX12_bump_54 : decode cX12_bump 54 = .ok (.iconst 3, 1) := by decide +kernel
theorem dX12_bump_55 : decode cX12_bump 55 = .ok (.invokevirtual 271, 3) := by decide +kernel
theorem dX12_bump_58 : decode cX12_bump 58 = .ok (.ifCond .ne 5, 3) := by decide +kernel
theorem dX12_bump_61 : decode cX12_bump 61 = .ok (.iconst 0, 1) := by decide +kernel
theorem dX12_bump_62 : decode cX12_bump 62 = .ok (.ireturn, 1) := by decide +kernel
theorem dX12_bump_63 : decode cX12_bump 63 = .ok (.aload_n 0, 1) := by decide +kernel
theorem dX12_bump_64 : decode cX12_bump 64 = .ok (.getfield 107, 3) := by decide +kernel
theorem dX12_bump_67 : decode cX12_bump 67 = .ok (.iload_n 1, 1) := by decide +kernel
theorem dX12_bump_68 : decode cX12_bump 68 = .ok (.iaload, 1) := by decide +kernel
theorem dX12_bump_69 : decode cX12_bump 69 = .ok (.invokestatic 474, 3) := by decide +kernel
theorem dX12_bump_72 : decode cX12_bump 72 = .ok (.istore 5, 2) := by decide +kernel
theorem dX12_bump_74 : decode cX12_bump 74 = .ok (.iload_n 2, 1) := by decide +kernel
theorem dX12_bump_75 : decode cX12_bump 75 = .ok (.istore 6, 2) := by decide +kernel
theorem dX12_bump_77 : decode cX12_bump 77 = .ok (.iload 6, 2) := by decide +kernel
theorem dX12_bump_79 : decode cX12_bump 79 = .ok (.ifCond .le 23, 3) := by decide +kernel
theorem dX12_bump_82 : decode cX12_bump 82 = .ok (.aload_n 0, 1) := by decide +kernel
theorem dX12_bump_83 : decode cX12_bump 83 = .ok (.iload_n 1, 1) := by decide +kernel
theorem dX12_bump_84 : decode cX12_bump 84 = .ok (.iload 6, 2) := by decide +kernel
theorem dX12_bump_86 : decode cX12_bump 86 = .ok (.iload 6, 2) := by decide +kernel
theorem dX12_bump_88 : decode cX12_bump 88 = .ok (.iconst 1, 1) := by decide +kernel
theorem dX12_bump_89 : decode cX12_bump 89 = .ok (.isub, 1) := by decide +kernel
theorem dX12_bump_90 : decode cX12_bump 90 = .ok (.invokevirtual 465, 3) := by decide +kernel
theorem dX12_bump_93 : decode cX12_bump 93 = .ok (.ifCond .ne 9, 3) := by decide +kernel
theorem dX12_bump_96 : decode cX12_bump 96 = .ok (.iinc 6 (-1), 3) := by decide +kernel
theorem dX12_bump_99 : decode cX12_bump 99 = .ok (.goto (-22), 3) := by decide +kernel
theorem dX12_bump_102 : decode cX12_bump 102 = .ok (.iload_n 3, 1) := by decide +kernel
theorem dX12_bump_103 : decode cX12_bump 103 = .ok (.aload_n 0, 1) := by decide +kernel
theorem dX12_bump_104 : decode cX12_bump 104 = .ok (.getfield 104, 3) := by decide +kernel
theorem dX12_bump_107 : decode cX12_bump 107 = .ok (.iload_n 1, 1) := by decide +kernel
theorem dX12_bump_108 : decode cX12_bump 108 = .ok (.iaload, 1) := by decide +kernel
theorem dX12_bump_109 : decode cX12_bump 109 = .ok (.iload_n 2, 1) := by decide +kernel
theorem dX12_bump_110 : decode cX12_bump 110 = .ok (.isub, 1) := by decide +kernel
theorem dX12_bump_111 : decode cX12_bump 111 = .ok (.imul, 1) := by decide +kernel
theorem dX12_bump_112 : decode cX12_bump 112 = .ok (.istore 7, 2) := by decide +kernel
theorem dX12_bump_114 : decode cX12_bump 114 = .ok (.iload_n 2, 1) := by decide +kernel
theorem dX12_bump_115 : decode cX12_bump 115 = .ok (.iload 6, 2) := by decide +kernel
theorem dX12_bump_117 : decode cX12_bump 117 = .ok (.isub, 1) := by decide +kernel
theorem dX12_bump_118 : decode cX12_bump 118 = .ok (.iconst 1, 1) := by decide +kernel
theorem dX12_bump_119 : decode cX12_bump 119 = .ok (.iadd, 1) := by decide +kernel
theorem dX12_bump_120 : decode cX12_bump 120 = .ok (.iload 5, 2) := by decide +kernel
theorem dX12_bump_122 : decode cX12_bump 122 = .ok (.imul, 1) := by decide +kernel
theorem dX12_bump_123 : decode cX12_bump 123 = .ok (.iload_n 3, 1) := by decide +kernel
theorem dX12_bump_124 : decode cX12_bump 124 = .ok (.iadd, 1) := by decide +kernel
theorem dX12_bump_125 : decode cX12_bump 125 = .ok (.istore 8, 2) := by decide +kernel
theorem dX12_bump_127 : decode cX12_bump 127 = .ok (.aload_n 0, 1) := by decide +kernel
theorem dX12_bump_128 : decode cX12_bump 128 = .ok (.getfield 104, 3) := by decide +kernel
theorem dX12_bump_131 : decode cX12_bump 131 = .ok (.iload_n 1, 1) := by decide +kernel
theorem dX12_bump_132 : decode cX12_bump 132 = .ok (.iaload, 1) := by decide +kernel
theorem dX12_bump_133 : decode cX12_bump 133 = .ok (.iload 5, 2) := by decide +kernel
theorem dX12_bump_135 : decode cX12_bump 135 = .ok (.imul, 1) := by decide +kernel
theorem dX12_bump_136 : decode cX12_bump 136 = .ok (.bipush 10, 2) := by decide +kernel
theorem dX12_bump_138 : decode cX12_bump 138 = .ok (.aload_n 0, 1) := by decide +kernel
theorem dX12_bump_139 : decode cX12_bump 139 = .ok (.getfield 159, 3) := by decide +kernel
theorem dX12_bump_142 : decode cX12_bump 142 = .ok (.aload_n 0, 1) := by decide +kernel
theorem dX12_bump_143 : decode cX12_bump 143 = .ok (.getfield 113, 3) := by decide +kernel
theorem dX12_bump_146 : decode cX12_bump 146 = .ok (.iload_n 1, 1) := by decide +kernel
theorem dX12_bump_147 : decode cX12_bump 147 = .ok (.iaload, 1) := by decide +kernel
theorem dX12_bump_148 : decode cX12_bump 148 = .ok (.iaload, 1) := by decide +kernel
theorem dX12_bump_149 : decode cX12_bump 149 = .ok (.imul, 1) := by decide +kernel
theorem dX12_bump_150 : decode cX12_bump 150 = .ok (.iadd, 1) := by decide +kernel
theorem dX12_bump_151 : decode cX12_bump 151 = .ok (.istore 9, 2) := by decide +kernel
theorem dX12_bump_153 : decode cX12_bump 153 = .ok (.iload 7, 2) := by decide +kernel
theorem dX12_bump_155 : decode cX12_bump 155 = .ok (.iload 8, 2) := by decide +kernel
theorem dX12_bump_157 : decode cX12_bump 157 = .ok (.if_icmp .ge 8, 3) := by decide +kernel
theorem dX12_bump_160 : decode cX12_bump 160 = .ok (.iload 7, 2) := by decide +kernel
theorem dX12_bump_162 : decode cX12_bump 162 = .ok (.goto 5, 3) := by decide +kernel
theorem dX12_bump_165 : decode cX12_bump 165 = .ok (.iload 8, 2) := by decide +kernel
theorem dX12_bump_167 : decode cX12_bump 167 = .ok (.istore 10, 2) := by decide +kernel
theorem dX12_bump_169 : decode cX12_bump 169 = .ok (.iload 9, 2) := by decide +kernel
theorem dX12_bump_171 : decode cX12_bump 171 = .ok (.iload 10, 2) := by decide +kernel
theorem dX12_bump_173 : decode cX12_bump 173 = .ok (.if_icmp .ge 8, 3) := by decide +kernel
theorem dX12_bump_176 : decode cX12_bump 176 = .ok (.iload 9, 2) := by decide +kernel
theorem dX12_bump_178 : decode cX12_bump 178 = .ok (.goto 5, 3) := by decide +kernel
theorem dX12_bump_181 : decode cX12_bump 181 = .ok (.iload 10, 2) := by decide +kernel
theorem dX12_bump_183 : decode cX12_bump 183 = .ok (.istore 10, 2) := by decide +kernel
theorem dX12_bump_185 : decode cX12_bump 185 = .ok (.iload 4, 2) := by decide +kernel
theorem dX12_bump_187 : decode cX12_bump 187 = .ok (.ifCond .ne 29, 3) := by decide +kernel
theorem dX12_bump_190 : decode cX12_bump 190 = .ok (.iload 7, 2) := by decide +kernel
theorem dX12_bump_192 : decode cX12_bump 192 = .ok (.iload 10, 2) := by decide +kernel
theorem dX12_bump_194 : decode cX12_bump 194 = .ok (.if_icmp .ne 7, 3) := by decide +kernel
theorem dX12_bump_197 : decode cX12_bump 197 = .ok (.iconst 0, 1) := by decide +kernel
theorem dX12_bump_198 : decode cX12_bump 198 = .ok (.goto 31, 3) := by decide +kernel
theorem dX12_bump_201 : decode cX12_bump 201 = .ok (.iload 8, 2) := by decide +kernel
theorem dX12_bump_203 : decode cX12_bump 203 = .ok (.iload 10, 2) := by decide +kernel
theorem dX12_bump_205 : decode cX12_bump 205 = .ok (.if_icmp .ne 7, 3) := by decide +kernel
theorem dX12_bump_208 : decode cX12_bump 208 = .ok (.iconst 1, 1) := by decide +kernel
theorem dX12_bump_209 : decode cX12_bump 209 = .ok (.goto 20, 3) := by decide +kernel
theorem dX12_bump_212 : decode cX12_bump 212 = .ok (.iconst 2, 1) := by decide +kernel
theorem dX12_bump_213 : decode cX12_bump 213 = .ok (.goto 16, 3) := by decide +kernel
theorem dX12_bump_216 : decode cX12_bump 216 = .ok (.iload 4, 2) := by decide +kernel
theorem dX12_bump_218 : decode cX12_bump 218 = .ok (.iconst 1, 1) := by decide +kernel
theorem dX12_bump_219 : decode cX12_bump 219 = .ok (.if_icmp .ne 8, 3) := by decide +kernel
theorem dX12_bump_222 : decode cX12_bump 222 = .ok (.iload 10, 2) := by decide +kernel
theorem dX12_bump_224 : decode cX12_bump 224 = .ok (.goto 5, 3) := by decide +kernel
theorem dX12_bump_227 : decode cX12_bump 227 = .ok (.iload 6, 2) := by decide +kernel
theorem dX12_bump_229 : decode cX12_bump 229 = .ok (.ireturn, 1) := by decide +kernel
theorem dX12_wait_0 : decode cX12_wait 0 = .ok (.aload_n 0, 1) := by decide +kernel
theorem dX12_wait_1 : decode cX12_wait 1 = .ok (.iconst 0, 1) := by decide +kernel
theorem dX12_wait_2 : decode cX12_wait 2 = .ok (.putfield 1, 3) := by decide +kernel
theorem dX12_wait_5 : decode cX12_wait 5 = .ok (.aload_n 0, 1) := by decide +kernel
theorem dX12_wait_6 : decode cX12_wait 6 = .ok (.iload_n 1, 1) := by decide +kernel
theorem dX12_wait_7 : decode cX12_wait 7 = .ok (.iconst 0, 1) := by decide +kernel
theorem dX12_wait_8 : decode cX12_wait 8 = .ok (.sipush 1000, 3) := by decide +kernel
theorem dX12_wait_11 : decode cX12_wait 11 = .ok (.invokestatic 267, 3) := by decide +kernel
theorem dX12_wait_14 : decode cX12_wait 14 = .ok (.iconst 1, 1) := by decide +kernel
theorem dX12_wait_15 : decode cX12_wait 15 = .ok (.invokevirtual 271, 3) := by decide +kernel
theorem dX12_wait_18 : decode cX12_wait 18 = .ok (.ifCond .ne 5, 3) := by decide +kernel
theorem dX12_wait_21 : decode cX12_wait 21 = .ok (.iconst 0, 1) := by decide +kernel
theorem dX12_wait_22 : decode cX12_wait 22 = .ok (.ireturn, 1) := by decide +kernel
theorem dX12_wait_23 : decode cX12_wait 23 = .ok (.aload_n 0, 1) := by decide +kernel
theorem dX12_wait_24 : decode cX12_wait 24 = .ok (.dup, 1) := by decide +kernel
theorem dX12_wait_25 : decode cX12_wait 25 = .ok (.getfield 513, 3) := by decide +kernel
theorem dX12_wait_28 : decode cX12_wait 28 = .ok (.iload_n 1, 1) := by decide +kernel
theorem dX12_wait_29 : decode cX12_wait 29 = .ok (.iadd, 1) := by decide +kernel
theorem dX12_wait_30 : decode cX12_wait 30 = .ok (.putfield 513, 3) := by decide +kernel
theorem dX12_wait_33 : decode cX12_wait 33 = .ok (.aload_n 0, 1) := by decide +kernel
theorem dX12_wait_34 : decode cX12_wait 34 = .ok (.getfield 513, 3) := by decide +kernel
theorem dX12_wait_37 : decode cX12_wait 37 = .ok (.ireturn, 1) := by decide +kernel
theorem dX12_shoot_0 : decode cX12_shoot 0 = .ok (.aload_n 0, 1) := by decide +kernel
theorem dX12_shoot_1 : decode cX12_shoot 1 = .ok (.iconst 0, 1) := by decide +kernel
theorem dX12_shoot_2 : decode cX12_shoot 2 = .ok (.putfield 1, 3) := by decide +kernel
theorem dX12_shoot_5 : decode cX12_shoot 5 = .ok (.aload_n 0, 1) := by decide +kernel
theorem dX12_shoot_6 : decode cX12_shoot 6 = .ok (.iload_n 1, 1) := by decide +kernel
theorem dX12_shoot_7 : decode cX12_shoot 7 = .ok (.invokevirtual 436, 3) := by decide +kernel
theorem dX12_shoot_10 : decode cX12_shoot 10 = .ok (.ifCond .eq 19, 3) := by decide +kernel
theorem dX12_shoot_13 : decode cX12_shoot 13 = .ok (.aload_n 0, 1) := by decide +kernel
theorem dX12_shoot_14 : decode cX12_shoot 14 = .ok (.iload_n 2, 1) := by decide +kernel
theorem dX12_shoot_15 : decode cX12_shoot 15 = .ok (.iconst 0, 1) := by decide +kernel
theorem dX12_shoot_16 : decode cX12_shoot 16 = .ok (.sipush 400, 3) := by decide +kernel
theorem dX12_shoot_19 : decode cX12_shoot 19 = .ok (.invokestatic 267, 3) := by decide +kernel
theorem dX12_shoot_22 : decode cX12_shoot 22 = .ok (.iconst 2, 1) := by decide +kernel
theorem dX12_shoot_23 : decode cX12_shoot 23 = .ok (.invokevirtual 271, 3) := by decide +kernel
theorem dX12_shoot_26 : decode cX12_shoot 26 = .ok (.ifCond .ne 5, 3) := by decide +kernel
theorem dX12_shoot_29 : decode cX12_shoot 29 = .ok (.iconst 0, 1) := by decide +kernel
theorem dX12_shoot_30 : decode cX12_shoot 30 = .ok (.ireturn, 1) := by decide +kernel
theorem dX12_shoot_31 : decode cX12_shoot 31 = .ok (.aload_n 0, 1) := by decide +kernel
theorem dX12_shoot_32 : decode cX12_shoot 32 = .ok (.getfield 116, 3) := by decide +kernel
theorem dX12_shoot_35 : decode cX12_shoot 35 = .ok (.iload_n 1, 1) := by decide +kernel
theorem dX12_shoot_36 : decode cX12_shoot 36 = .ok (.iaload, 1) := by decide +kernel
theorem dX12_shoot_37 : decode cX12_shoot 37 = .ok (.iload_n 2, 1) := by decide +kernel
theorem dX12_shoot_38 : decode cX12_shoot 38 = .ok (.iadd, 1) := by decide +kernel
theorem dX12_shoot_39 : decode cX12_shoot 39 = .ok (.aload_n 0, 1) := by decide +kernel
theorem dX12_shoot_40 : decode cX12_shoot 40 = .ok (.getfield 104, 3) := by decide +kernel
theorem dX12_shoot_43 : decode cX12_shoot 43 = .ok (.iload_n 1, 1) := by decide +kernel
theorem dX12_shoot_44 : decode cX12_shoot 44 = .ok (.iaload, 1) := by decide +kernel
theorem dX12_shoot_45 : decode cX12_shoot 45 = .ok (.if_icmp .le 5, 3) := by decide +kernel
theorem dX12_shoot_48 : decode cX12_shoot 48 = .ok (.iconst (-1), 1) := by decide +kernel
theorem dX12_shoot_49 : decode cX12_shoot 49 = .ok (.ireturn, 1) := by decide +kernel
theorem dX12_shoot_50 : decode cX12_shoot 50 = .ok (.iconst 0, 1) := by decide +kernel
theorem dX12_shoot_51 : decode cX12_shoot 51 = .ok (.istore_n 3, 1) := by decide +kernel
theorem dX12_shoot_52 : decode cX12_shoot 52 = .ok (.iload_n 3, 1) := by decide +kernel
theorem dX12_shoot_53 : decode cX12_shoot 53 = .ok (.iload_n 2, 1) := by decide +kernel
theorem dX12_shoot_54 : decode cX12_shoot 54 = .ok (.if_icmp .ge 30, 3) := by decide +kernel
theorem dX12_shoot_57 : decode cX12_shoot 57 = .ok (.aload_n 0, 1) := by decide +kernel
theorem dX12_shoot_58 : decode cX12_shoot 58 = .ok (.getfield 119, 3) := by decide +kernel
theorem dX12_shoot_61 : decode cX12_shoot 61 = .ok (.iload_n 1, 1) := by decide +kernel
theorem dX12_shoot_62 : decode cX12_shoot 62 = .ok (.aload_n 0, 1) := by decide +kernel
theorem dX12_shoot_63 : decode cX12_shoot 63 = .ok (.getfield 116, 3) := by decide +kernel
theorem dX12_shoot_66 : decode cX12_shoot 66 = .ok (.iload_n 1, 1) := by decide +kernel
theorem dX12_shoot_67 : decode cX12_shoot 67 = .ok (.iaload, 1) := by decide +kernel
theorem dX12_shoot_68 : decode cX12_shoot 68 = .ok (.iload_n 3, 1) := by decide +kernel
theorem dX12_shoot_69 : decode cX12_shoot 69 = .ok (.iadd, 1) := by decide +kernel
theorem dX12_shoot_70 : decode cX12_shoot 70 = .ok (.invokestatic 404, 3) := by decide +kernel
theorem dX12_shoot_73 : decode cX12_shoot 73 = .ok (.aload_n 0, 1) := by decide +kernel
theorem dX12_shoot_74 : decode cX12_shoot 74 = .ok (.getfield 513, 3) := by decide +kernel
theorem dX12_shoot_77 : decode cX12_shoot 77 = .ok (.iastore, 1) := by decide +kernel
theorem dX12_shoot_78 : decode cX12_shoot 78 = .ok (.iinc 3 1, 3) := by decide +kernel
theorem dX12_shoot_81 : decode cX12_shoot 81 = .ok (.goto (-29), 3) := by decide +kernel
theorem dX12_shoot_84 : decode cX12_shoot 84 = .ok (.aload_n 0, 1) := by decide +kernel
theorem dX12_shoot_85 : decode cX12_shoot 85 = .ok (.getfield 116, 3) := by decide +kernel
theorem dX12_shoot_88 : decode cX12_shoot 88 = .ok (.iload_n 1, 1) := by decide +kernel
theorem dX12_shoot_89 : decode cX12_shoot 89 = .ok (.dup2, 1) := by decide +kernel
theorem dX12_shoot_90 : decode cX12_shoot 90 = .ok (.iaload, 1) := by decide +kernel
theorem dX12_shoot_91 : decode cX12_shoot 91 = .ok (.iload_n 2, 1) := by decide +kernel
theorem dX12_shoot_92 : decode cX12_shoot 92 = .ok (.iadd, 1) := by decide +kernel
theorem dX12_shoot_93 : decode cX12_shoot 93 = .ok (.iastore, 1) := by decide +kernel
theorem dX12_shoot_94 : decode cX12_shoot 94 = .ok (.aload_n 0, 1) := by decide +kernel
theorem dX12_shoot_95 : decode cX12_shoot 95 = .ok (.getfield 116, 3) := by decide +kernel
theorem dX12_shoot_98 : decode cX12_shoot 98 = .ok (.iload_n 1, 1) := by decide +kernel
theorem dX12_shoot_99 : decode cX12_shoot 99 = .ok (.iaload, 1) := by decide +kernel
theorem dX12_shoot_100 : decode cX12_shoot 100 = .ok (.ireturn, 1) := by decide +kernel
theorem dX12_when_0 : decode cX12_when 0 = .ok (.aload_n 0, 1) := by decide +kernel
theorem dX12_when_1 : decode cX12_when 1 = .ok (.iconst 0, 1) := by decide +kernel
theorem dX12_when_2 : decode cX12_when 2 = .ok (.putfield 1, 3) := by decide +kernel
theorem dX12_when_5 : decode cX12_when 5 = .ok (.aload_n 0, 1) := by decide +kernel
theorem dX12_when_6 : decode cX12_when 6 = .ok (.iload_n 1, 1) := by decide +kernel
theorem dX12_when_7 : decode cX12_when 7 = .ok (.invokevirtual 436, 3) := by decide +kernel
theorem dX12_when_10 : decode cX12_when 10 = .ok (.ifCond .eq 17, 3) := by decide +kernel
theorem dX12_when_13 : decode cX12_when 13 = .ok (.aload_n 0, 1) := by decide +kernel
theorem dX12_when_14 : decode cX12_when 14 = .ok (.aload_n 0, 1) := by decide +kernel
theorem dX12_when_15 : decode cX12_when 15 = .ok (.iload_n 1, 1) := by decide +kernel
theorem dX12_when_16 : decode cX12_when 16 = .ok (.iload_n 2, 1) := by decide +kernel
theorem dX12_when_17 : decode cX12_when 17 = .ok (.invokevirtual 442, 3) := by decide +kernel
theorem dX12_when_20 : decode cX12_when 20 = .ok (.iconst 2, 1) := by decide +kernel
theorem dX12_when_21 : decode cX12_when 21 = .ok (.invokevirtual 271, 3) := by decide +kernel
theorem dX12_when_24 : decode cX12_when 24 = .ok (.ifCond .ne 5, 3) := by decide +kernel
theorem dX12_when_27 : decode cX12_when 27 = .ok (.iconst 0, 1) := by decide +kernel
theorem dX12_when_28 : decode cX12_when 28 = .ok (.ireturn, 1) := by decide +kernel
theorem dX12_when_29 : decode cX12_when 29 = .ok (.iload_n 2, 1) := by decide +kernel
theorem dX12_when_30 : decode cX12_when 30 = .ok (.aload_n 0, 1) := by decide +kernel
theorem dX12_when_31 : decode cX12_when 31 = .ok (.getfield 116, 3) := by decide +kernel
theorem dX12_when_34 : decode cX12_when 34 = .ok (.iload_n 1, 1) := by decide +kernel
theorem dX12_when_35 : decode cX12_when 35 = .ok (.iaload, 1) := by decide +kernel
theorem dX12_when_36 : decode cX12_when 36 = .ok (.if_icmp .ge 16, 3) := by decide +kernel
theorem dX12_when_39 : decode cX12_when 39 = .ok (.aload_n 0, 1) := by decide +kernel
theorem dX12_when_40 : decode cX12_when 40 = .ok (.getfield 119, 3) := by decide +kernel
theorem dX12_when_43 : decode cX12_when 43 = .ok (.iload_n 1, 1) := by decide +kernel
theorem dX12_when_44 : decode cX12_when 44 = .ok (.iload_n 2, 1) := by decide +kernel
theorem dX12_when_45 : decode cX12_when 45 = .ok (.invokestatic 404, 3) := by decide +kernel
theorem dX12_when_48 : decode cX12_when 48 = .ok (.iaload, 1) := by decide +kernel
theorem dX12_when_49 : decode cX12_when 49 = .ok (.goto 4, 3) := by decide +kernel
theorem dX12_when_52 : decode cX12_when 52 = .ok (.iconst (-1), 1) := by decide +kernel
theorem dX12_when_53 : decode cX12_when 53 = .ok (.ireturn, 1) := by decide +kernel
theorem dX12_measure_0 : decode cX12_measure 0 = .ok (.aload_n 0, 1) := by decide +kernel
theorem dX12_measure_1 : decode cX12_measure 1 = .ok (.iconst 0, 1) := by decide +kernel
theorem dX12_measure_2 : decode cX12_measure 2 = .ok (.putfield 1, 3) := by decide +kernel
theorem dX12_measure_5 : decode cX12_measure 5 = .ok (.aload_n 0, 1) := by decide +kernel
theorem dX12_measure_6 : decode cX12_measure 6 = .ok (.iload_n 1, 1) := by decide +kernel
theorem dX12_measure_7 : decode cX12_measure 7 = .ok (.invokevirtual 436, 3) := by decide +kernel
theorem dX12_measure_10 : decode cX12_measure 10 = .ok (.ifCond .eq 35, 3) := by decide +kernel
theorem dX12_measure_13 : decode cX12_measure 13 = .ok (.aload_n 0, 1) := by decide +kernel
theorem dX12_measure_14 : decode cX12_measure 14 = .ok (.aload_n 0, 1) := by decide +kernel
theorem dX12_measure_15 : decode cX12_measure 15 = .ok (.iload_n 1, 1) := by decide +kernel
theorem dX12_measure_16 : decode cX12_measure 16 = .ok (.iload_n 2, 1) := by decide +kernel
theorem dX12_measure_17 : decode cX12_measure 17 = .ok (.invokevirtual 442, 3) := by decide +kernel
theorem dX12_measure_20 : decode cX12_measure 20 = .ok (.iconst 2, 1) := by decide +kernel
theorem dX12_measure_21 : decode cX12_measure 21 = .ok (.invokevirtual 271, 3) := by decide +kernel
theorem dX12_measure_24 : decode cX12_measure 24 = .ok (.ifCond .eq 21, 3) := by decide +kernel
theorem dX12_measure_27 : decode cX12_measure 27 = .ok (.aload_n 0, 1) := by decide +kernel
theorem dX12_measure_28 : decode cX12_measure 28 = .ok (.iload_n 3, 1) := by decide +kernel
theorem dX12_measure_29 : decode cX12_measure 29 = .ok (.sipush (-1000), 3) := by decide +kernel
theorem dX12_measure_32 : decode cX12_measure 32 = .ok (.sipush 1000, 3) := by decide +kernel
theorem dX12_measure_35 : decode cX12_measure 35 = .ok (.invokestatic 267, 3) := by decide +kernel
theorem dX12_measure_38 : decode cX12_measure 38 = .ok (.iconst 3, 1) := by decide +kernel
theorem dX12_measure_39 : decode cX12_measure 39 = .ok (.invokevirtual 271, 3) := by decide +kernel
theorem dX12_measure_42 : decode cX12_measure 42 = .ok (.ifCond .ne 5, 3) := by decide +kernel
theorem dX12_measure_45 : decode cX12_measure 45 = .ok (.iconst 0, 1) := by decide +kernel
theorem dX12_measure_46 : decode cX12_measure 46 = .ok (.ireturn, 1) := by decide +kernel
theorem dX12_measure_47 : decode cX12_measure 47 = .ok (.iload_n 2, 1) := by decide +kernel
theorem dX12_measure_48 : decode cX12_measure 48 = .ok (.aload_n 0, 1) := by decide +kernel
theorem dX12_measure_49 : decode cX12_measure 49 = .ok (.getfield 116, 3) := by decide +kernel
theorem dX12_measure_52 : decode cX12_measure 52 = .ok (.iload_n 1, 1) := by decide +kernel
theorem dX12_measure_53 : decode cX12_measure 53 = .ok (.iaload, 1) := by decide +kernel
theorem dX12_measure_54 : decode cX12_measure 54 = .ok (.if_icmp .lt 5, 3) := by decide +kernel
theorem dX12_measure_57 : decode cX12_measure 57 = .ok (.iconst (-1), 1) := by decide +kernel
theorem dX12_measure_58 : decode cX12_measure 58 = .ok (.ireturn, 1) := by decide +kernel
theorem dX12_measure_59 : decode cX12_measure 59 = .ok (.aload_n 0, 1) := by decide +kernel
theorem dX12_measure_60 : decode cX12_measure 60 = .ok (.getfield 516, 3) := by decide +kernel
theorem dX12_measure_63 : decode cX12_measure 63 = .ok (.bipush 80, 2) := by decide +kernel
theorem dX12_measure_65 : decode cX12_measure 65 = .ok (.if_icmp .ne 6, 3) := by decide +kernel
theorem dX12_measure_68 : decode cX12_measure 68 = .ok (.bipush (-2), 2) := by decide +kernel
theorem dX12_measure_70 : decode cX12_measure 70 = .ok (.ireturn, 1) := by decide +kernel
theorem dX12_measure_71 : decode cX12_measure 71 = .ok (.aload_n 0, 1) := by decide +kernel
theorem dX12_measure_72 : decode cX12_measure 72 = .ok (.getfield 195, 3) := by decide +kernel
theorem dX12_measure_75 : decode cX12_measure 75 = .ok (.aload_n 0, 1) := by decide +kernel
theorem dX12_measure_76 : decode cX12_measure 76 = .ok (.getfield 516, 3) := by decide +kernel
theorem dX12_measure_79 : decode cX12_measure 79 = .ok (.iload_n 1, 1) := by decide +kernel
theorem dX12_measure_80 : decode cX12_measure 80 = .ok (.iastore, 1) := by decide +kernel
theorem dX12_measure_81 : decode cX12_measure 81 = .ok (.aload_n 0, 1) := by decide +kernel
theorem dX12_measure_82 : decode cX12_measure 82 = .ok (.getfield 198, 3) := by decide +kernel
theorem dX12_measure_85 : decode cX12_measure 85 = .ok (.aload_n 0, 1) := by decide +kernel
theorem dX12_measure_86 : decode cX12_measure 86 = .ok (.getfield 516, 3) := by decide +kernel
theorem dX12_measure_89 : decode cX12_measure 89 = .ok (.iload_n 2, 1) := by decide +kernel
theorem dX12_measure_90 : decode cX12_measure 90 = .ok (.iastore, 1) := by decide +kernel
theorem dX12_measure_91 : decode cX12_measure 91 = .ok (.aload_n 0, 1) := by decide +kernel
theorem dX12_measure_92 : decode cX12_measure 92 = .ok (.getfield 201, 3) := by decide +kernel
theorem dX12_measure_95 : decode cX12_measure 95 = .ok (.aload_n 0, 1) := by decide +kernel
theorem dX12_measure_96 : decode cX12_measure 96 = .ok (.getfield 516, 3) := by decide +kernel
theorem dX12_measure_99 : decode cX12_measure 99 = .ok (.aload_n 0, 1) := by decide +kernel
theorem dX12_measure_100 : decode cX12_measure 100 = .ok (.getfield 513, 3) := by decide +kernel
theorem dX12_measure_103 : decode cX12_measure 103 = .ok (.iastore, 1) := by decide +kernel
theorem dX12_measure_104 : decode cX12_measure 104 = .ok (.aload_n 0, 1) := by decide +kernel
theorem dX12_measure_105 : decode cX12_measure 105 = .ok (.getfield 204, 3) := by decide +kernel
theorem dX12_measure_108 : decode cX12_measure 108 = .ok (.aload_n 0, 1) := by decide +kernel
theorem dX12_measure_109 : decode cX12_measure 109 = .ok (.getfield 516, 3) := by decide +kernel
theorem dX12_measure_112 : decode cX12_measure 112 = .ok (.iload_n 3, 1) := by decide +kernel
theorem dX12_measure_113 : decode cX12_measure 113 = .ok (.iastore, 1) := by decide +kernel
theorem dX12_measure_114 : decode cX12_measure 114 = .ok (.aload_n 0, 1) := by decide +kernel
theorem dX12_measure_115 : decode cX12_measure 115 = .ok (.dup, 1) := by decide +kernel
theorem dX12_measure_116 : decode cX12_measure 116 = .ok (.getfield 516, 3) := by decide +kernel
theorem dX12_measure_119 : decode cX12_measure 119 = .ok (.iconst 1, 1) := by decide +kernel
theorem dX12_measure_120 : decode cX12_measure 120 = .ok (.iadd, 1) := by decide +kernel
theorem dX12_measure_121 : decode cX12_measure 121 = .ok (.putfield 516, 3) := by decide +kernel
theorem dX12_measure_124 : decode cX12_measure 124 = .ok (.aload_n 0, 1) := by decide +kernel
theorem dX12_measure_125 : decode cX12_measure 125 = .ok (.getfield 516, 3) := by decide +kernel
theorem dX12_measure_128 : decode cX12_measure 128 = .ok (.ireturn, 1) := by decide +kernel
theorem dX12_mended_0 : decode cX12_mended 0 = .ok (.aload_n 0, 1) := by decide +kernel
theorem dX12_mended_1 : decode cX12_mended 1 = .ok (.iconst 0, 1) := by decide +kernel
theorem dX12_mended_2 : decode cX12_mended 2 = .ok (.putfield 1, 3) := by decide +kernel
theorem dX12_mended_5 : decode cX12_mended 5 = .ok (.aload_n 0, 1) := by decide +kernel
theorem dX12_mended_6 : decode cX12_mended 6 = .ok (.iload_n 1, 1) := by decide +kernel
theorem dX12_mended_7 : decode cX12_mended 7 = .ok (.invokevirtual 436, 3) := by decide +kernel
theorem dX12_mended_10 : decode cX12_mended 10 = .ok (.ifCond .eq 17, 3) := by decide +kernel
theorem dX12_mended_13 : decode cX12_mended 13 = .ok (.aload_n 0, 1) := by decide +kernel
theorem dX12_mended_14 : decode cX12_mended 14 = .ok (.aload_n 0, 1) := by decide +kernel
theorem dX12_mended_15 : decode cX12_mended 15 = .ok (.iload_n 1, 1) := by decide +kernel
theorem dX12_mended_16 : decode cX12_mended 16 = .ok (.iload_n 2, 1) := by decide +kernel
theorem dX12_mended_17 : decode cX12_mended 17 = .ok (.invokevirtual 442, 3) := by decide +kernel
theorem dX12_mended_20 : decode cX12_mended 20 = .ok (.iconst 2, 1) := by decide +kernel
theorem dX12_mended_21 : decode cX12_mended 21 = .ok (.invokevirtual 271, 3) := by decide +kernel
theorem dX12_mended_24 : decode cX12_mended 24 = .ok (.ifCond .ne 5, 3) := by decide +kernel
theorem dX12_mended_27 : decode cX12_mended 27 = .ok (.iconst 0, 1) := by decide +kernel
theorem dX12_mended_28 : decode cX12_mended 28 = .ok (.ireturn, 1) := by decide +kernel
theorem dX12_mended_29 : decode cX12_mended 29 = .ok (.aload_n 0, 1) := by decide +kernel
theorem dX12_mended_30 : decode cX12_mended 30 = .ok (.iload_n 1, 1) := by decide +kernel
theorem dX12_mended_31 : decode cX12_mended 31 = .ok (.iload_n 2, 1) := by decide +kernel
theorem dX12_mended_32 : decode cX12_mended 32 = .ok (.iload_n 3, 1) := by decide +kernel
theorem dX12_mended_33 : decode cX12_mended 33 = .ok (.invokevirtual 522, 3) := by decide +kernel
theorem dX12_mended_36 : decode cX12_mended 36 = .ok (.ireturn, 1) := by decide +kernel
theorem dX12_leap_0 : decode cX12_leap 0 = .ok (.aload_n 0, 1) := by decide +kernel
theorem dX12_leap_1 : decode cX12_leap 1 = .ok (.iconst 0, 1) := by decide +kernel
theorem dX12_leap_2 : decode cX12_leap 2 = .ok (.putfield 1, 3) := by decide +kernel
theorem dX12_leap_5 : decode cX12_leap 5 = .ok (.aload_n 0, 1) := by decide +kernel
theorem dX12_leap_6 : decode cX12_leap 6 = .ok (.iload_n 1, 1) := by decide +kernel
theorem dX12_leap_7 : decode cX12_leap 7 = .ok (.invokevirtual 436, 3) := by decide +kernel
theorem dX12_leap_10 : decode cX12_leap 10 = .ok (.ifCond .ne 5, 3) := by decide +kernel
theorem dX12_leap_13 : decode cX12_leap 13 = .ok (.iconst 0, 1) := by decide +kernel
theorem dX12_leap_14 : decode cX12_leap 14 = .ok (.ireturn, 1) := by decide +kernel
theorem dX12_leap_15 : decode cX12_leap 15 = .ok (.iconst 0, 1) := by decide +kernel
theorem dX12_leap_16 : decode cX12_leap 16 = .ok (.istore_n 3, 1) := by decide +kernel
theorem dX12_leap_17 : decode cX12_leap 17 = .ok (.iconst 1, 1) := by decide +kernel
theorem dX12_leap_18 : decode cX12_leap 18 = .ok (.istore 4, 2) := by decide +kernel
theorem dX12_leap_20 : decode cX12_leap 20 = .ok (.iload 4, 2) := by decide +kernel
theorem dX12_leap_22 : decode cX12_leap 22 = .ok (.aload_n 0, 1) := by decide +kernel
theorem dX12_leap_23 : decode cX12_leap 23 = .ok (.getfield 116, 3) := by decide +kernel
theorem dX12_leap_26 : decode cX12_leap 26 = .ok (.iload_n 1, 1) := by decide +kernel
theorem dX12_leap_27 : decode cX12_leap 27 = .ok (.iaload, 1) := by decide +kernel
theorem dX12_leap_28 : decode cX12_leap 28 = .ok (.if_icmp .ge 58, 3) := by decide +kernel
theorem dX12_leap_31 : decode cX12_leap 31 = .ok (.aload_n 0, 1) := by decide +kernel
theorem dX12_leap_32 : decode cX12_leap 32 = .ok (.iload_n 1, 1) := by decide +kernel
theorem dX12_leap_33 : decode cX12_leap 33 = .ok (.iload 4, 2) := by decide +kernel
theorem dX12_leap_35 : decode cX12_leap 35 = .ok (.iload_n 2, 1) := by decide +kernel
theorem dX12_leap_36 : decode cX12_leap 36 = .ok (.invokevirtual 522, 3) := by decide +kernel
theorem dX12_leap_39 : decode cX12_leap 39 = .ok (.aload_n 0, 1) := by decide +kernel
theorem dX12_leap_40 : decode cX12_leap 40 = .ok (.iload_n 1, 1) := by decide +kernel
theorem dX12_leap_41 : decode cX12_leap 41 = .ok (.iload 4, 2) := by decide +kernel
theorem dX12_leap_43 : decode cX12_leap 43 = .ok (.iconst 1, 1) := by decide +kernel
theorem dX12_leap_44 : decode cX12_leap 44 = .ok (.isub, 1) := by decide +kernel
theorem dX12_leap_45 : decode cX12_leap 45 = .ok (.iload_n 2, 1) := by decide +kernel
theorem dX12_leap_46 : decode cX12_leap 46 = .ok (.invokevirtual 522, 3) := by decide +kernel
theorem dX12_leap_49 : decode cX12_leap 49 = .ok (.isub, 1) := by decide +kernel
theorem dX12_leap_50 : decode cX12_leap 50 = .ok (.istore 5, 2) := by decide +kernel
theorem dX12_leap_52 : decode cX12_leap 52 = .ok (.iload 5, 2) := by decide +kernel
theorem dX12_leap_54 : decode cX12_leap 54 = .ok (.ifCond .ge 9, 3) := by decide +kernel
theorem dX12_leap_57 : decode cX12_leap 57 = .ok (.iload 5, 2) := by decide +kernel
theorem dX12_leap_59 : decode cX12_leap 59 = .ok (.ineg, 1) := by decide +kernel
theorem dX12_leap_60 : decode cX12_leap 60 = .ok (.goto 5, 3) := by decide +kernel
theorem dX12_leap_63 : decode cX12_leap 63 = .ok (.iload 5, 2) := by decide +kernel
theorem dX12_leap_65 : decode cX12_leap 65 = .ok (.istore 5, 2) := by decide +kernel
theorem dX12_leap_67 : decode cX12_leap 67 = .ok (.iload 5, 2) := by decide +kernel
theorem dX12_leap_69 : decode cX12_leap 69 = .ok (.iload_n 3, 1) := by decide +kernel
theorem dX12_leap_70 : decode cX12_leap 70 = .ok (.if_icmp .le 8, 3) := by decide +kernel
theorem dX12_leap_73 : decode cX12_leap 73 = .ok (.iload 5, 2) := by decide +kernel
theorem dX12_leap_75 : decode cX12_leap 75 = .ok (.goto 4, 3) := by decide +kernel
theorem dX12_leap_78 : decode cX12_leap 78 = .ok (.iload_n 3, 1) := by decide +kernel
theorem dX12_leap_79 : decode cX12_leap 79 = .ok (.istore_n 3, 1) := by decide +kernel
theorem dX12_leap_80 : decode cX12_leap 80 = .ok (.iinc 4 1, 3) := by decide +kernel
theorem dX12_leap_83 : decode cX12_leap 83 = .ok (.goto (-63), 3) := by decide +kernel
theorem dX12_leap_86 : decode cX12_leap 86 = .ok (.iload_n 3, 1) := by decide +kernel
theorem dX12_leap_87 : decode cX12_leap 87 = .ok (.ireturn, 1) := by decide +kernel
theorem dX12_paint_0 : decode cX12_paint 0 = .ok (.aload_n 0, 1) := by decide +kernel
theorem dX12_paint_1 : decode cX12_paint 1 = .ok (.iconst 0, 1) := by decide +kernel
theorem dX12_paint_2 : decode cX12_paint 2 = .ok (.putfield 1, 3) := by decide +kernel
theorem dX12_paint_5 : decode cX12_paint 5 = .ok (.aload_n 0, 1) := by decide +kernel
theorem dX12_paint_6 : decode cX12_paint 6 = .ok (.iload_n 1, 1) := by decide +kernel
theorem dX12_paint_7 : decode cX12_paint 7 = .ok (.invokevirtual 436, 3) := by decide +kernel
theorem dX12_paint_10 : decode cX12_paint 10 = .ok (.ifCond .eq 39, 3) := by decide +kernel
theorem dX12_paint_13 : decode cX12_paint 13 = .ok (.aload_n 0, 1) := by decide +kernel
theorem dX12_paint_14 : decode cX12_paint 14 = .ok (.aload_n 0, 1) := by decide +kernel
theorem dX12_paint_15 : decode cX12_paint 15 = .ok (.iload_n 1, 1) := by decide +kernel
theorem dX12_paint_16 : decode cX12_paint 16 = .ok (.iload_n 2, 1) := by decide +kernel
theorem dX12_paint_17 : decode cX12_paint 17 = .ok (.invokevirtual 442, 3) := by decide +kernel
theorem dX12_paint_20 : decode cX12_paint 20 = .ok (.ifCond .eq 21, 3) := by decide +kernel
theorem dX12_paint_23 : decode cX12_paint 23 = .ok (.aload_n 0, 1) := by decide +kernel
theorem dX12_paint_24 : decode cX12_paint 24 = .ok (.iload_n 1, 1) := by decide +kernel
theorem dX12_paint_25 : decode cX12_paint 25 = .ok (.iload_n 3, 1) := by decide +kernel
theorem dX12_paint_26 : decode cX12_paint 26 = .ok (.invokevirtual 442, 3) := by decide +kernel
theorem dX12_paint_29 : decode cX12_paint 29 = .ok (.ifCond .eq 12, 3) := by decide +kernel
theorem dX12_paint_32 : decode cX12_paint 32 = .ok (.iload_n 2, 1) := by decide +kernel
theorem dX12_paint_33 : decode cX12_paint 33 = .ok (.iload_n 3, 1) := by decide +kernel
theorem dX12_paint_34 : decode cX12_paint 34 = .ok (.if_icmp .gt 7, 3) := by decide +kernel
theorem dX12_paint_37 : decode cX12_paint 37 = .ok (.iconst 1, 1) := by decide +kernel
theorem dX12_paint_38 : decode cX12_paint 38 = .ok (.goto 4, 3) := by decide +kernel
theorem dX12_paint_41 : decode cX12_paint 41 = .ok (.iconst 0, 1) := by decide +kernel
theorem dX12_paint_42 : decode cX12_paint 42 = .ok (.iconst 2, 1) := by decide +kernel
theorem dX12_paint_43 : decode cX12_paint 43 = .ok (.invokevirtual 271, 3) := by decide +kernel
theorem dX12_paint_46 : decode cX12_paint 46 = .ok (.ifCond .ne 5, 3) := by decide +kernel
theorem dX12_paint_49 : decode cX12_paint 49 = .ok (.iconst 0, 1) := by decide +kernel
theorem dX12_paint_50 : decode cX12_paint 50 = .ok (.ireturn, 1) := by decide +kernel
theorem dX12_paint_51 : decode cX12_paint 51 = .ok (.iconst 0, 1) := by decide +kernel
theorem dX12_paint_52 : decode cX12_paint 52 = .ok (.istore 5, 2) := by decide +kernel
theorem dX12_paint_54 : decode cX12_paint 54 = .ok (.iload_n 2, 1) := by decide +kernel
theorem dX12_paint_55 : decode cX12_paint 55 = .ok (.istore 6, 2) := by decide +kernel
theorem dX12_paint_57 : decode cX12_paint 57 = .ok (.iload 6, 2) := by decide +kernel
theorem dX12_paint_59 : decode cX12_paint 59 = .ok (.iload_n 3, 1) := by decide +kernel
theorem dX12_paint_60 : decode cX12_paint 60 = .ok (.if_icmp .gt 48, 3) := by decide +kernel
theorem dX12_paint_63 : decode cX12_paint 63 = .ok (.iload 5, 2) := by decide +kernel
theorem dX12_paint_65 : decode cX12_paint 65 = .ok (.aload_n 0, 1) := by decide +kernel
theorem dX12_paint_66 : decode cX12_paint 66 = .ok (.getfield 122, 3) := by decide +kernel
theorem dX12_paint_69 : decode cX12_paint 69 = .ok (.iload_n 1, 1) := by decide +kernel
theorem dX12_paint_70 : decode cX12_paint 70 = .ok (.iload 6, 2) := by decide +kernel
theorem dX12_paint_72 : decode cX12_paint 72 = .ok (.invokestatic 404, 3) := by decide +kernel
theorem dX12_paint_75 : decode cX12_paint 75 = .ok (.baload, 1) := by decide +kernel
theorem dX12_paint_76 : decode cX12_paint 76 = .ok (.iload 4, 2) := by decide +kernel
theorem dX12_paint_78 : decode cX12_paint 78 = .ok (.if_icmp .eq 7, 3) := by decide +kernel
theorem dX12_paint_81 : decode cX12_paint 81 = .ok (.iconst 1, 1) := by decide +kernel
theorem dX12_paint_82 : decode cX12_paint 82 = .ok (.goto 4, 3) := by decide +kernel
theorem dX12_paint_85 : decode cX12_paint 85 = .ok (.iconst 0, 1) := by decide +kernel
theorem dX12_paint_86 : decode cX12_paint 86 = .ok (.iadd, 1) := by decide +kernel
theorem dX12_paint_87 : decode cX12_paint 87 = .ok (.istore 5, 2) := by decide +kernel
theorem dX12_paint_89 : decode cX12_paint 89 = .ok (.aload_n 0, 1) := by decide +kernel
theorem dX12_paint_90 : decode cX12_paint 90 = .ok (.getfield 122, 3) := by decide +kernel
theorem dX12_paint_93 : decode cX12_paint 93 = .ok (.iload_n 1, 1) := by decide +kernel
theorem dX12_paint_94 : decode cX12_paint 94 = .ok (.iload 6, 2) := by decide +kernel
theorem dX12_paint_96 : decode cX12_paint 96 = .ok (.invokestatic 404, 3) := by decide +kernel
theorem dX12_paint_99 : decode cX12_paint 99 = .ok (.iload 4, 2) := by decide +kernel
theorem dX12_paint_101 : decode cX12_paint 101 = .ok (.bastore, 1) := by decide +kernel
theorem dX12_paint_102 : decode cX12_paint 102 = .ok (.iinc 6 1, 3) := by decide +kernel
theorem dX12_paint_105 : decode cX12_paint 105 = .ok (.goto (-48), 3) := by decide +kernel
theorem dX12_paint_108 : decode cX12_paint 108 = .ok (.iload 5, 2) := by decide +kernel
theorem dX12_paint_110 : decode cX12_paint 110 = .ok (.ireturn, 1) := by decide +kernel
theorem dX12_dirty_0 : decode cX12_dirty 0 = .ok (.aload_n 0, 1) := by decide +kernel
theorem dX12_dirty_1 : decode cX12_dirty 1 = .ok (.iconst 0, 1) := by decide +kernel
theorem dX12_dirty_2 : decode cX12_dirty 2 = .ok (.putfield 1, 3) := by decide +kernel
theorem dX12_dirty_5 : decode cX12_dirty 5 = .ok (.aload_n 0, 1) := by decide +kernel
theorem dX12_dirty_6 : decode cX12_dirty 6 = .ok (.iload_n 1, 1) := by decide +kernel
theorem dX12_dirty_7 : decode cX12_dirty 7 = .ok (.invokevirtual 436, 3) := by decide +kernel
theorem dX12_dirty_10 : decode cX12_dirty 10 = .ok (.ifCond .ne 5, 3) := by decide +kernel
theorem dX12_dirty_13 : decode cX12_dirty 13 = .ok (.iconst 0, 1) := by decide +kernel
theorem dX12_dirty_14 : decode cX12_dirty 14 = .ok (.ireturn, 1) := by decide +kernel
theorem dX12_dirty_15 : decode cX12_dirty 15 = .ok (.iload_n 2, 1) := by decide +kernel
theorem dX12_dirty_16 : decode cX12_dirty 16 = .ok (.ifCond .ge 7, 3) := by decide +kernel
theorem dX12_dirty_19 : decode cX12_dirty 19 = .ok (.iconst 0, 1) := by decide +kernel
theorem dX12_dirty_20 : decode cX12_dirty 20 = .ok (.goto 4, 3) := by decide +kernel
theorem dX12_dirty_23 : decode cX12_dirty 23 = .ok (.iload_n 2, 1) := by decide +kernel
theorem dX12_dirty_24 : decode cX12_dirty 24 = .ok (.istore_n 3, 1) := by decide +kernel
theorem dX12_dirty_25 : decode cX12_dirty 25 = .ok (.iload_n 3, 1) := by decide +kernel
theorem dX12_dirty_26 : decode cX12_dirty 26 = .ok (.aload_n 0, 1) := by decide +kernel
theorem dX12_dirty_27 : decode cX12_dirty 27 = .ok (.getfield 104, 3) := by decide +kernel
theorem dX12_dirty_30 : decode cX12_dirty 30 = .ok (.iload_n 1, 1) := by decide +kernel
theorem dX12_dirty_31 : decode cX12_dirty 31 = .ok (.iaload, 1) := by decide +kernel
theorem dX12_dirty_32 : decode cX12_dirty 32 = .ok (.if_icmp .ge 20, 3) := by decide +kernel
theorem dX12_dirty_35 : decode cX12_dirty 35 = .ok (.aload_n 0, 1) := by decide +kernel
theorem dX12_dirty_36 : decode cX12_dirty 36 = .ok (.iload_n 1, 1) := by decide +kernel
theorem dX12_dirty_37 : decode cX12_dirty 37 = .ok (.iload_n 3, 1) := by decide +kernel
theorem dX12_dirty_38 : decode cX12_dirty 38 = .ok (.invokevirtual 439, 3) := by decide +kernel
theorem dX12_dirty_41 : decode cX12_dirty 41 = .ok (.ifCond .eq 5, 3) := by decide +kernel
theorem dX12_dirty_44 : decode cX12_dirty 44 = .ok (.iload_n 3, 1) := by decide +kernel
theorem dX12_dirty_45 : decode cX12_dirty 45 = .ok (.ireturn, 1) := by decide +kernel
theorem dX12_dirty_46 : decode cX12_dirty 46 = .ok (.iinc 3 1, 3) := by decide +kernel
theorem dX12_dirty_49 : decode cX12_dirty 49 = .ok (.goto (-24), 3) := by decide +kernel
theorem dX12_dirty_52 : decode cX12_dirty 52 = .ok (.iconst (-1), 1) := by decide +kernel
theorem dX12_dirty_53 : decode cX12_dirty 53 = .ok (.ireturn, 1) := by decide +kernel
theorem dX12_animator_0 : decode cX12_animator 0 = .ok (.aload_n 0, 1) := by decide +kernel
theorem dX12_animator_1 : decode cX12_animator 1 = .ok (.iconst 0, 1) := by decide +kernel
theorem dX12_animator_2 : decode cX12_animator 2 = .ok (.putfield 1, 3) := by decide +kernel
theorem dX12_animator_5 : decode cX12_animator 5 = .ok (.aload_n 0, 1) := by decide +kernel
theorem dX12_animator_6 : decode cX12_animator 6 = .ok (.iload_n 1, 1) := by decide +kernel
theorem dX12_animator_7 : decode cX12_animator 7 = .ok (.iconst 0, 1) := by decide +kernel
theorem dX12_animator_8 : decode cX12_animator 8 = .ok (.bipush 14, 2) := by decide +kernel
theorem dX12_animator_10 : decode cX12_animator 10 = .ok (.invokestatic 267, 3) := by decide +kernel
theorem dX12_animator_13 : decode cX12_animator 13 = .ok (.iconst 1, 1) := by decide +kernel
theorem dX12_animator_14 : decode cX12_animator 14 = .ok (.invokevirtual 271, 3) := by decide +kernel
theorem dX12_animator_17 : decode cX12_animator 17 = .ok (.ifCond .ne 5, 3) := by decide +kernel
theorem dX12_animator_20 : decode cX12_animator 20 = .ok (.iconst 0, 1) := by decide +kernel
theorem dX12_animator_21 : decode cX12_animator 21 = .ok (.ireturn, 1) := by decide +kernel
theorem dX12_animator_22 : decode cX12_animator 22 = .ok (.aload_n 0, 1) := by decide +kernel
theorem dX12_animator_23 : decode cX12_animator 23 = .ok (.getfield 525, 3) := by decide +kernel
theorem dX12_animator_26 : decode cX12_animator 26 = .ok (.bipush 6, 2) := by decide +kernel
theorem dX12_animator_28 : decode cX12_animator 28 = .ok (.if_icmp .ne 5, 3) := by decide +kernel
theorem dX12_animator_31 : decode cX12_animator 31 = .ok (.iconst (-1), 1) := by decide +kernel
theorem dX12_animator_32 : decode cX12_animator 32 = .ok (.ireturn, 1) := by decide +kernel
theorem dX12_animator_33 : decode cX12_animator 33 = .ok (.aload_n 0, 1) := by decide +kernel
theorem dX12_animator_34 : decode cX12_animator 34 = .ok (.getfield 207, 3) := by decide +kernel
theorem dX12_animator_37 : decode cX12_animator 37 = .ok (.aload_n 0, 1) := by decide +kernel
theorem dX12_animator_38 : decode cX12_animator 38 = .ok (.getfield 525, 3) := by decide +kernel
theorem dX12_animator_41 : decode cX12_animator 41 = .ok (.iload_n 1, 1) := by decide +kernel
theorem dX12_animator_42 : decode cX12_animator 42 = .ok (.iastore, 1) := by decide +kernel
theorem dX12_animator_43 : decode cX12_animator 43 = .ok (.aload_n 0, 1) := by decide +kernel
theorem dX12_animator_44 : decode cX12_animator 44 = .ok (.dup, 1) := by decide +kernel
theorem dX12_animator_45 : decode cX12_animator 45 = .ok (.getfield 525, 3) := by decide +kernel
theorem dX12_animator_48 : decode cX12_animator 48 = .ok (.iconst 1, 1) := by decide +kernel
theorem dX12_animator_49 : decode cX12_animator 49 = .ok (.iadd, 1) := by decide +kernel
theorem dX12_animator_50 : decode cX12_animator 50 = .ok (.putfield 525, 3) := by decide +kernel
theorem dX12_animator_53 : decode cX12_animator 53 = .ok (.aload_n 0, 1) := by decide +kernel
theorem dX12_animator_54 : decode cX12_animator 54 = .ok (.getfield 525, 3) := by decide +kernel
theorem dX12_animator_57 : decode cX12_animator 57 = .ok (.iconst 1, 1) := by decide +kernel
theorem dX12_animator_58 : decode cX12_animator 58 = .ok (.isub, 1) := by decide +kernel
theorem dX12_animator_59 : decode cX12_animator 59 = .ok (.ireturn, 1) := by decide +kernel
theorem dX12_station_0 : decode cX12_station 0 = .ok (.aload_n 0, 1) := by decide +kernel
theorem dX12_station_1 : decode cX12_station 1 = .ok (.iconst 0, 1) := by decide +kernel
theorem dX12_station_2 : decode cX12_station 2 = .ok (.putfield 1, 3) := by decide +kernel
theorem dX12_station_5 : decode cX12_station 5 = .ok (.aload_n 0, 1) := by decide +kernel
theorem dX12_station_6 : decode cX12_station 6 = .ok (.iload_n 1, 1) := by decide +kernel
theorem dX12_station_7 : decode cX12_station 7 = .ok (.iconst 0, 1) := by decide +kernel
theorem dX12_station_8 : decode cX12_station 8 = .ok (.iconst 2, 1) := by decide +kernel
theorem dX12_station_9 : decode cX12_station 9 = .ok (.invokestatic 267, 3) := by decide +kernel
theorem dX12_station_12 : decode cX12_station 12 = .ok (.iconst 1, 1) := by decide +kernel
theorem dX12_station_13 : decode cX12_station 13 = .ok (.invokevirtual 271, 3) := by decide +kernel
theorem dX12_station_16 : decode cX12_station 16 = .ok (.ifCond .eq 22, 3) := by decide +kernel
theorem dX12_station_19 : decode cX12_station 19 = .ok (.aload_n 0, 1) := by decide +kernel
theorem dX12_station_20 : decode cX12_station 20 = .ok (.iload_n 2, 1) := by decide +kernel
theorem dX12_station_21 : decode cX12_station 21 = .ok (.iconst (-1), 1) := by decide +kernel
theorem dX12_station_22 : decode cX12_station 22 = .ok (.aload_n 0, 1) := by decide +kernel
theorem dX12_station_23 : decode cX12_station 23 = .ok (.getfield 525, 3) := by decide +kernel
theorem dX12_station_26 : decode cX12_station 26 = .ok (.iconst 1, 1) := by decide +kernel
theorem dX12_station_27 : decode cX12_station 27 = .ok (.isub, 1) := by decide +kernel
theorem dX12_station_28 : decode cX12_station 28 = .ok (.invokestatic 267, 3) := by decide +kernel
theorem dX12_station_31 : decode cX12_station 31 = .ok (.iconst 2, 1) := by decide +kernel
theorem dX12_station_32 : decode cX12_station 32 = .ok (.invokevirtual 271, 3) := by decide +kernel
theorem dX12_station_35 : decode cX12_station 35 = .ok (.ifCond .ne 5, 3) := by decide +kernel
theorem dX12_station_38 : decode cX12_station 38 = .ok (.iconst 0, 1) := by decide +kernel
theorem dX12_station_39 : decode cX12_station 39 = .ok (.ireturn, 1) := by decide +kernel
theorem dX12_station_40 : decode cX12_station 40 = .ok (.aload_n 0, 1) := by decide +kernel
theorem dX12_station_41 : decode cX12_station 41 = .ok (.getfield 216, 3) := by decide +kernel
theorem dX12_station_44 : decode cX12_station 44 = .ok (.iload_n 1, 1) := by decide +kernel
theorem dX12_station_45 : decode cX12_station 45 = .ok (.iaload, 1) := by decide +kernel
theorem dX12_station_46 : decode cX12_station 46 = .ok (.istore_n 3, 1) := by decide +kernel
theorem dX12_station_47 : decode cX12_station 47 = .ok (.aload_n 0, 1) := by decide +kernel
theorem dX12_station_48 : decode cX12_station 48 = .ok (.getfield 216, 3) := by decide +kernel
theorem dX12_station_51 : decode cX12_station 51 = .ok (.iload_n 1, 1) := by decide +kernel
theorem dX12_station_52 : decode cX12_station 52 = .ok (.iload_n 2, 1) := by decide +kernel
theorem dX12_station_53 : decode cX12_station 53 = .ok (.iastore, 1) := by decide +kernel
theorem dX12_station_54 : decode cX12_station 54 = .ok (.iload_n 3, 1) := by decide +kernel
theorem dX12_station_55 : decode cX12_station 55 = .ok (.ireturn, 1) := by decide +kernel
theorem dX12_queue_0 : decode cX12_queue 0 = .ok (.aload_n 0, 1) := by decide +kernel
theorem dX12_queue_1 : decode cX12_queue 1 = .ok (.iconst 0, 1) := by decide +kernel
theorem dX12_queue_2 : decode cX12_queue 2 = .ok (.putfield 1, 3) := by decide +kernel
theorem dX12_queue_5 : decode cX12_queue 5 = .ok (.aload_n 0, 1) := by decide +kernel
theorem dX12_queue_6 : decode cX12_queue 6 = .ok (.iload_n 2, 1) := by decide +kernel
theorem dX12_queue_7 : decode cX12_queue 7 = .ok (.invokevirtual 436, 3) := by decide +kernel
theorem dX12_queue_10 : decode cX12_queue 10 = .ok (.ifCond .eq 17, 3) := by decide +kernel
theorem dX12_queue_13 : decode cX12_queue 13 = .ok (.aload_n 0, 1) := by decide +kernel
theorem dX12_queue_14 : decode cX12_queue 14 = .ok (.iload_n 1, 1) := by decide +kernel
theorem dX12_queue_15 : decode cX12_queue 15 = .ok (.iconst 0, 1) := by decide +kernel
theorem dX12_queue_16 : decode cX12_queue 16 = .ok (.iconst 2, 1) := by decide +kernel
theorem dX12_queue_17 : decode cX12_queue 17 = .ok (.invokestatic 267, 3) := by decide +kernel
theorem dX12_queue_20 : decode cX12_queue 20 = .ok (.iconst 2, 1) := by decide +kernel
theorem dX12_queue_21 : decode cX12_queue 21 = .ok (.invokevirtual 271, 3) := by decide +kernel
theorem dX12_queue_24 : decode cX12_queue 24 = .ok (.ifCond .ne 5, 3) := by decide +kernel
theorem dX12_queue_27 : decode cX12_queue 27 = .ok (.iconst 0, 1) := by decide +kernel
theorem dX12_queue_28 : decode cX12_queue 28 = .ok (.ireturn, 1) := by decide +kernel
theorem dX12_queue_29 : decode cX12_queue 29 = .ok (.aload_n 0, 1) := by decide +kernel
theorem dX12_queue_30 : decode cX12_queue 30 = .ok (.getfield 219, 3) := by decide +kernel
theorem dX12_queue_33 : decode cX12_queue 33 = .ok (.iload_n 1, 1) := by decide +kernel
theorem dX12_queue_34 : decode cX12_queue 34 = .ok (.iaload, 1) := by decide +kernel
theorem dX12_queue_35 : decode cX12_queue 35 = .ok (.bipush 10, 2) := by decide +kernel
theorem dX12_queue_37 : decode cX12_queue 37 = .ok (.if_icmp .ne 5, 3) := by decide +kernel
theorem dX12_queue_40 : decode cX12_queue 40 = .ok (.iconst (-1), 1) := by decide +kernel
theorem dX12_queue_41 : decode cX12_queue 41 = .ok (.ireturn, 1) := by decide +kernel
theorem dX12_queue_42 : decode cX12_queue 42 = .ok (.aload_n 0, 1) := by decide +kernel
theorem dX12_queue_43 : decode cX12_queue 43 = .ok (.iload_n 2, 1) := by decide +kernel
theorem dX12_queue_44 : decode cX12_queue 44 = .ok (.invokevirtual 528, 3) := by decide +kernel
theorem dX12_queue_47 : decode cX12_queue 47 = .ok (.ifCond .eq 6, 3) := by decide +kernel
theorem dX12_queue_50 : decode cX12_queue 50 = .ok (.bipush (-2), 2) := by decide +kernel
theorem dX12_queue_52 : decode cX12_queue 52 = .ok (.ireturn, 1) := by decide +kernel
theorem dX12_queue_53 : decode cX12_queue 53 = .ok (.aload_n 0, 1) := by decide +kernel
theorem dX12_queue_54 : decode cX12_queue 54 = .ok (.iload_n 2, 1) := by decide +kernel
theorem dX12_queue_55 : decode cX12_queue 55 = .ok (.invokevirtual 531, 3) := by decide +kernel
theorem dX12_queue_58 : decode cX12_queue 58 = .ok (.ifCond .eq 6, 3) := by decide +kernel
theorem dX12_queue_61 : decode cX12_queue 61 = .ok (.bipush (-3), 2) := by decide +kernel
theorem dX12_queue_63 : decode cX12_queue 63 = .ok (.ireturn, 1) := by decide +kernel
theorem dX12_queue_64 : decode cX12_queue 64 = .ok (.aload_n 0, 1) := by decide +kernel
theorem dX12_queue_65 : decode cX12_queue 65 = .ok (.getfield 222, 3) := by decide +kernel
theorem dX12_queue_68 : decode cX12_queue 68 = .ok (.bipush 10, 2) := by decide +kernel
theorem dX12_queue_70 : decode cX12_queue 70 = .ok (.iload_n 1, 1) := by decide +kernel
theorem dX12_queue_71 : decode cX12_queue 71 = .ok (.imul, 1) := by decide +kernel
theorem dX12_queue_72 : decode cX12_queue 72 = .ok (.aload_n 0, 1) := by decide +kernel
theorem dX12_queue_73 : decode cX12_queue 73 = .ok (.getfield 219, 3) := by decide +kernel
theorem dX12_queue_76 : decode cX12_queue 76 = .ok (.iload_n 1, 1) := by decide +kernel
theorem dX12_queue_77 : decode cX12_queue 77 = .ok (.iaload, 1) := by decide +kernel
theorem dX12_queue_78 : decode cX12_queue 78 = .ok (.iadd, 1) := by decide +kernel
theorem dX12_queue_79 : decode cX12_queue 79 = .ok (.iload_n 2, 1) := by decide +kernel
theorem dX12_queue_80 : decode cX12_queue 80 = .ok (.iastore, 1) := by decide +kernel
theorem dX12_queue_81 : decode cX12_queue 81 = .ok (.aload_n 0, 1) := by decide +kernel
theorem dX12_queue_82 : decode cX12_queue 82 = .ok (.getfield 219, 3) := by decide +kernel
theorem dX12_queue_85 : decode cX12_queue 85 = .ok (.iload_n 1, 1) := by decide +kernel
theorem dX12_queue_86 : decode cX12_queue 86 = .ok (.dup2, 1) := by decide +kernel
theorem dX12_queue_87 : decode cX12_queue 87 = .ok (.iaload, 1) := by decide +kernel
theorem dX12_queue_88 : decode cX12_queue 88 = .ok (.iconst 1, 1) := by decide +kernel
theorem dX12_queue_89 : decode cX12_queue 89 = .ok (.iadd, 1) := by decide +kernel
theorem dX12_queue_90 : decode cX12_queue 90 = .ok (.iastore, 1) := by decide +kernel
theorem dX12_queue_91 : decode cX12_queue 91 = .ok (.aload_n 0, 1) := by decide +kernel
theorem dX12_queue_92 : decode cX12_queue 92 = .ok (.getfield 219, 3) := by decide +kernel
theorem dX12_queue_95 : decode cX12_queue 95 = .ok (.iload_n 1, 1) := by decide +kernel
theorem dX12_queue_96 : decode cX12_queue 96 = .ok (.iaload, 1) := by decide +kernel
theorem dX12_queue_97 : decode cX12_queue 97 = .ok (.ireturn, 1) := by decide +kernel
theorem dX12_begins_0 : decode cX12_begins 0 = .ok (.aload_n 0, 1) := by decide +kernel
theorem dX12_begins_1 : decode cX12_begins 1 = .ok (.getfield 219, 3) := by decide +kernel
theorem dX12_begins_4 : decode cX12_begins 4 = .ok (.iload_n 1, 1) := by decide +kernel
theorem dX12_begins_5 : decode cX12_begins 5 = .ok (.iaload, 1) := by decide +kernel
theorem dX12_begins_6 : decode cX12_begins 6 = .ok (.iconst 1, 1) := by decide +kernel
theorem dX12_begins_7 : decode cX12_begins 7 = .ok (.isub, 1) := by decide +kernel
theorem dX12_begins_8 : decode cX12_begins 8 = .ok (.istore_n 2, 1) := by decide +kernel
theorem dX12_begins_9 : decode cX12_begins 9 = .ok (.iload_n 2, 1) := by decide +kernel
theorem dX12_begins_10 : decode cX12_begins 10 = .ok (.ifCond .lt 33, 3) := by decide +kernel
theorem dX12_begins_13 : decode cX12_begins 13 = .ok (.aload_n 0, 1) := by decide +kernel
theorem dX12_begins_14 : decode cX12_begins 14 = .ok (.aload_n 0, 1) := by decide +kernel
theorem dX12_begins_15 : decode cX12_begins 15 = .ok (.getfield 222, 3) := by decide +kernel
theorem dX12_begins_18 : decode cX12_begins 18 = .ok (.bipush 10, 2) := by decide +kernel
theorem dX12_begins_20 : decode cX12_begins 20 = .ok (.iload_n 1, 1) := by decide +kernel
theorem dX12_begins_21 : decode cX12_begins 21 = .ok (.imul, 1) := by decide +kernel
theorem dX12_begins_22 : decode cX12_begins 22 = .ok (.iload_n 2, 1) := by decide +kernel
theorem dX12_begins_23 : decode cX12_begins 23 = .ok (.iadd, 1) := by decide +kernel
theorem dX12_begins_24 : decode cX12_begins 24 = .ok (.iaload, 1) := by decide +kernel
theorem dX12_begins_25 : decode cX12_begins 25 = .ok (.invokevirtual 531, 3) := by decide +kernel
theorem dX12_begins_28 : decode cX12_begins 28 = .ok (.ifCond .eq 9, 3) := by decide +kernel
theorem dX12_begins_31 : decode cX12_begins 31 = .ok (.aload_n 0, 1) := by decide +kernel
theorem dX12_begins_32 : decode cX12_begins 32 = .ok (.iload_n 1, 1) := by decide +kernel
theorem dX12_begins_33 : decode cX12_begins 33 = .ok (.iload_n 2, 1) := by decide +kernel
theorem dX12_begins_34 : decode cX12_begins 34 = .ok (.invokevirtual 534, 3) := by decide +kernel
theorem dX12_begins_37 : decode cX12_begins 37 = .ok (.iinc 2 (-1), 3) := by decide +kernel
theorem dX12_begins_40 : decode cX12_begins 40 = .ok (.goto (-31), 3) := by decide +kernel
theorem dX12_begins_43 : decode cX12_begins 43 = .ok (.iconst 0, 1) := by decide +kernel
theorem dX12_begins_44 : decode cX12_begins 44 = .ok (.istore_n 2, 1) := by decide +kernel
theorem dX12_begins_45 : decode cX12_begins 45 = .ok (.iload_n 2, 1) := by decide +kernel
theorem dX12_begins_46 : decode cX12_begins 46 = .ok (.aload_n 0, 1) := by decide +kernel
theorem dX12_begins_47 : decode cX12_begins 47 = .ok (.getfield 219, 3) := by decide +kernel
theorem dX12_begins_50 : decode cX12_begins 50 = .ok (.iload_n 1, 1) := by decide +kernel
theorem dX12_begins_51 : decode cX12_begins 51 = .ok (.iaload, 1) := by decide +kernel
theorem dX12_begins_52 : decode cX12_begins 52 = .ok (.if_icmp .ge 55, 3) := by decide +kernel
theorem dX12_begins_55 : decode cX12_begins 55 = .ok (.aload_n 0, 1) := by decide +kernel
theorem dX12_begins_56 : decode cX12_begins 56 = .ok (.iload_n 1, 1) := by decide +kernel
theorem dX12_begins_57 : decode cX12_begins 57 = .ok (.aload_n 0, 1) := by decide +kernel
theorem dX12_begins_58 : decode cX12_begins 58 = .ok (.getfield 222, 3) := by decide +kernel
theorem dX12_begins_61 : decode cX12_begins 61 = .ok (.bipush 10, 2) := by decide +kernel
theorem dX12_begins_63 : decode cX12_begins 63 = .ok (.iload_n 1, 1) := by decide +kernel
theorem dX12_begins_64 : decode cX12_begins 64 = .ok (.imul, 1) := by decide +kernel
theorem dX12_begins_65 : decode cX12_begins 65 = .ok (.iload_n 2, 1) := by decide +kernel
theorem dX12_begins_66 : decode cX12_begins 66 = .ok (.iadd, 1) := by decide +kernel
theorem dX12_begins_67 : decode cX12_begins 67 = .ok (.iaload, 1) := by decide +kernel
theorem dX12_begins_68 : decode cX12_begins 68 = .ok (.invokevirtual 537, 3) := by decide +kernel
theorem dX12_begins_71 : decode cX12_begins 71 = .ok (.ifCond .ne 6, 3) := by decide +kernel
theorem dX12_begins_74 : decode cX12_begins 74 = .ok (.goto 27, 3) := by decide +kernel
theorem dX12_begins_77 : decode cX12_begins 77 = .ok (.aload_n 0, 1) := by decide +kernel
theorem dX12_begins_78 : decode cX12_begins 78 = .ok (.getfield 225, 3) := by decide +kernel
theorem dX12_begins_81 : decode cX12_begins 81 = .ok (.iload_n 1, 1) := by decide +kernel
theorem dX12_begins_82 : decode cX12_begins 82 = .ok (.aload_n 0, 1) := by decide +kernel
theorem dX12_begins_83 : decode cX12_begins 83 = .ok (.getfield 222, 3) := by decide +kernel
theorem dX12_begins_86 : decode cX12_begins 86 = .ok (.bipush 10, 2) := by decide +kernel
theorem dX12_begins_88 : decode cX12_begins 88 = .ok (.iload_n 1, 1) := by decide +kernel
theorem dX12_begins_89 : decode cX12_begins 89 = .ok (.imul, 1) := by decide +kernel
theorem dX12_begins_90 : decode cX12_begins 90 = .ok (.iload_n 2, 1) := by decide +kernel
theorem dX12_begins_91 : decode cX12_begins 91 = .ok (.iadd, 1) := by decide +kernel
theorem dX12_begins_92 : decode cX12_begins 92 = .ok (.iaload, 1) := by decide +kernel
theorem dX12_begins_93 : decode cX12_begins 93 = .ok (.iastore, 1) := by decide +kernel
theorem dX12_begins_94 : decode cX12_begins 94 = .ok (.aload_n 0, 1) := by decide +kernel
theorem dX12_begins_95 : decode cX12_begins 95 = .ok (.iload_n 1, 1) := by decide +kernel
theorem dX12_begins_96 : decode cX12_begins 96 = .ok (.iload_n 2, 1) := by decide +kernel
theorem dX12_begins_97 : decode cX12_begins 97 = .ok (.invokevirtual 534, 3) := by decide +kernel
theorem dX12_begins_100 : decode cX12_begins 100 = .ok (.return_, 1) := by decide +kernel
theorem dX12_begins_101 : decode cX12_begins 101 = .ok (.iinc 2 1, 3) := by decide +kernel
theorem dX12_begins_104 : decode cX12_begins 104 = .ok (.goto (-59), 3) := by decide +kernel
theorem dX12_begins_107 : decode cX12_begins 107 = .ok (.return_, 1) := by decide +kernel
theorem dX12_halfOf_0 : decode cX12_halfOf 0 = .ok (.aload_n 0, 1) := by decide +kernel
theorem dX12_halfOf_1 : decode cX12_halfOf 1 = .ok (.getfield 225, 3) := by decide +kernel
theorem dX12_halfOf_4 : decode cX12_halfOf 4 = .ok (.iload_n 1, 1) := by decide +kernel
theorem dX12_halfOf_5 : decode cX12_halfOf 5 = .ok (.iaload, 1) := by decide +kernel
theorem dX12_halfOf_6 : decode cX12_halfOf 6 = .ok (.iconst (-1), 1) := by decide +kernel
theorem dX12_halfOf_7 : decode cX12_halfOf 7 = .ok (.if_icmp .ne 8, 3) := by decide +kernel
theorem dX12_halfOf_10 : decode cX12_halfOf 10 = .ok (.aload_n 0, 1) := by decide +kernel
theorem dX12_halfOf_11 : decode cX12_halfOf 11 = .ok (.iload_n 1, 1) := by decide +kernel
theorem dX12_halfOf_12 : decode cX12_halfOf 12 = .ok (.invokevirtual 546, 3) := by decide +kernel
theorem dX12_halfOf_15 : decode cX12_halfOf 15 = .ok (.aload_n 0, 1) := by decide +kernel
theorem dX12_halfOf_16 : decode cX12_halfOf 16 = .ok (.getfield 225, 3) := by decide +kernel
theorem dX12_halfOf_19 : decode cX12_halfOf 19 = .ok (.iload_n 1, 1) := by decide +kernel
theorem dX12_halfOf_20 : decode cX12_halfOf 20 = .ok (.iaload, 1) := by decide +kernel
theorem dX12_halfOf_21 : decode cX12_halfOf 21 = .ok (.iconst (-1), 1) := by decide +kernel
theorem dX12_halfOf_22 : decode cX12_halfOf 22 = .ok (.if_icmp .ne 4, 3) := by decide +kernel
theorem dX12_halfOf_25 : decode cX12_halfOf 25 = .ok (.return_, 1) := by decide +kernel
theorem dX12_halfOf_26 : decode cX12_halfOf 26 = .ok (.aload_n 0, 1) := by decide +kernel
theorem dX12_halfOf_27 : decode cX12_halfOf 27 = .ok (.getfield 113, 3) := by decide +kernel
theorem dX12_halfOf_30 : decode cX12_halfOf 30 = .ok (.aload_n 0, 1) := by decide +kernel
theorem dX12_halfOf_31 : decode cX12_halfOf 31 = .ok (.getfield 225, 3) := by decide +kernel
theorem dX12_halfOf_34 : decode cX12_halfOf 34 = .ok (.iload_n 1, 1) := by decide +kernel
theorem dX12_halfOf_35 : decode cX12_halfOf 35 = .ok (.iaload, 1) := by decide +kernel
theorem dX12_halfOf_36 : decode cX12_halfOf 36 = .ok (.iaload, 1) := by decide +kernel
theorem dX12_halfOf_37 : decode cX12_halfOf 37 = .ok (.istore_n 2, 1) := by decide +kernel
theorem dX12_halfOf_38 : decode cX12_halfOf 38 = .ok (.aload_n 0, 1) := by decide +kernel
theorem dX12_halfOf_39 : decode cX12_halfOf 39 = .ok (.getfield 228, 3) := by decide +kernel
theorem dX12_halfOf_42 : decode cX12_halfOf 42 = .ok (.iload_n 1, 1) := by decide +kernel
theorem dX12_halfOf_43 : decode cX12_halfOf 43 = .ok (.iaload, 1) := by decide +kernel
theorem dX12_halfOf_44 : decode cX12_halfOf 44 = .ok (.iload_n 2, 1) := by decide +kernel
theorem dX12_halfOf_45 : decode cX12_halfOf 45 = .ok (.if_icmp .eq 10, 3) := by decide +kernel
theorem dX12_halfOf_48 : decode cX12_halfOf 48 = .ok (.aload_n 0, 1) := by decide +kernel
theorem dX12_halfOf_49 : decode cX12_halfOf 49 = .ok (.getfield 228, 3) := by decide +kernel
theorem dX12_halfOf_52 : decode cX12_halfOf 52 = .ok (.iload_n 1, 1) := by decide +kernel
theorem dX12_halfOf_53 : decode cX12_halfOf 53 = .ok (.iconst (-1), 1) := by decide +kernel
theorem dX12_halfOf_54 : decode cX12_halfOf 54 = .ok (.iastore, 1) := by decide +kernel
theorem dX12_halfOf_55 : decode cX12_halfOf 55 = .ok (.aload_n 0, 1) := by decide +kernel
theorem dX12_halfOf_56 : decode cX12_halfOf 56 = .ok (.getfield 234, 3) := by decide +kernel
theorem dX12_halfOf_59 : decode cX12_halfOf 59 = .ok (.iload_n 2, 1) := by decide +kernel
theorem dX12_halfOf_60 : decode cX12_halfOf 60 = .ok (.iaload, 1) := by decide +kernel
theorem dX12_halfOf_61 : decode cX12_halfOf 61 = .ok (.iload_n 1, 1) := by decide +kernel
theorem dX12_halfOf_62 : decode cX12_halfOf 62 = .ok (.if_icmp .eq 105, 3) := by decide +kernel
theorem dX12_halfOf_65 : decode cX12_halfOf 65 = .ok (.aload_n 0, 1) := by decide +kernel
theorem dX12_halfOf_66 : decode cX12_halfOf 66 = .ok (.getfield 228, 3) := by decide +kernel
theorem dX12_halfOf_69 : decode cX12_halfOf 69 = .ok (.iload_n 1, 1) := by decide +kernel
theorem dX12_halfOf_70 : decode cX12_halfOf 70 = .ok (.iaload, 1) := by decide +kernel
theorem dX12_halfOf_71 : decode cX12_halfOf 71 = .ok (.iconst (-1), 1) := by decide +kernel
theorem dX12_halfOf_72 : decode cX12_halfOf 72 = .ok (.if_icmp .ne 26, 3) := by decide +kernel
theorem dX12_halfOf_75 : decode cX12_halfOf 75 = .ok (.aload_n 0, 1) := by decide +kernel
theorem dX12_halfOf_76 : decode cX12_halfOf 76 = .ok (.invokevirtual 549, 3) := by decide +kernel
theorem dX12_halfOf_79 : decode cX12_halfOf 79 = .ok (.iconst 3, 1) := by decide +kernel
theorem dX12_halfOf_80 : decode cX12_halfOf 80 = .ok (.if_icmp .lt 4, 3) := by decide +kernel
theorem dX12_halfOf_83 : decode cX12_halfOf 83 = .ok (.return_, 1) := by decide +kernel
theorem dX12_halfOf_84 : decode cX12_halfOf 84 = .ok (.aload_n 0, 1) := by decide +kernel
theorem dX12_halfOf_85 : decode cX12_halfOf 85 = .ok (.getfield 228, 3) := by decide +kernel
theorem dX12_halfOf_88 : decode cX12_halfOf 88 = .ok (.iload_n 1, 1) := by decide +kernel
theorem dX12_halfOf_89 : decode cX12_halfOf 89 = .ok (.iload_n 2, 1) := by decide +kernel
theorem dX12_halfOf_90 : decode cX12_halfOf 90 = .ok (.iastore, 1) := by decide +kernel
theorem dX12_halfOf_91 : decode cX12_halfOf 91 = .ok (.aload_n 0, 1) := by decide +kernel
theorem dX12_halfOf_92 : decode cX12_halfOf 92 = .ok (.getfield 231, 3) := by decide +kernel
theorem dX12_halfOf_95 : decode cX12_halfOf 95 = .ok (.iload_n 1, 1) := by decide +kernel
theorem dX12_halfOf_96 : decode cX12_halfOf 96 = .ok (.iconst 0, 1) := by decide +kernel
theorem dX12_halfOf_97 : decode cX12_halfOf 97 = .ok (.iastore, 1) := by decide +kernel
theorem dX12_halfOf_98 : decode cX12_halfOf 98 = .ok (.aload_n 0, 1) := by decide +kernel
theorem dX12_halfOf_99 : decode cX12_halfOf 99 = .ok (.getfield 231, 3) := by decide +kernel
theorem dX12_halfOf_102 : decode cX12_halfOf 102 = .ok (.iload_n 1, 1) := by decide +kernel
theorem dX12_halfOf_103 : decode cX12_halfOf 103 = .ok (.iaload, 1) := by decide +kernel
theorem dX12_halfOf_104 : decode cX12_halfOf 104 = .ok (.aload_n 0, 1) := by decide +kernel
theorem dX12_halfOf_105 : decode cX12_halfOf 105 = .ok (.getfield 159, 3) := by decide +kernel
theorem dX12_halfOf_108 : decode cX12_halfOf 108 = .ok (.iload_n 2, 1) := by decide +kernel
theorem dX12_halfOf_109 : decode cX12_halfOf 109 = .ok (.iaload, 1) := by decide +kernel
theorem dX12_halfOf_110 : decode cX12_halfOf 110 = .ok (.if_icmp .ge 7, 3) := by decide +kernel
theorem dX12_halfOf_113 : decode cX12_halfOf 113 = .ok (.iconst 1, 1) := by decide +kernel
theorem dX12_halfOf_114 : decode cX12_halfOf 114 = .ok (.goto 4, 3) := by decide +kernel
theorem dX12_halfOf_117 : decode cX12_halfOf 117 = .ok (.iconst 0, 1) := by decide +kernel
theorem dX12_halfOf_118 : decode cX12_halfOf 118 = .ok (.istore_n 3, 1) := by decide +kernel
theorem dX12_halfOf_119 : decode cX12_halfOf 119 = .ok (.iload_n 3, 1) := by decide +kernel
theorem dX12_halfOf_120 : decode cX12_halfOf 120 = .ok (.ifCond .eq 13, 3) := by decide +kernel
theorem dX12_halfOf_123 : decode cX12_halfOf 123 = .ok (.aload_n 0, 1) := by decide +kernel
theorem dX12_halfOf_124 : decode cX12_halfOf 124 = .ok (.getfield 231, 3) := by decide +kernel
theorem dX12_halfOf_127 : decode cX12_halfOf 127 = .ok (.iload_n 1, 1) := by decide +kernel
theorem dX12_halfOf_128 : decode cX12_halfOf 128 = .ok (.dup2, 1) := by decide +kernel
theorem dX12_halfOf_129 : decode cX12_halfOf 129 = .ok (.iaload, 1) := by decide +kernel
theorem dX12_halfOf_130 : decode cX12_halfOf 130 = .ok (.iconst 1, 1) := by decide +kernel
theorem dX12_halfOf_131 : decode cX12_halfOf 131 = .ok (.iadd, 1) := by decide +kernel
theorem dX12_halfOf_132 : decode cX12_halfOf 132 = .ok (.iastore, 1) := by decide +kernel
theorem dX12_halfOf_133 : decode cX12_halfOf 133 = .ok (.aload_n 0, 1) := by decide +kernel
theorem dX12_halfOf_134 : decode cX12_halfOf 134 = .ok (.getfield 231, 3) := by decide +kernel
theorem dX12_halfOf_137 : decode cX12_halfOf 137 = .ok (.iload_n 1, 1) := by decide +kernel
theorem dX12_halfOf_138 : decode cX12_halfOf 138 = .ok (.iaload, 1) := by decide +kernel
theorem dX12_halfOf_139 : decode cX12_halfOf 139 = .ok (.aload_n 0, 1) := by decide +kernel
theorem dX12_halfOf_140 : decode cX12_halfOf 140 = .ok (.getfield 159, 3) := by decide +kernel
theorem dX12_halfOf_143 : decode cX12_halfOf 143 = .ok (.iload_n 2, 1) := by decide +kernel
theorem dX12_halfOf_144 : decode cX12_halfOf 144 = .ok (.iaload, 1) := by decide +kernel
theorem dX12_halfOf_145 : decode cX12_halfOf 145 = .ok (.if_icmp .lt 17, 3) := by decide +kernel
theorem dX12_halfOf_148 : decode cX12_halfOf 148 = .ok (.aload_n 0, 1) := by decide +kernel
theorem dX12_halfOf_149 : decode cX12_halfOf 149 = .ok (.getfield 234, 3) := by decide +kernel
theorem dX12_halfOf_152 : decode cX12_halfOf 152 = .ok (.iload_n 2, 1) := by decide +kernel
theorem dX12_halfOf_153 : decode cX12_halfOf 153 = .ok (.iload_n 1, 1) := by decide +kernel
theorem dX12_halfOf_154 : decode cX12_halfOf 154 = .ok (.iastore, 1) := by decide +kernel
theorem dX12_halfOf_155 : decode cX12_halfOf 155 = .ok (.aload_n 0, 1) := by decide +kernel
theorem dX12_halfOf_156 : decode cX12_halfOf 156 = .ok (.getfield 228, 3) := by decide +kernel
theorem dX12_halfOf_159 : decode cX12_halfOf 159 = .ok (.iload_n 1, 1) := by decide +kernel
theorem dX12_halfOf_160 : decode cX12_halfOf 160 = .ok (.iconst (-1), 1) := by decide +kernel
theorem dX12_halfOf_161 : decode cX12_halfOf 161 = .ok (.iastore, 1) := by decide +kernel
theorem dX12_halfOf_162 : decode cX12_halfOf 162 = .ok (.iload_n 3, 1) := by decide +kernel
theorem dX12_halfOf_163 : decode cX12_halfOf 163 = .ok (.ifCond .eq 4, 3) := by decide +kernel
theorem dX12_halfOf_166 : decode cX12_halfOf 166 = .ok (.return_, 1) := by decide +kernel
theorem dX12_halfOf_167 : decode cX12_halfOf 167 = .ok (.aload_n 0, 1) := by decide +kernel
theorem dX12_halfOf_168 : decode cX12_halfOf 168 = .ok (.iload_n 1, 1) := by decide +kernel
theorem dX12_halfOf_169 : decode cX12_halfOf 169 = .ok (.invokevirtual 552, 3) := by decide +kernel
theorem dX12_halfOf_172 : decode cX12_halfOf 172 = .ok (.return_, 1) := by decide +kernel
theorem dX12_floorHalf_0 : decode cX12_floorHalf 0 = .ok (.iconst 0, 1) := by decide +kernel
theorem dX12_floorHalf_1 : decode cX12_floorHalf 1 = .ok (.istore_n 1, 1) := by decide +kernel
theorem dX12_floorHalf_2 : decode cX12_floorHalf 2 = .ok (.iload_n 1, 1) := by decide +kernel
theorem dX12_floorHalf_3 : decode cX12_floorHalf 3 = .ok (.iconst 3, 1) := by decide +kernel
theorem dX12_floorHalf_4 : decode cX12_floorHalf 4 = .ok (.if_icmp .ge 14, 3) := by decide +kernel
theorem dX12_floorHalf_7 : decode cX12_floorHalf 7 = .ok (.aload_n 0, 1) := by decide +kernel
theorem dX12_floorHalf_8 : decode cX12_floorHalf 8 = .ok (.iload_n 1, 1) := by decide +kernel
theorem dX12_floorHalf_9 : decode cX12_floorHalf 9 = .ok (.invokevirtual 555, 3) := by decide +kernel
theorem dX12_floorHalf_12 : decode cX12_floorHalf 12 = .ok (.iinc 1 1, 3) := by decide +kernel
theorem dX12_floorHalf_15 : decode cX12_floorHalf 15 = .ok (.goto (-13), 3) := by decide +kernel
theorem dX12_floorHalf_18 : decode cX12_floorHalf 18 = .ok (.aload_n 0, 1) := by decide +kernel
theorem dX12_floorHalf_19 : decode cX12_floorHalf 19 = .ok (.dup, 1) := by decide +kernel
theorem dX12_floorHalf_20 : decode cX12_floorHalf 20 = .ok (.getfield 513, 3) := by decide +kernel
theorem dX12_floorHalf_23 : decode cX12_floorHalf 23 = .ok (.iconst 1, 1) := by decide +kernel
theorem dX12_floorHalf_24 : decode cX12_floorHalf 24 = .ok (.iadd, 1) := by decide +kernel
theorem dX12_floorHalf_25 : decode cX12_floorHalf 25 = .ok (.putfield 513, 3) := by decide +kernel
theorem dX12_floorHalf_28 : decode cX12_floorHalf 28 = .ok (.return_, 1) := by decide +kernel
theorem dX12_floor_0 : decode cX12_floor 0 = .ok (.aload_n 0, 1) := by decide +kernel
theorem dX12_floor_1 : decode cX12_floor 1 = .ok (.iconst 0, 1) := by decide +kernel
theorem dX12_floor_2 : decode cX12_floor 2 = .ok (.putfield 1, 3) := by decide +kernel
theorem dX12_floor_5 : decode cX12_floor 5 = .ok (.aload_n 0, 1) := by decide +kernel
theorem dX12_floor_6 : decode cX12_floor 6 = .ok (.iload_n 1, 1) := by decide +kernel
theorem dX12_floor_7 : decode cX12_floor 7 = .ok (.iconst 0, 1) := by decide +kernel
theorem dX12_floor_8 : decode cX12_floor 8 = .ok (.bipush 100, 2) := by decide +kernel
theorem dX12_floor_10 : decode cX12_floor 10 = .ok (.invokestatic 267, 3) := by decide +kernel
theorem dX12_floor_13 : decode cX12_floor 13 = .ok (.iconst 1, 1) := by decide +kernel
theorem dX12_floor_14 : decode cX12_floor 14 = .ok (.invokevirtual 271, 3) := by decide +kernel
theorem dX12_floor_17 : decode cX12_floor 17 = .ok (.ifCond .ne 5, 3) := by decide +kernel
theorem dX12_floor_20 : decode cX12_floor 20 = .ok (.iconst 0, 1) := by decide +kernel
theorem dX12_floor_21 : decode cX12_floor 21 = .ok (.ireturn, 1) := by decide +kernel
theorem dX12_floor_22 : decode cX12_floor 22 = .ok (.iconst 0, 1) := by decide +kernel
theorem dX12_floor_23 : decode cX12_floor 23 = .ok (.istore_n 2, 1) := by decide +kernel
theorem dX12_floor_24 : decode cX12_floor 24 = .ok (.iload_n 2, 1) := by decide +kernel
theorem dX12_floor_25 : decode cX12_floor 25 = .ok (.iload_n 1, 1) := by decide +kernel
theorem dX12_floor_26 : decode cX12_floor 26 = .ok (.if_icmp .ge 13, 3) := by decide +kernel
theorem dX12_floor_29 : decode cX12_floor 29 = .ok (.aload_n 0, 1) := by decide +kernel
theorem dX12_floor_30 : decode cX12_floor 30 = .ok (.invokevirtual 558, 3) := by decide +kernel
theorem dX12_floor_33 : decode cX12_floor 33 = .ok (.iinc 2 1, 3) := by decide +kernel
theorem dX12_floor_36 : decode cX12_floor 36 = .ok (.goto (-12), 3) := by decide +kernel
theorem dX12_floor_39 : decode cX12_floor 39 = .ok (.aload_n 0, 1) := by decide +kernel
theorem dX12_floor_40 : decode cX12_floor 40 = .ok (.getfield 513, 3) := by decide +kernel
theorem dX12_floor_43 : decode cX12_floor 43 = .ok (.ireturn, 1) := by decide +kernel
theorem dX12_on_0 : decode cX12_on 0 = .ok (.aload_n 0, 1) := by decide +kernel
theorem dX12_on_1 : decode cX12_on 1 = .ok (.iconst 0, 1) := by decide +kernel
theorem dX12_on_2 : decode cX12_on 2 = .ok (.putfield 1, 3) := by decide +kernel
theorem dX12_on_5 : decode cX12_on 5 = .ok (.aload_n 0, 1) := by decide +kernel
theorem dX12_on_6 : decode cX12_on 6 = .ok (.iload_n 1, 1) := by decide +kernel
theorem dX12_on_7 : decode cX12_on 7 = .ok (.iconst 0, 1) := by decide +kernel
theorem dX12_on_8 : decode cX12_on 8 = .ok (.iconst 2, 1) := by decide +kernel
theorem dX12_on_9 : decode cX12_on 9 = .ok (.invokestatic 267, 3) := by decide +kernel
theorem dX12_on_12 : decode cX12_on 12 = .ok (.iconst 1, 1) := by decide +kernel
theorem dX12_on_13 : decode cX12_on 13 = .ok (.invokevirtual 271, 3) := by decide +kernel
theorem dX12_on_16 : decode cX12_on 16 = .ok (.ifCond .eq 17, 3) := by decide +kernel
theorem dX12_on_19 : decode cX12_on 19 = .ok (.aload_n 0, 1) := by decide +kernel
theorem dX12_on_20 : decode cX12_on 20 = .ok (.iload_n 2, 1) := by decide +kernel
theorem dX12_on_21 : decode cX12_on 21 = .ok (.iconst 0, 1) := by decide +kernel
theorem dX12_on_22 : decode cX12_on 22 = .ok (.iconst 3, 1) := by decide +kernel
theorem dX12_on_23 : decode cX12_on 23 = .ok (.invokestatic 267, 3) := by decide +kernel
theorem dX12_on_26 : decode cX12_on 26 = .ok (.iconst 2, 1) := by decide +kernel
theorem dX12_on_27 : decode cX12_on 27 = .ok (.invokevirtual 271, 3) := by decide +kernel
theorem dX12_on_30 : decode cX12_on 30 = .ok (.ifCond .ne 5, 3) := by decide +kernel
theorem dX12_on_33 : decode cX12_on 33 = .ok (.iconst 0, 1) := by decide +kernel
theorem dX12_on_34 : decode cX12_on 34 = .ok (.ireturn, 1) := by decide +kernel
theorem dX12_on_35 : decode cX12_on 35 = .ok (.iload_n 2, 1) := by decide +kernel
theorem dX12_on_36 : decode cX12_on 36 = .ok (.tableswitch 63 0 2 #[28, 35, 56], 28) := by decide +kernel
theorem dX12_on_64 : decode cX12_on 64 = .ok (.aload_n 0, 1) := by decide +kernel
theorem dX12_on_65 : decode cX12_on 65 = .ok (.getfield 225, 3) := by decide +kernel
theorem dX12_on_68 : decode cX12_on 68 = .ok (.iload_n 1, 1) := by decide +kernel
theorem dX12_on_69 : decode cX12_on 69 = .ok (.iaload, 1) := by decide +kernel
theorem dX12_on_70 : decode cX12_on 70 = .ok (.ireturn, 1) := by decide +kernel
theorem dX12_on_71 : decode cX12_on 71 = .ok (.aload_n 0, 1) := by decide +kernel
theorem dX12_on_72 : decode cX12_on 72 = .ok (.getfield 228, 3) := by decide +kernel
theorem dX12_on_75 : decode cX12_on 75 = .ok (.iload_n 1, 1) := by decide +kernel
theorem dX12_on_76 : decode cX12_on 76 = .ok (.iaload, 1) := by decide +kernel
theorem dX12_on_77 : decode cX12_on 77 = .ok (.iconst (-1), 1) := by decide +kernel
theorem dX12_on_78 : decode cX12_on 78 = .ok (.if_icmp .ne 7, 3) := by decide +kernel
theorem dX12_on_81 : decode cX12_on 81 = .ok (.iconst (-1), 1) := by decide +kernel
theorem dX12_on_82 : decode cX12_on 82 = .ok (.goto 9, 3) := by decide +kernel
theorem dX12_on_85 : decode cX12_on 85 = .ok (.aload_n 0, 1) := by decide +kernel
theorem dX12_on_86 : decode cX12_on 86 = .ok (.getfield 231, 3) := by decide +kernel
theorem dX12_on_89 : decode cX12_on 89 = .ok (.iload_n 1, 1) := by decide +kernel
theorem dX12_on_90 : decode cX12_on 90 = .ok (.iaload, 1) := by decide +kernel
theorem dX12_on_91 : decode cX12_on 91 = .ok (.ireturn, 1) := by decide +kernel
theorem dX12_on_92 : decode cX12_on 92 = .ok (.aload_n 0, 1) := by decide +kernel
theorem dX12_on_93 : decode cX12_on 93 = .ok (.getfield 219, 3) := by decide +kernel
theorem dX12_on_96 : decode cX12_on 96 = .ok (.iload_n 1, 1) := by decide +kernel
theorem dX12_on_97 : decode cX12_on 97 = .ok (.iaload, 1) := by decide +kernel
theorem dX12_on_98 : decode cX12_on 98 = .ok (.ireturn, 1) := by decide +kernel
theorem dX12_on_99 : decode cX12_on 99 = .ok (.aload_n 0, 1) := by decide +kernel
theorem dX12_on_100 : decode cX12_on 100 = .ok (.getfield 219, 3) := by decide +kernel
theorem dX12_on_103 : decode cX12_on 103 = .ok (.iload_n 1, 1) := by decide +kernel
theorem dX12_on_104 : decode cX12_on 104 = .ok (.iaload, 1) := by decide +kernel
theorem dX12_on_105 : decode cX12_on 105 = .ok (.ifCond .ne 7, 3) := by decide +kernel
theorem dX12_on_108 : decode cX12_on 108 = .ok (.iconst (-1), 1) := by decide +kernel
theorem dX12_on_109 : decode cX12_on 109 = .ok (.goto 12, 3) := by decide +kernel
theorem dX12_on_112 : decode cX12_on 112 = .ok (.aload_n 0, 1) := by decide +kernel
theorem dX12_on_113 : decode cX12_on 113 = .ok (.getfield 222, 3) := by decide +kernel
theorem dX12_on_116 : decode cX12_on 116 = .ok (.bipush 10, 2) := by decide +kernel
theorem dX12_on_118 : decode cX12_on 118 = .ok (.iload_n 1, 1) := by decide +kernel
theorem dX12_on_119 : decode cX12_on 119 = .ok (.imul, 1) := by decide +kernel
theorem dX12_on_120 : decode cX12_on 120 = .ok (.iaload, 1) := by decide +kernel
theorem dX12_on_121 : decode cX12_on 121 = .ok (.ireturn, 1) := by decide +kernel
theorem dX12_stands_0 : decode cX12_stands 0 = .ok (.aload_n 0, 1) := by decide +kernel
theorem dX12_stands_1 : decode cX12_stands 1 = .ok (.iconst 0, 1) := by decide +kernel
theorem dX12_stands_2 : decode cX12_stands 2 = .ok (.putfield 1, 3) := by decide +kernel
theorem dX12_stands_5 : decode cX12_stands 5 = .ok (.aload_n 0, 1) := by decide +kernel
theorem dX12_stands_6 : decode cX12_stands 6 = .ok (.iload_n 1, 1) := by decide +kernel
theorem dX12_stands_7 : decode cX12_stands 7 = .ok (.iconst 0, 1) := by decide +kernel
theorem dX12_stands_8 : decode cX12_stands 8 = .ok (.bipush 7, 2) := by decide +kernel
theorem dX12_stands_10 : decode cX12_stands 10 = .ok (.invokestatic 267, 3) := by decide +kernel
theorem dX12_stands_13 : decode cX12_stands 13 = .ok (.iconst 1, 1) := by decide +kernel
theorem dX12_stands_14 : decode cX12_stands 14 = .ok (.invokevirtual 271, 3) := by decide +kernel
theorem dX12_stands_17 : decode cX12_stands 17 = .ok (.ifCond .ne 5, 3) := by decide +kernel
theorem dX12_stands_20 : decode cX12_stands 20 = .ok (.iconst 0, 1) := by decide +kernel
theorem dX12_stands_21 : decode cX12_stands 21 = .ok (.ireturn, 1) := by decide +kernel
theorem dX12_stands_22 : decode cX12_stands 22 = .ok (.aload_n 0, 1) := by decide +kernel
theorem dX12_stands_23 : decode cX12_stands 23 = .ok (.getfield 234, 3) := by decide +kernel
theorem dX12_stands_26 : decode cX12_stands 26 = .ok (.iload_n 1, 1) := by decide +kernel
theorem dX12_stands_27 : decode cX12_stands 27 = .ok (.iaload, 1) := by decide +kernel
theorem dX12_stands_28 : decode cX12_stands 28 = .ok (.ireturn, 1) := by decide +kernel
theorem dX12_worked_0 : decode cX12_worked 0 = .ok (.aload_n 0, 1) := by decide +kernel
theorem dX12_worked_1 : decode cX12_worked 1 = .ok (.iconst 0, 1) := by decide +kernel
theorem dX12_worked_2 : decode cX12_worked 2 = .ok (.putfield 1, 3) := by decide +kernel
theorem dX12_worked_5 : decode cX12_worked 5 = .ok (.aload_n 0, 1) := by decide +kernel
theorem dX12_worked_6 : decode cX12_worked 6 = .ok (.iload_n 1, 1) := by decide +kernel
theorem dX12_worked_7 : decode cX12_worked 7 = .ok (.iconst 0, 1) := by decide +kernel
theorem dX12_worked_8 : decode cX12_worked 8 = .ok (.aload_n 0, 1) := by decide +kernel
theorem dX12_worked_9 : decode cX12_worked 9 = .ok (.getfield 525, 3) := by decide +kernel
theorem dX12_worked_12 : decode cX12_worked 12 = .ok (.iconst 1, 1) := by decide +kernel
theorem dX12_worked_13 : decode cX12_worked 13 = .ok (.isub, 1) := by decide +kernel
theorem dX12_worked_14 : decode cX12_worked 14 = .ok (.invokestatic 267, 3) := by decide +kernel
theorem dX12_worked_17 : decode cX12_worked 17 = .ok (.iconst 1, 1) := by decide +kernel
theorem dX12_worked_18 : decode cX12_worked 18 = .ok (.invokevirtual 271, 3) := by decide +kernel
theorem dX12_worked_21 : decode cX12_worked 21 = .ok (.ifCond .ne 5, 3) := by decide +kernel
theorem dX12_worked_24 : decode cX12_worked 24 = .ok (.iconst 0, 1) := by decide +kernel
theorem dX12_worked_25 : decode cX12_worked 25 = .ok (.ireturn, 1) := by decide +kernel
theorem dX12_worked_26 : decode cX12_worked 26 = .ok (.aload_n 0, 1) := by decide +kernel
theorem dX12_worked_27 : decode cX12_worked 27 = .ok (.iload_n 1, 1) := by decide +kernel
theorem dX12_worked_28 : decode cX12_worked 28 = .ok (.invokevirtual 543, 3) := by decide +kernel
theorem dX12_worked_31 : decode cX12_worked 31 = .ok (.ireturn, 1) := by decide +kernel
theorem dX12_copy_0 : decode cX12_copy 0 = .ok (.iconst 0, 1) := by decide +kernel
theorem dX12_copy_1 : decode cX12_copy 1 = .ok (.istore_n 2, 1) := by decide +kernel
theorem dX12_copy_2 : decode cX12_copy 2 = .ok (.iload_n 2, 1) := by decide +kernel
theorem dX12_copy_3 : decode cX12_copy 3 = .ok (.aload_n 0, 1) := by decide +kernel
theorem dX12_copy_4 : decode cX12_copy 4 = .ok (.arraylength, 1) := by decide +kernel
theorem dX12_copy_5 : decode cX12_copy 5 = .ok (.if_icmp .ge 15, 3) := by decide +kernel
theorem dX12_copy_8 : decode cX12_copy 8 = .ok (.aload_n 1, 1) := by decide +kernel
theorem dX12_copy_9 : decode cX12_copy 9 = .ok (.iload_n 2, 1) := by decide +kernel
theorem dX12_copy_10 : decode cX12_copy 10 = .ok (.aload_n 0, 1) := by decide +kernel
theorem dX12_copy_11 : decode cX12_copy 11 = .ok (.iload_n 2, 1) := by decide +kernel
theorem dX12_copy_12 : decode cX12_copy 12 = .ok (.iaload, 1) := by decide +kernel
theorem dX12_copy_13 : decode cX12_copy 13 = .ok (.iastore, 1) := by decide +kernel
theorem dX12_copy_14 : decode cX12_copy 14 = .ok (.iinc 2 1, 3) := by decide +kernel
theorem dX12_copy_17 : decode cX12_copy 17 = .ok (.goto (-15), 3) := by decide +kernel
theorem dX12_copy_20 : decode cX12_copy 20 = .ok (.return_, 1) := by decide +kernel
theorem dX12_isIdle_0 : decode cX12_isIdle 0 = .ok (.aload_n 0, 1) := by decide +kernel
theorem dX12_isIdle_1 : decode cX12_isIdle 1 = .ok (.getfield 219, 3) := by decide +kernel
theorem dX12_isIdle_4 : decode cX12_isIdle 4 = .ok (.iconst 0, 1) := by decide +kernel
theorem dX12_isIdle_5 : decode cX12_isIdle 5 = .ok (.iaload, 1) := by decide +kernel
theorem dX12_isIdle_6 : decode cX12_isIdle 6 = .ok (.aload_n 0, 1) := by decide +kernel
theorem dX12_isIdle_7 : decode cX12_isIdle 7 = .ok (.getfield 219, 3) := by decide +kernel
theorem dX12_isIdle_10 : decode cX12_isIdle 10 = .ok (.iconst 1, 1) := by decide +kernel
theorem dX12_isIdle_11 : decode cX12_isIdle 11 = .ok (.iaload, 1) := by decide +kernel
theorem dX12_isIdle_12 : decode cX12_isIdle 12 = .ok (.iadd, 1) := by decide +kernel
theorem dX12_isIdle_13 : decode cX12_isIdle 13 = .ok (.aload_n 0, 1) := by decide +kernel
theorem dX12_isIdle_14 : decode cX12_isIdle 14 = .ok (.getfield 219, 3) := by decide +kernel
theorem dX12_isIdle_17 : decode cX12_isIdle 17 = .ok (.iconst 2, 1) := by decide +kernel
theorem dX12_isIdle_18 : decode cX12_isIdle 18 = .ok (.iaload, 1) := by decide +kernel
theorem dX12_isIdle_19 : decode cX12_isIdle 19 = .ok (.iadd, 1) := by decide +kernel
theorem dX12_isIdle_20 : decode cX12_isIdle 20 = .ok (.ifCond .ne 37, 3) := by decide +kernel
theorem dX12_isIdle_23 : decode cX12_isIdle 23 = .ok (.aload_n 0, 1) := by decide +kernel
theorem dX12_isIdle_24 : decode cX12_isIdle 24 = .ok (.getfield 225, 3) := by decide +kernel
theorem dX12_isIdle_27 : decode cX12_isIdle 27 = .ok (.iconst 0, 1) := by decide +kernel
theorem dX12_isIdle_28 : decode cX12_isIdle 28 = .ok (.iaload, 1) := by decide +kernel
theorem dX12_isIdle_29 : decode cX12_isIdle 29 = .ok (.iconst (-1), 1) := by decide +kernel
theorem dX12_isIdle_30 : decode cX12_isIdle 30 = .ok (.if_icmp .ne 27, 3) := by decide +kernel
theorem dX12_isIdle_33 : decode cX12_isIdle 33 = .ok (.aload_n 0, 1) := by decide +kernel
theorem dX12_isIdle_34 : decode cX12_isIdle 34 = .ok (.getfield 225, 3) := by decide +kernel
theorem dX12_isIdle_37 : decode cX12_isIdle 37 = .ok (.iconst 1, 1) := by decide +kernel
theorem dX12_isIdle_38 : decode cX12_isIdle 38 = .ok (.iaload, 1) := by decide +kernel
theorem dX12_isIdle_39 : decode cX12_isIdle 39 = .ok (.iconst (-1), 1) := by decide +kernel
theorem dX12_isIdle_40 : decode cX12_isIdle 40 = .ok (.if_icmp .ne 17, 3) := by decide +kernel
theorem dX12_isIdle_43 : decode cX12_isIdle 43 = .ok (.aload_n 0, 1) := by decide +kernel
theorem dX12_isIdle_44 : decode cX12_isIdle 44 = .ok (.getfield 225, 3) := by decide +kernel
theorem dX12_isIdle_47 : decode cX12_isIdle 47 = .ok (.iconst 2, 1) := by decide +kernel
theorem dX12_isIdle_48 : decode cX12_isIdle 48 = .ok (.iaload, 1) := by decide +kernel
theorem dX12_isIdle_49 : decode cX12_isIdle 49 = .ok (.iconst (-1), 1) := by decide +kernel
theorem dX12_isIdle_50 : decode cX12_isIdle 50 = .ok (.if_icmp .ne 7, 3) := by decide +kernel
theorem dX12_isIdle_53 : decode cX12_isIdle 53 = .ok (.iconst 1, 1) := by decide +kernel
theorem dX12_isIdle_54 : decode cX12_isIdle 54 = .ok (.goto 4, 3) := by decide +kernel
theorem dX12_isIdle_57 : decode cX12_isIdle 57 = .ok (.iconst 0, 1) := by decide +kernel
theorem dX12_isIdle_58 : decode cX12_isIdle 58 = .ok (.ireturn, 1) := by decide +kernel
theorem dX12_foretold_0 : decode cX12_foretold 0 = .ok (.aload_n 0, 1) := by decide +kernel
theorem dX12_foretold_1 : decode cX12_foretold 1 = .ok (.iconst 0, 1) := by decide +kernel
theorem dX12_foretold_2 : decode cX12_foretold 2 = .ok (.putfield 1, 3) := by decide +kernel
theorem dX12_foretold_5 : decode cX12_foretold 5 = .ok (.aload_n 0, 1) := by decide +kernel
theorem dX12_foretold_6 : decode cX12_foretold 6 = .ok (.aload_n 0, 1) := by decide +kernel
theorem dX12_foretold_7 : decode cX12_foretold 7 = .ok (.getfield 513, 3) := by decide +kernel
theorem dX12_foretold_10 : decode cX12_foretold 10 = .ok (.putfield 561, 3) := by decide +kernel
theorem dX12_foretold_13 : decode cX12_foretold 13 = .ok (.aload_n 0, 1) := by decide +kernel
theorem dX12_foretold_14 : decode cX12_foretold 14 = .ok (.getfield 210, 3) := by decide +kernel
theorem dX12_foretold_17 : decode cX12_foretold 17 = .ok (.aload_n 0, 1) := by decide +kernel
theorem dX12_foretold_18 : decode cX12_foretold 18 = .ok (.getfield 237, 3) := by decide +kernel
theorem dX12_foretold_21 : decode cX12_foretold 21 = .ok (.invokestatic 564, 3) := by decide +kernel
theorem dX12_foretold_24 : decode cX12_foretold 24 = .ok (.aload_n 0, 1) := by decide +kernel
theorem dX12_foretold_25 : decode cX12_foretold 25 = .ok (.getfield 213, 3) := by decide +kernel
theorem dX12_foretold_28 : decode cX12_foretold 28 = .ok (.aload_n 0, 1) := by decide +kernel
theorem dX12_foretold_29 : decode cX12_foretold 29 = .ok (.getfield 240, 3) := by decide +kernel
theorem dX12_foretold_32 : decode cX12_foretold 32 = .ok (.invokestatic 564, 3) := by decide +kernel
theorem dX12_foretold_35 : decode cX12_foretold 35 = .ok (.aload_n 0, 1) := by decide +kernel
theorem dX12_foretold_36 : decode cX12_foretold 36 = .ok (.getfield 219, 3) := by decide +kernel
theorem dX12_foretold_39 : decode cX12_foretold 39 = .ok (.aload_n 0, 1) := by decide +kernel
theorem dX12_foretold_40 : decode cX12_foretold 40 = .ok (.getfield 243, 3) := by decide +kernel
theorem dX12_foretold_43 : decode cX12_foretold 43 = .ok (.invokestatic 564, 3) := by decide +kernel
theorem dX12_foretold_46 : decode cX12_foretold 46 = .ok (.aload_n 0, 1) := by decide +kernel
theorem dX12_foretold_47 : decode cX12_foretold 47 = .ok (.getfield 222, 3) := by decide +kernel
theorem dX12_foretold_50 : decode cX12_foretold 50 = .ok (.aload_n 0, 1) := by decide +kernel
theorem dX12_foretold_51 : decode cX12_foretold 51 = .ok (.getfield 246, 3) := by decide +kernel
theorem dX12_foretold_54 : decode cX12_foretold 54 = .ok (.invokestatic 564, 3) := by decide +kernel
theorem dX12_foretold_57 : decode cX12_foretold 57 = .ok (.aload_n 0, 1) := by decide +kernel
theorem dX12_foretold_58 : decode cX12_foretold 58 = .ok (.getfield 225, 3) := by decide +kernel
theorem dX12_foretold_61 : decode cX12_foretold 61 = .ok (.aload_n 0, 1) := by decide +kernel
theorem dX12_foretold_62 : decode cX12_foretold 62 = .ok (.getfield 249, 3) := by decide +kernel
theorem dX12_foretold_65 : decode cX12_foretold 65 = .ok (.invokestatic 564, 3) := by decide +kernel
theorem dX12_foretold_68 : decode cX12_foretold 68 = .ok (.aload_n 0, 1) := by decide +kernel
theorem dX12_foretold_69 : decode cX12_foretold 69 = .ok (.getfield 228, 3) := by decide +kernel
theorem dX12_foretold_72 : decode cX12_foretold 72 = .ok (.aload_n 0, 1) := by decide +kernel
theorem dX12_foretold_73 : decode cX12_foretold 73 = .ok (.getfield 252, 3) := by decide +kernel
theorem dX12_foretold_76 : decode cX12_foretold 76 = .ok (.invokestatic 564, 3) := by decide +kernel
theorem dX12_foretold_79 : decode cX12_foretold 79 = .ok (.aload_n 0, 1) := by decide +kernel
theorem dX12_foretold_80 : decode cX12_foretold 80 = .ok (.getfield 231, 3) := by decide +kernel
theorem dX12_foretold_83 : decode cX12_foretold 83 = .ok (.aload_n 0, 1) := by decide +kernel
theorem dX12_foretold_84 : decode cX12_foretold 84 = .ok (.getfield 255, 3) := by decide +kernel
theorem dX12_foretold_87 : decode cX12_foretold 87 = .ok (.invokestatic 564, 3) := by decide +kernel
theorem dX12_foretold_90 : decode cX12_foretold 90 = .ok (.aload_n 0, 1) := by decide +kernel
theorem dX12_foretold_91 : decode cX12_foretold 91 = .ok (.getfield 234, 3) := by decide +kernel
theorem dX12_foretold_94 : decode cX12_foretold 94 = .ok (.aload_n 0, 1) := by decide +kernel
theorem dX12_foretold_95 : decode cX12_foretold 95 = .ok (.getfield 258, 3) := by decide +kernel
theorem dX12_foretold_98 : decode cX12_foretold 98 = .ok (.invokestatic 564, 3) := by decide +kernel
theorem dX12_foretold_101 : decode cX12_foretold 101 = .ok (.aload_n 0, 1) := by decide +kernel
theorem dX12_foretold_102 : decode cX12_foretold 102 = .ok (.getfield 116, 3) := by decide +kernel
theorem dX12_foretold_105 : decode cX12_foretold 105 = .ok (.aload_n 0, 1) := by decide +kernel
theorem dX12_foretold_106 : decode cX12_foretold 106 = .ok (.getfield 261, 3) := by decide +kernel
theorem dX12_foretold_109 : decode cX12_foretold 109 = .ok (.invokestatic 564, 3) := by decide +kernel
theorem dX12_foretold_112 : decode cX12_foretold 112 = .ok (.iconst 0, 1) := by decide +kernel
theorem dX12_foretold_113 : decode cX12_foretold 113 = .ok (.istore_n 1, 1) := by decide +kernel
theorem dX12_foretold_114 : decode cX12_foretold 114 = .ok (.iload_n 1, 1) := by decide +kernel
theorem dX12_foretold_115 : decode cX12_foretold 115 = .ok (.sipush 2000, 3) := by decide +kernel
theorem dX12_foretold_118 : decode cX12_foretold 118 = .ok (.if_icmp .ge 20, 3) := by decide +kernel
theorem dX12_foretold_121 : decode cX12_foretold 121 = .ok (.aload_n 0, 1) := by decide +kernel
theorem dX12_foretold_122 : decode cX12_foretold 122 = .ok (.invokevirtual 568, 3) := by decide +kernel
theorem dX12_foretold_125 : decode cX12_foretold 125 = .ok (.ifCond .ne 13, 3) := by decide +kernel
theorem dX12_foretold_128 : decode cX12_foretold 128 = .ok (.aload_n 0, 1) := by decide +kernel
theorem dX12_foretold_129 : decode cX12_foretold 129 = .ok (.invokevirtual 558, 3) := by decide +kernel
theorem dX12_foretold_132 : decode cX12_foretold 132 = .ok (.iinc 1 1, 3) := by decide +kernel
theorem dX12_foretold_135 : decode cX12_foretold 135 = .ok (.goto (-21), 3) := by decide +kernel
theorem dX12_foretold_138 : decode cX12_foretold 138 = .ok (.aload_n 0, 1) := by decide +kernel
theorem dX12_foretold_139 : decode cX12_foretold 139 = .ok (.invokevirtual 568, 3) := by decide +kernel
theorem dX12_foretold_142 : decode cX12_foretold 142 = .ok (.istore_n 2, 1) := by decide +kernel
theorem dX12_foretold_143 : decode cX12_foretold 143 = .ok (.aload_n 0, 1) := by decide +kernel
theorem dX12_foretold_144 : decode cX12_foretold 144 = .ok (.aload_n 0, 1) := by decide +kernel
theorem dX12_foretold_145 : decode cX12_foretold 145 = .ok (.getfield 561, 3) := by decide +kernel
theorem dX12_foretold_148 : decode cX12_foretold 148 = .ok (.putfield 513, 3) := by decide +kernel
theorem dX12_foretold_151 : decode cX12_foretold 151 = .ok (.aload_n 0, 1) := by decide +kernel
theorem dX12_foretold_152 : decode cX12_foretold 152 = .ok (.getfield 237, 3) := by decide +kernel
theorem dX12_foretold_155 : decode cX12_foretold 155 = .ok (.aload_n 0, 1) := by decide +kernel
theorem dX12_foretold_156 : decode cX12_foretold 156 = .ok (.getfield 210, 3) := by decide +kernel
theorem dX12_foretold_159 : decode cX12_foretold 159 = .ok (.invokestatic 564, 3) := by decide +kernel
theorem dX12_foretold_162 : decode cX12_foretold 162 = .ok (.aload_n 0, 1) := by decide +kernel
theorem dX12_foretold_163 : decode cX12_foretold 163 = .ok (.getfield 240, 3) := by decide +kernel
theorem dX12_foretold_166 : decode cX12_foretold 166 = .ok (.aload_n 0, 1) := by decide +kernel
theorem dX12_foretold_167 : decode cX12_foretold 167 = .ok (.getfield 213, 3) := by decide +kernel
theorem dX12_foretold_170 : decode cX12_foretold 170 = .ok (.invokestatic 564, 3) := by decide +kernel
theorem dX12_foretold_173 : decode cX12_foretold 173 = .ok (.aload_n 0, 1) := by decide +kernel
theorem dX12_foretold_174 : decode cX12_foretold 174 = .ok (.getfield 243, 3) := by decide +kernel
theorem dX12_foretold_177 : decode cX12_foretold 177 = .ok (.aload_n 0, 1) := by decide +kernel
theorem dX12_foretold_178 : decode cX12_foretold 178 = .ok (.getfield 219, 3) := by decide +kernel
theorem dX12_foretold_181 : decode cX12_foretold 181 = .ok (.invokestatic 564, 3) := by decide +kernel
theorem dX12_foretold_184 : decode cX12_foretold 184 = .ok (.aload_n 0, 1) := by decide +kernel
theorem dX12_foretold_185 : decode cX12_foretold 185 = .ok (.getfield 246, 3) := by decide +kernel
theorem dX12_foretold_188 : decode cX12_foretold 188 = .ok (.aload_n 0, 1) := by decide +kernel
theorem dX12_foretold_189 : decode cX12_foretold 189 = .ok (.getfield 222, 3) := by decide +kernel
theorem dX12_foretold_192 : decode cX12_foretold 192 = .ok (.invokestatic 564, 3) := by decide +kernel
theorem dX12_foretold_195 : decode cX12_foretold 195 = .ok (.aload_n 0, 1) := by decide +kernel
theorem dX12_foretold_196 : decode cX12_foretold 196 = .ok (.getfield 249, 3) := by decide +kernel
theorem dX12_foretold_199 : decode cX12_foretold 199 = .ok (.aload_n 0, 1) := by decide +kernel
theorem dX12_foretold_200 : decode cX12_foretold 200 = .ok (.getfield 225, 3) := by decide +kernel
theorem dX12_foretold_203 : decode cX12_foretold 203 = .ok (.invokestatic 564, 3) := by decide +kernel
theorem dX12_foretold_206 : decode cX12_foretold 206 = .ok (.aload_n 0, 1) := by decide +kernel
theorem dX12_foretold_207 : decode cX12_foretold 207 = .ok (.getfield 252, 3) := by decide +kernel
theorem dX12_foretold_210 : decode cX12_foretold 210 = .ok (.aload_n 0, 1) := by decide +kernel
theorem dX12_foretold_211 : decode cX12_foretold 211 = .ok (.getfield 228, 3) := by decide +kernel
theorem dX12_foretold_214 : decode cX12_foretold 214 = .ok (.invokestatic 564, 3) := by decide +kernel
theorem dX12_foretold_217 : decode cX12_foretold 217 = .ok (.aload_n 0, 1) := by decide +kernel
theorem dX12_foretold_218 : decode cX12_foretold 218 = .ok (.getfield 255, 3) := by decide +kernel
theorem dX12_foretold_221 : decode cX12_foretold 221 = .ok (.aload_n 0, 1) := by decide +kernel
theorem dX12_foretold_222 : decode cX12_foretold 222 = .ok (.getfield 231, 3) := by decide +kernel
theorem dX12_foretold_225 : decode cX12_foretold 225 = .ok (.invokestatic 564, 3) := by decide +kernel
theorem dX12_foretold_228 : decode cX12_foretold 228 = .ok (.aload_n 0, 1) := by decide +kernel
theorem dX12_foretold_229 : decode cX12_foretold 229 = .ok (.getfield 258, 3) := by decide +kernel
theorem dX12_foretold_232 : decode cX12_foretold 232 = .ok (.aload_n 0, 1) := by decide +kernel
theorem dX12_foretold_233 : decode cX12_foretold 233 = .ok (.getfield 234, 3) := by decide +kernel
theorem dX12_foretold_236 : decode cX12_foretold 236 = .ok (.invokestatic 564, 3) := by decide +kernel
theorem dX12_foretold_239 : decode cX12_foretold 239 = .ok (.aload_n 0, 1) := by decide +kernel
theorem dX12_foretold_240 : decode cX12_foretold 240 = .ok (.getfield 261, 3) := by decide +kernel
theorem dX12_foretold_243 : decode cX12_foretold 243 = .ok (.aload_n 0, 1) := by decide +kernel
theorem dX12_foretold_244 : decode cX12_foretold 244 = .ok (.getfield 116, 3) := by decide +kernel
theorem dX12_foretold_247 : decode cX12_foretold 247 = .ok (.invokestatic 564, 3) := by decide +kernel
theorem dX12_foretold_250 : decode cX12_foretold 250 = .ok (.iload_n 2, 1) := by decide +kernel
theorem dX12_foretold_251 : decode cX12_foretold 251 = .ok (.ifCond .eq 7, 3) := by decide +kernel
theorem dX12_foretold_254 : decode cX12_foretold 254 = .ok (.iload_n 1, 1) := by decide +kernel
theorem dX12_foretold_255 : decode cX12_foretold 255 = .ok (.goto 4, 3) := by decide +kernel
theorem dX12_foretold_258 : decode cX12_foretold 258 = .ok (.iconst (-1), 1) := by decide +kernel
theorem dX12_foretold_259 : decode cX12_foretold 259 = .ok (.ireturn, 1) := by decide +kernel
theorem dX12_count_0 : decode cX12_count 0 = .ok (.aload_n 0, 1) := by decide +kernel
theorem dX12_count_1 : decode cX12_count 1 = .ok (.iconst 0, 1) := by decide +kernel
theorem dX12_count_2 : decode cX12_count 2 = .ok (.putfield 1, 3) := by decide +kernel
theorem dX12_count_5 : decode cX12_count 5 = .ok (.iload_n 1, 1) := by decide +kernel
theorem dX12_count_6 : decode cX12_count 6 = .ok (.tableswitch 68 0 5 #[38, 43, 48, 53, 58, 63], 38) := by decide +kernel
theorem dX12_count_44 : decode cX12_count 44 = .ok (.aload_n 0, 1) := by decide +kernel
theorem dX12_count_45 : decode cX12_count 45 = .ok (.getfield 264, 3) := by decide +kernel
theorem dX12_count_48 : decode cX12_count 48 = .ok (.ireturn, 1) := by decide +kernel
theorem dX12_count_49 : decode cX12_count 49 = .ok (.aload_n 0, 1) := by decide +kernel
theorem dX12_count_50 : decode cX12_count 50 = .ok (.getfield 398, 3) := by decide +kernel
theorem dX12_count_53 : decode cX12_count 53 = .ok (.ireturn, 1) := by decide +kernel
theorem dX12_count_54 : decode cX12_count 54 = .ok (.aload_n 0, 1) := by decide +kernel
theorem dX12_count_55 : decode cX12_count 55 = .ok (.getfield 504, 3) := by decide +kernel
theorem dX12_count_58 : decode cX12_count 58 = .ok (.ireturn, 1) := by decide +kernel
theorem dX12_count_59 : decode cX12_count 59 = .ok (.aload_n 0, 1) := by decide +kernel
theorem dX12_count_60 : decode cX12_count 60 = .ok (.getfield 513, 3) := by decide +kernel
theorem dX12_count_63 : decode cX12_count 63 = .ok (.ireturn, 1) := by decide +kernel
theorem dX12_count_64 : decode cX12_count 64 = .ok (.aload_n 0, 1) := by decide +kernel
theorem dX12_count_65 : decode cX12_count 65 = .ok (.getfield 279, 3) := by decide +kernel
theorem dX12_count_68 : decode cX12_count 68 = .ok (.ireturn, 1) := by decide +kernel
theorem dX12_count_69 : decode cX12_count 69 = .ok (.aload_n 0, 1) := by decide +kernel
theorem dX12_count_70 : decode cX12_count 70 = .ok (.getfield 516, 3) := by decide +kernel
theorem dX12_count_73 : decode cX12_count 73 = .ok (.ireturn, 1) := by decide +kernel
theorem dX12_count_74 : decode cX12_count 74 = .ok (.iconst (-1), 1) := by decide +kernel
theorem dX12_count_75 : decode cX12_count 75 = .ok (.ireturn, 1) := by decide +kernel
theorem dJ9_max_7cf53_0 : decode cJ9_max_7cf53 0 = .ok (.iload_n 0, 1) := by decide +kernel
theorem dJ9_max_7cf53_1 : decode cJ9_max_7cf53 1 = .ok (.iload_n 1, 1) := by decide +kernel
theorem dJ9_max_7cf53_2 : decode cJ9_max_7cf53 2 = .ok (.if_icmp .lt 7, 3) := by decide +kernel
theorem dJ9_max_7cf53_5 : decode cJ9_max_7cf53 5 = .ok (.iload_n 0, 1) := by decide +kernel
theorem dJ9_max_7cf53_6 : decode cJ9_max_7cf53 6 = .ok (.goto 4, 3) := by decide +kernel
theorem dJ9_max_7cf53_9 : decode cJ9_max_7cf53 9 = .ok (.iload_n 1, 1) := by decide +kernel
theorem dJ9_max_7cf53_10 : decode cJ9_max_7cf53 10 = .ok (.ireturn, 1) := by decide +kernel
theorem dJ9_min_7cf53_0 : decode cJ9_min_7cf53 0 = .ok (.iload_n 0, 1) := by decide +kernel
theorem dJ9_min_7cf53_1 : decode cJ9_min_7cf53 1 = .ok (.iload_n 1, 1) := by decide +kernel
theorem dJ9_min_7cf53_2 : decode cJ9_min_7cf53 2 = .ok (.if_icmp .gt 7, 3) := by decide +kernel
theorem dJ9_min_7cf53_5 : decode cJ9_min_7cf53 5 = .ok (.iload_n 0, 1) := by decide +kernel
theorem dJ9_min_7cf53_6 : decode cJ9_min_7cf53 6 = .ok (.goto 4, 3) := by decide +kernel
theorem dJ9_min_7cf53_9 : decode cJ9_min_7cf53 9 = .ok (.iload_n 1, 1) := by decide +kernel
theorem dJ9_min_7cf53_10 : decode cJ9_min_7cf53 10 = .ok (.ireturn, 1) := by decide +kernel
theorem dJ7_fill_d0a16_0 : decode cJ7_fill_d0a16 0 = .ok (.iconst 0, 1) := by decide +kernel
theorem dJ7_fill_d0a16_1 : decode cJ7_fill_d0a16 1 = .ok (.istore_n 3, 1) := by decide +kernel
theorem dJ7_fill_d0a16_2 : decode cJ7_fill_d0a16 2 = .ok (.aload_n 0, 1) := by decide +kernel
theorem dJ7_fill_d0a16_3 : decode cJ7_fill_d0a16 3 = .ok (.arraylength, 1) := by decide +kernel
theorem dJ7_fill_d0a16_4 : decode cJ7_fill_d0a16 4 = .ok (.istore 4, 2) := by decide +kernel
theorem dJ7_fill_d0a16_6 : decode cJ7_fill_d0a16 6 = .ok (.iload_n 3, 1) := by decide +kernel
theorem dJ7_fill_d0a16_7 : decode cJ7_fill_d0a16 7 = .ok (.iload 4, 2) := by decide +kernel
theorem dJ7_fill_d0a16_9 : decode cJ7_fill_d0a16 9 = .ok (.if_icmp .ge 13, 3) := by decide +kernel
theorem dJ7_fill_d0a16_12 : decode cJ7_fill_d0a16 12 = .ok (.aload_n 0, 1) := by decide +kernel
theorem dJ7_fill_d0a16_13 : decode cJ7_fill_d0a16 13 = .ok (.iload_n 3, 1) := by decide +kernel
theorem dJ7_fill_d0a16_14 : decode cJ7_fill_d0a16 14 = .ok (.lload_n 1, 1) := by decide +kernel
theorem dJ7_fill_d0a16_15 : decode cJ7_fill_d0a16 15 = .ok (.lastore, 1) := by decide +kernel
theorem dJ7_fill_d0a16_16 : decode cJ7_fill_d0a16 16 = .ok (.iinc 3 1, 3) := by decide +kernel
theorem dJ7_fill_d0a16_19 : decode cJ7_fill_d0a16 19 = .ok (.goto (-13), 3) := by decide +kernel
theorem dJ7_fill_d0a16_22 : decode cJ7_fill_d0a16 22 = .ok (.return_, 1) := by decide +kernel
theorem dJ7_fill_53178_0 : decode cJ7_fill_53178 0 = .ok (.iconst 0, 1) := by decide +kernel
theorem dJ7_fill_53178_1 : decode cJ7_fill_53178 1 = .ok (.istore_n 2, 1) := by decide +kernel
theorem dJ7_fill_53178_2 : decode cJ7_fill_53178 2 = .ok (.aload_n 0, 1) := by decide +kernel
theorem dJ7_fill_53178_3 : decode cJ7_fill_53178 3 = .ok (.arraylength, 1) := by decide +kernel
theorem dJ7_fill_53178_4 : decode cJ7_fill_53178 4 = .ok (.istore_n 3, 1) := by decide +kernel
theorem dJ7_fill_53178_5 : decode cJ7_fill_53178 5 = .ok (.iload_n 2, 1) := by decide +kernel
theorem dJ7_fill_53178_6 : decode cJ7_fill_53178 6 = .ok (.iload_n 3, 1) := by decide +kernel
theorem dJ7_fill_53178_7 : decode cJ7_fill_53178 7 = .ok (.if_icmp .ge 13, 3) := by decide +kernel
theorem dJ7_fill_53178_10 : decode cJ7_fill_53178 10 = .ok (.aload_n 0, 1) := by decide +kernel
theorem dJ7_fill_53178_11 : decode cJ7_fill_53178 11 = .ok (.iload_n 2, 1) := by decide +kernel
theorem dJ7_fill_53178_12 : decode cJ7_fill_53178 12 = .ok (.iload_n 1, 1) := by decide +kernel
theorem dJ7_fill_53178_13 : decode cJ7_fill_53178 13 = .ok (.iastore, 1) := by decide +kernel
theorem dJ7_fill_53178_14 : decode cJ7_fill_53178 14 = .ok (.iinc 2 1, 3) := by decide +kernel
theorem dJ7_fill_53178_17 : decode cJ7_fill_53178 17 = .ok (.goto (-12), 3) := by decide +kernel
theorem dJ7_fill_53178_20 : decode cJ7_fill_53178 20 = .ok (.return_, 1) := by decide +kernel
theorem dL_joint_0 : decode cL_joint 0 = .ok (.aload 7, 2) := by decide +kernel
theorem dL_joint_2 : decode cL_joint 2 = .ok (.iconst 0, 1) := by decide +kernel
theorem dL_joint_3 : decode cL_joint 3 = .ok (.aload_n 0, 1) := by decide +kernel
theorem dL_joint_4 : decode cL_joint 4 = .ok (.iload_n 1, 1) := by decide +kernel
theorem dL_joint_5 : decode cL_joint 5 = .ok (.iload_n 2, 1) := by decide +kernel
theorem dL_joint_6 : decode cL_joint 6 = .ok (.iload_n 3, 1) := by decide +kernel
theorem dL_joint_7 : decode cL_joint 7 = .ok (.iload 4, 2) := by decide +kernel
theorem dL_joint_9 : decode cL_joint 9 = .ok (.iload 5, 2) := by decide +kernel
theorem dL_joint_11 : decode cL_joint 11 = .ok (.iload 6, 2) := by decide +kernel
theorem dL_joint_13 : decode cL_joint 13 = .ok (.invokevirtual 7, 3) := by decide +kernel
theorem dL_joint_16 : decode cL_joint 16 = .ok (.i2l, 1) := by decide +kernel
theorem dL_joint_17 : decode cL_joint 17 = .ok (.lastore, 1) := by decide +kernel
theorem dL_joint_18 : decode cL_joint 18 = .ok (.goto 11, 3) := by decide +kernel
theorem dL_joint_21 : decode cL_joint 21 = .ok (.astore 8, 2) := by decide +kernel
theorem dL_joint_23 : decode cL_joint 23 = .ok (.iconst 1, 1) := by decide +kernel
theorem dL_joint_24 : decode cL_joint 24 = .ok (.ireturn, 1) := by decide +kernel
theorem dL_joint_25 : decode cL_joint 25 = .ok (.astore 8, 2) := by decide +kernel
theorem dL_joint_27 : decode cL_joint 27 = .ok (.iconst 2, 1) := by decide +kernel
theorem dL_joint_28 : decode cL_joint 28 = .ok (.ireturn, 1) := by decide +kernel
theorem dL_joint_29 : decode cL_joint 29 = .ok (.iconst 0, 1) := by decide +kernel
theorem dL_joint_30 : decode cL_joint 30 = .ok (.ireturn, 1) := by decide +kernel
theorem dL_feet_0 : decode cL_feet 0 = .ok (.aload_n 0, 1) := by decide +kernel
theorem dL_feet_1 : decode cL_feet 1 = .ok (.iload_n 1, 1) := by decide +kernel
theorem dL_feet_2 : decode cL_feet 2 = .ok (.iload_n 2, 1) := by decide +kernel
theorem dL_feet_3 : decode cL_feet 3 = .ok (.iload_n 3, 1) := by decide +kernel
theorem dL_feet_4 : decode cL_feet 4 = .ok (.invokevirtual 17, 3) := by decide +kernel
theorem dL_feet_7 : decode cL_feet 7 = .ok (.goto 11, 3) := by decide +kernel
theorem dL_feet_10 : decode cL_feet 10 = .ok (.astore 4, 2) := by decide +kernel
theorem dL_feet_12 : decode cL_feet 12 = .ok (.iconst 1, 1) := by decide +kernel
theorem dL_feet_13 : decode cL_feet 13 = .ok (.ireturn, 1) := by decide +kernel
theorem dL_feet_14 : decode cL_feet 14 = .ok (.astore 4, 2) := by decide +kernel
theorem dL_feet_16 : decode cL_feet 16 = .ok (.iconst 2, 1) := by decide +kernel
theorem dL_feet_17 : decode cL_feet 17 = .ok (.ireturn, 1) := by decide +kernel
theorem dL_feet_18 : decode cL_feet 18 = .ok (.iconst 0, 1) := by decide +kernel
theorem dL_feet_19 : decode cL_feet 19 = .ok (.ireturn, 1) := by decide +kernel
theorem dL_kit_0 : decode cL_kit 0 = .ok (.aload_n 3, 1) := by decide +kernel
theorem dL_kit_1 : decode cL_kit 1 = .ok (.iconst 0, 1) := by decide +kernel
theorem dL_kit_2 : decode cL_kit 2 = .ok (.aload_n 0, 1) := by decide +kernel
theorem dL_kit_3 : decode cL_kit 3 = .ok (.iload_n 1, 1) := by decide +kernel
theorem dL_kit_4 : decode cL_kit 4 = .ok (.iload_n 2, 1) := by decide +kernel
theorem dL_kit_5 : decode cL_kit 5 = .ok (.invokevirtual 21, 3) := by decide +kernel
theorem dL_kit_8 : decode cL_kit 8 = .ok (.i2l, 1) := by decide +kernel
theorem dL_kit_9 : decode cL_kit 9 = .ok (.lastore, 1) := by decide +kernel
theorem dL_kit_10 : decode cL_kit 10 = .ok (.goto 11, 3) := by decide +kernel
theorem dL_kit_13 : decode cL_kit 13 = .ok (.astore 4, 2) := by decide +kernel
theorem dL_kit_15 : decode cL_kit 15 = .ok (.iconst 1, 1) := by decide +kernel
theorem dL_kit_16 : decode cL_kit 16 = .ok (.ireturn, 1) := by decide +kernel
theorem dL_kit_17 : decode cL_kit 17 = .ok (.astore 4, 2) := by decide +kernel
theorem dL_kit_19 : decode cL_kit 19 = .ok (.iconst 2, 1) := by decide +kernel
theorem dL_kit_20 : decode cL_kit 20 = .ok (.ireturn, 1) := by decide +kernel
theorem dL_kit_21 : decode cL_kit 21 = .ok (.iconst 0, 1) := by decide +kernel
theorem dL_kit_22 : decode cL_kit 22 = .ok (.ireturn, 1) := by decide +kernel
theorem dL_sound_0 : decode cL_sound 0 = .ok (.aload_n 3, 1) := by decide +kernel
theorem dL_sound_1 : decode cL_sound 1 = .ok (.iconst 0, 1) := by decide +kernel
theorem dL_sound_2 : decode cL_sound 2 = .ok (.aload_n 0, 1) := by decide +kernel
theorem dL_sound_3 : decode cL_sound 3 = .ok (.iload_n 1, 1) := by decide +kernel
theorem dL_sound_4 : decode cL_sound 4 = .ok (.iload_n 2, 1) := by decide +kernel
theorem dL_sound_5 : decode cL_sound 5 = .ok (.invokevirtual 25, 3) := by decide +kernel
theorem dL_sound_8 : decode cL_sound 8 = .ok (.i2l, 1) := by decide +kernel
theorem dL_sound_9 : decode cL_sound 9 = .ok (.lastore, 1) := by decide +kernel
theorem dL_sound_10 : decode cL_sound 10 = .ok (.goto 7, 3) := by decide +kernel
theorem dL_sound_13 : decode cL_sound 13 = .ok (.astore 4, 2) := by decide +kernel
theorem dL_sound_15 : decode cL_sound 15 = .ok (.iconst 1, 1) := by decide +kernel
theorem dL_sound_16 : decode cL_sound 16 = .ok (.ireturn, 1) := by decide +kernel
theorem dL_sound_17 : decode cL_sound 17 = .ok (.iconst 0, 1) := by decide +kernel
theorem dL_sound_18 : decode cL_sound 18 = .ok (.ireturn, 1) := by decide +kernel
theorem dL_shot_0 : decode cL_shot 0 = .ok (.aload_n 2, 1) := by decide +kernel
theorem dL_shot_1 : decode cL_shot 1 = .ok (.iconst 0, 1) := by decide +kernel
theorem dL_shot_2 : decode cL_shot 2 = .ok (.aload_n 0, 1) := by decide +kernel
theorem dL_shot_3 : decode cL_shot 3 = .ok (.iload_n 1, 1) := by decide +kernel
theorem dL_shot_4 : decode cL_shot 4 = .ok (.invokevirtual 28, 3) := by decide +kernel
theorem dL_shot_7 : decode cL_shot 7 = .ok (.i2l, 1) := by decide +kernel
theorem dL_shot_8 : decode cL_shot 8 = .ok (.lastore, 1) := by decide +kernel
theorem dL_shot_9 : decode cL_shot 9 = .ok (.goto 9, 3) := by decide +kernel
theorem dL_shot_12 : decode cL_shot 12 = .ok (.astore_n 3, 1) := by decide +kernel
theorem dL_shot_13 : decode cL_shot 13 = .ok (.iconst 1, 1) := by decide +kernel
theorem dL_shot_14 : decode cL_shot 14 = .ok (.ireturn, 1) := by decide +kernel
theorem dL_shot_15 : decode cL_shot 15 = .ok (.astore_n 3, 1) := by decide +kernel
theorem dL_shot_16 : decode cL_shot 16 = .ok (.iconst 2, 1) := by decide +kernel
theorem dL_shot_17 : decode cL_shot 17 = .ok (.ireturn, 1) := by decide +kernel
theorem dL_shot_18 : decode cL_shot 18 = .ok (.iconst 0, 1) := by decide +kernel
theorem dL_shot_19 : decode cL_shot 19 = .ok (.ireturn, 1) := by decide +kernel
theorem dL_told_0 : decode cL_told 0 = .ok (.aload_n 3, 1) := by decide +kernel
theorem dL_told_1 : decode cL_told 1 = .ok (.iconst 0, 1) := by decide +kernel
theorem dL_told_2 : decode cL_told 2 = .ok (.aload_n 0, 1) := by decide +kernel
theorem dL_told_3 : decode cL_told 3 = .ok (.iload_n 1, 1) := by decide +kernel
theorem dL_told_4 : decode cL_told 4 = .ok (.iload_n 2, 1) := by decide +kernel
theorem dL_told_5 : decode cL_told 5 = .ok (.invokevirtual 34, 3) := by decide +kernel
theorem dL_told_8 : decode cL_told 8 = .ok (.i2l, 1) := by decide +kernel
theorem dL_told_9 : decode cL_told 9 = .ok (.lastore, 1) := by decide +kernel
theorem dL_told_10 : decode cL_told 10 = .ok (.goto 11, 3) := by decide +kernel
theorem dL_told_13 : decode cL_told 13 = .ok (.astore 4, 2) := by decide +kernel
theorem dL_told_15 : decode cL_told 15 = .ok (.iconst 1, 1) := by decide +kernel
theorem dL_told_16 : decode cL_told 16 = .ok (.ireturn, 1) := by decide +kernel
theorem dL_told_17 : decode cL_told 17 = .ok (.astore 4, 2) := by decide +kernel
theorem dL_told_19 : decode cL_told 19 = .ok (.iconst 2, 1) := by decide +kernel
theorem dL_told_20 : decode cL_told 20 = .ok (.ireturn, 1) := by decide +kernel
theorem dL_told_21 : decode cL_told 21 = .ok (.iconst 0, 1) := by decide +kernel
theorem dL_told_22 : decode cL_told 22 = .ok (.ireturn, 1) := by decide +kernel
theorem dL_step_0 : decode cL_step 0 = .ok (.aload 5, 2) := by decide +kernel
theorem dL_step_2 : decode cL_step 2 = .ok (.iconst 0, 1) := by decide +kernel
theorem dL_step_3 : decode cL_step 3 = .ok (.aload_n 0, 1) := by decide +kernel
theorem dL_step_4 : decode cL_step 4 = .ok (.iload_n 1, 1) := by decide +kernel
theorem dL_step_5 : decode cL_step 5 = .ok (.iload_n 2, 1) := by decide +kernel
theorem dL_step_6 : decode cL_step 6 = .ok (.iload_n 3, 1) := by decide +kernel
theorem dL_step_7 : decode cL_step 7 = .ok (.iload 4, 2) := by decide +kernel
theorem dL_step_9 : decode cL_step 9 = .ok (.invokevirtual 39, 3) := by decide +kernel
theorem dL_step_12 : decode cL_step 12 = .ok (.i2l, 1) := by decide +kernel
theorem dL_step_13 : decode cL_step 13 = .ok (.lastore, 1) := by decide +kernel
theorem dL_step_14 : decode cL_step 14 = .ok (.goto 7, 3) := by decide +kernel
theorem dL_step_17 : decode cL_step 17 = .ok (.astore 6, 2) := by decide +kernel
theorem dL_step_19 : decode cL_step 19 = .ok (.iconst 1, 1) := by decide +kernel
theorem dL_step_20 : decode cL_step 20 = .ok (.ireturn, 1) := by decide +kernel
theorem dL_step_21 : decode cL_step 21 = .ok (.iconst 0, 1) := by decide +kernel
theorem dL_step_22 : decode cL_step 22 = .ok (.ireturn, 1) := by decide +kernel
theorem dL_mouth_0 : decode cL_mouth 0 = .ok (.aload 4, 2) := by decide +kernel
theorem dL_mouth_2 : decode cL_mouth 2 = .ok (.iconst 0, 1) := by decide +kernel
theorem dL_mouth_3 : decode cL_mouth 3 = .ok (.aload_n 0, 1) := by decide +kernel
theorem dL_mouth_4 : decode cL_mouth 4 = .ok (.iload_n 1, 1) := by decide +kernel
theorem dL_mouth_5 : decode cL_mouth 5 = .ok (.iload_n 2, 1) := by decide +kernel
theorem dL_mouth_6 : decode cL_mouth 6 = .ok (.iload_n 3, 1) := by decide +kernel
theorem dL_mouth_7 : decode cL_mouth 7 = .ok (.invokevirtual 43, 3) := by decide +kernel
theorem dL_mouth_10 : decode cL_mouth 10 = .ok (.i2l, 1) := by decide +kernel
theorem dL_mouth_11 : decode cL_mouth 11 = .ok (.lastore, 1) := by decide +kernel
theorem dL_mouth_12 : decode cL_mouth 12 = .ok (.goto 7, 3) := by decide +kernel
theorem dL_mouth_15 : decode cL_mouth 15 = .ok (.astore 5, 2) := by decide +kernel
theorem dL_mouth_17 : decode cL_mouth 17 = .ok (.iconst 1, 1) := by decide +kernel
theorem dL_mouth_18 : decode cL_mouth 18 = .ok (.ireturn, 1) := by decide +kernel
theorem dL_mouth_19 : decode cL_mouth 19 = .ok (.iconst 0, 1) := by decide +kernel
theorem dL_mouth_20 : decode cL_mouth 20 = .ok (.ireturn, 1) := by decide +kernel
theorem dL_camera_0 : decode cL_camera 0 = .ok (.aload 4, 2) := by decide +kernel
theorem dL_camera_2 : decode cL_camera 2 = .ok (.iconst 0, 1) := by decide +kernel
theorem dL_camera_3 : decode cL_camera 3 = .ok (.aload_n 0, 1) := by decide +kernel
theorem dL_camera_4 : decode cL_camera 4 = .ok (.iload_n 1, 1) := by decide +kernel
theorem dL_camera_5 : decode cL_camera 5 = .ok (.iload_n 2, 1) := by decide +kernel
theorem dL_camera_6 : decode cL_camera 6 = .ok (.iload_n 3, 1) := by decide +kernel
theorem dL_camera_7 : decode cL_camera 7 = .ok (.invokevirtual 47, 3) := by decide +kernel
theorem dL_camera_10 : decode cL_camera 10 = .ok (.i2l, 1) := by decide +kernel
theorem dL_camera_11 : decode cL_camera 11 = .ok (.lastore, 1) := by decide +kernel
theorem dL_camera_12 : decode cL_camera 12 = .ok (.goto 7, 3) := by decide +kernel
theorem dL_camera_15 : decode cL_camera 15 = .ok (.astore 5, 2) := by decide +kernel
theorem dL_camera_17 : decode cL_camera 17 = .ok (.iconst 1, 1) := by decide +kernel
theorem dL_camera_18 : decode cL_camera 18 = .ok (.ireturn, 1) := by decide +kernel
theorem dL_camera_19 : decode cL_camera 19 = .ok (.iconst 0, 1) := by decide +kernel
theorem dL_camera_20 : decode cL_camera 20 = .ok (.ireturn, 1) := by decide +kernel
theorem dL_state_0 : decode cL_state 0 = .ok (.aload 4, 2) := by decide +kernel
theorem dL_state_2 : decode cL_state 2 = .ok (.iconst 0, 1) := by decide +kernel
theorem dL_state_3 : decode cL_state 3 = .ok (.aload_n 0, 1) := by decide +kernel
theorem dL_state_4 : decode cL_state 4 = .ok (.iload_n 1, 1) := by decide +kernel
theorem dL_state_5 : decode cL_state 5 = .ok (.iload_n 2, 1) := by decide +kernel
theorem dL_state_6 : decode cL_state 6 = .ok (.iload_n 3, 1) := by decide +kernel
theorem dL_state_7 : decode cL_state 7 = .ok (.invokevirtual 50, 3) := by decide +kernel
theorem dL_state_10 : decode cL_state 10 = .ok (.i2l, 1) := by decide +kernel
theorem dL_state_11 : decode cL_state 11 = .ok (.lastore, 1) := by decide +kernel
theorem dL_state_12 : decode cL_state 12 = .ok (.goto 7, 3) := by decide +kernel
theorem dL_state_15 : decode cL_state 15 = .ok (.astore 5, 2) := by decide +kernel
theorem dL_state_17 : decode cL_state 17 = .ok (.iconst 1, 1) := by decide +kernel
theorem dL_state_18 : decode cL_state 18 = .ok (.ireturn, 1) := by decide +kernel
theorem dL_state_19 : decode cL_state 19 = .ok (.iconst 0, 1) := by decide +kernel
theorem dL_state_20 : decode cL_state 20 = .ok (.ireturn, 1) := by decide +kernel
theorem dL_lean_0 : decode cL_lean 0 = .ok (.aload 4, 2) := by decide +kernel
theorem dL_lean_2 : decode cL_lean 2 = .ok (.iconst 0, 1) := by decide +kernel
theorem dL_lean_3 : decode cL_lean 3 = .ok (.aload_n 0, 1) := by decide +kernel
theorem dL_lean_4 : decode cL_lean 4 = .ok (.iload_n 1, 1) := by decide +kernel
theorem dL_lean_5 : decode cL_lean 5 = .ok (.iload_n 2, 1) := by decide +kernel
theorem dL_lean_6 : decode cL_lean 6 = .ok (.iload_n 3, 1) := by decide +kernel
theorem dL_lean_7 : decode cL_lean 7 = .ok (.invokevirtual 53, 3) := by decide +kernel
theorem dL_lean_10 : decode cL_lean 10 = .ok (.i2l, 1) := by decide +kernel
theorem dL_lean_11 : decode cL_lean 11 = .ok (.lastore, 1) := by decide +kernel
theorem dL_lean_12 : decode cL_lean 12 = .ok (.goto 7, 3) := by decide +kernel
theorem dL_lean_15 : decode cL_lean 15 = .ok (.astore 5, 2) := by decide +kernel
theorem dL_lean_17 : decode cL_lean 17 = .ok (.iconst 1, 1) := by decide +kernel
theorem dL_lean_18 : decode cL_lean 18 = .ok (.ireturn, 1) := by decide +kernel
theorem dL_lean_19 : decode cL_lean 19 = .ok (.iconst 0, 1) := by decide +kernel
theorem dL_lean_20 : decode cL_lean 20 = .ok (.ireturn, 1) := by decide +kernel
theorem dL_breach_0 : decode cL_breach 0 = .ok (.aload_n 3, 1) := by decide +kernel
theorem dL_breach_1 : decode cL_breach 1 = .ok (.iconst 0, 1) := by decide +kernel
theorem dL_breach_2 : decode cL_breach 2 = .ok (.aload_n 0, 1) := by decide +kernel
theorem dL_breach_3 : decode cL_breach 3 = .ok (.iload_n 1, 1) := by decide +kernel
theorem dL_breach_4 : decode cL_breach 4 = .ok (.iload_n 2, 1) := by decide +kernel
theorem dL_breach_5 : decode cL_breach 5 = .ok (.invokevirtual 56, 3) := by decide +kernel
theorem dL_breach_8 : decode cL_breach 8 = .ok (.i2l, 1) := by decide +kernel
theorem dL_breach_9 : decode cL_breach 9 = .ok (.lastore, 1) := by decide +kernel
theorem dL_breach_10 : decode cL_breach 10 = .ok (.goto 11, 3) := by decide +kernel
theorem dL_breach_13 : decode cL_breach 13 = .ok (.astore 4, 2) := by decide +kernel
theorem dL_breach_15 : decode cL_breach 15 = .ok (.iconst 1, 1) := by decide +kernel
theorem dL_breach_16 : decode cL_breach 16 = .ok (.ireturn, 1) := by decide +kernel
theorem dL_breach_17 : decode cL_breach 17 = .ok (.astore 4, 2) := by decide +kernel
theorem dL_breach_19 : decode cL_breach 19 = .ok (.iconst 2, 1) := by decide +kernel
theorem dL_breach_20 : decode cL_breach 20 = .ok (.ireturn, 1) := by decide +kernel
theorem dL_breach_21 : decode cL_breach 21 = .ok (.iconst 0, 1) := by decide +kernel
theorem dL_breach_22 : decode cL_breach 22 = .ok (.ireturn, 1) := by decide +kernel
theorem dL_fall_0 : decode cL_fall 0 = .ok (.aload_n 3, 1) := by decide +kernel
theorem dL_fall_1 : decode cL_fall 1 = .ok (.iconst 0, 1) := by decide +kernel
theorem dL_fall_2 : decode cL_fall 2 = .ok (.aload_n 0, 1) := by decide +kernel
theorem dL_fall_3 : decode cL_fall 3 = .ok (.iload_n 1, 1) := by decide +kernel
theorem dL_fall_4 : decode cL_fall 4 = .ok (.iload_n 2, 1) := by decide +kernel
theorem dL_fall_5 : decode cL_fall 5 = .ok (.invokevirtual 59, 3) := by decide +kernel
theorem dL_fall_8 : decode cL_fall 8 = .ok (.i2l, 1) := by decide +kernel
theorem dL_fall_9 : decode cL_fall 9 = .ok (.lastore, 1) := by decide +kernel
theorem dL_fall_10 : decode cL_fall 10 = .ok (.goto 11, 3) := by decide +kernel
theorem dL_fall_13 : decode cL_fall 13 = .ok (.astore 4, 2) := by decide +kernel
theorem dL_fall_15 : decode cL_fall 15 = .ok (.iconst 1, 1) := by decide +kernel
theorem dL_fall_16 : decode cL_fall 16 = .ok (.ireturn, 1) := by decide +kernel
theorem dL_fall_17 : decode cL_fall 17 = .ok (.astore 4, 2) := by decide +kernel
theorem dL_fall_19 : decode cL_fall 19 = .ok (.iconst 2, 1) := by decide +kernel
theorem dL_fall_20 : decode cL_fall 20 = .ok (.ireturn, 1) := by decide +kernel
theorem dL_fall_21 : decode cL_fall 21 = .ok (.iconst 0, 1) := by decide +kernel
theorem dL_fall_22 : decode cL_fall 22 = .ok (.ireturn, 1) := by decide +kernel
theorem dL_alike_0 : decode cL_alike 0 = .ok (.aload 4, 2) := by decide +kernel
theorem dL_alike_2 : decode cL_alike 2 = .ok (.iconst 0, 1) := by decide +kernel
theorem dL_alike_3 : decode cL_alike 3 = .ok (.aload_n 0, 1) := by decide +kernel
theorem dL_alike_4 : decode cL_alike 4 = .ok (.iload_n 1, 1) := by decide +kernel
theorem dL_alike_5 : decode cL_alike 5 = .ok (.iload_n 2, 1) := by decide +kernel
theorem dL_alike_6 : decode cL_alike 6 = .ok (.iload_n 3, 1) := by decide +kernel
theorem dL_alike_7 : decode cL_alike 7 = .ok (.invokevirtual 62, 3) := by decide +kernel
theorem dL_alike_10 : decode cL_alike 10 = .ok (.ifCond .eq 7, 3) := by decide +kernel
theorem dL_alike_13 : decode cL_alike 13 = .ok (.lconst 1, 1) := by decide +kernel
theorem dL_alike_14 : decode cL_alike 14 = .ok (.goto 4, 3) := by decide +kernel
theorem dL_alike_17 : decode cL_alike 17 = .ok (.lconst 0, 1) := by decide +kernel
theorem dL_alike_18 : decode cL_alike 18 = .ok (.lastore, 1) := by decide +kernel
theorem dL_alike_19 : decode cL_alike 19 = .ok (.goto 11, 3) := by decide +kernel
theorem dL_alike_22 : decode cL_alike 22 = .ok (.astore 5, 2) := by decide +kernel
theorem dL_alike_24 : decode cL_alike 24 = .ok (.iconst 1, 1) := by decide +kernel
theorem dL_alike_25 : decode cL_alike 25 = .ok (.ireturn, 1) := by decide +kernel
theorem dL_alike_26 : decode cL_alike 26 = .ok (.astore 5, 2) := by decide +kernel
theorem dL_alike_28 : decode cL_alike 28 = .ok (.iconst 2, 1) := by decide +kernel
theorem dL_alike_29 : decode cL_alike 29 = .ok (.ireturn, 1) := by decide +kernel
theorem dL_alike_30 : decode cL_alike 30 = .ok (.iconst 0, 1) := by decide +kernel
theorem dL_alike_31 : decode cL_alike 31 = .ok (.ireturn, 1) := by decide +kernel
theorem dL_swap_0 : decode cL_swap 0 = .ok (.aload 4, 2) := by decide +kernel
theorem dL_swap_2 : decode cL_swap 2 = .ok (.iconst 0, 1) := by decide +kernel
theorem dL_swap_3 : decode cL_swap 3 = .ok (.aload_n 0, 1) := by decide +kernel
theorem dL_swap_4 : decode cL_swap 4 = .ok (.iload_n 1, 1) := by decide +kernel
theorem dL_swap_5 : decode cL_swap 5 = .ok (.iload_n 2, 1) := by decide +kernel
theorem dL_swap_6 : decode cL_swap 6 = .ok (.iload_n 3, 1) := by decide +kernel
theorem dL_swap_7 : decode cL_swap 7 = .ok (.invokevirtual 66, 3) := by decide +kernel
theorem dL_swap_10 : decode cL_swap 10 = .ok (.i2l, 1) := by decide +kernel
theorem dL_swap_11 : decode cL_swap 11 = .ok (.lastore, 1) := by decide +kernel
theorem dL_swap_12 : decode cL_swap 12 = .ok (.goto 11, 3) := by decide +kernel
theorem dL_swap_15 : decode cL_swap 15 = .ok (.astore 5, 2) := by decide +kernel
theorem dL_swap_17 : decode cL_swap 17 = .ok (.iconst 1, 1) := by decide +kernel
theorem dL_swap_18 : decode cL_swap 18 = .ok (.ireturn, 1) := by decide +kernel
theorem dL_swap_19 : decode cL_swap 19 = .ok (.astore 5, 2) := by decide +kernel
theorem dL_swap_21 : decode cL_swap 21 = .ok (.iconst 2, 1) := by decide +kernel
theorem dL_swap_22 : decode cL_swap 22 = .ok (.ireturn, 1) := by decide +kernel
theorem dL_swap_23 : decode cL_swap 23 = .ok (.iconst 0, 1) := by decide +kernel
theorem dL_swap_24 : decode cL_swap 24 = .ok (.ireturn, 1) := by decide +kernel
theorem dL_set_0 : decode cL_set 0 = .ok (.aload 4, 2) := by decide +kernel
theorem dL_set_2 : decode cL_set 2 = .ok (.iconst 0, 1) := by decide +kernel
theorem dL_set_3 : decode cL_set 3 = .ok (.aload_n 0, 1) := by decide +kernel
theorem dL_set_4 : decode cL_set 4 = .ok (.iload_n 1, 1) := by decide +kernel
theorem dL_set_5 : decode cL_set 5 = .ok (.iload_n 2, 1) := by decide +kernel
theorem dL_set_6 : decode cL_set 6 = .ok (.iload_n 3, 1) := by decide +kernel
theorem dL_set_7 : decode cL_set 7 = .ok (.invokevirtual 69, 3) := by decide +kernel
theorem dL_set_10 : decode cL_set 10 = .ok (.i2l, 1) := by decide +kernel
theorem dL_set_11 : decode cL_set 11 = .ok (.lastore, 1) := by decide +kernel
theorem dL_set_12 : decode cL_set 12 = .ok (.goto 7, 3) := by decide +kernel
theorem dL_set_15 : decode cL_set 15 = .ok (.astore 5, 2) := by decide +kernel
theorem dL_set_17 : decode cL_set 17 = .ok (.iconst 1, 1) := by decide +kernel
theorem dL_set_18 : decode cL_set 18 = .ok (.ireturn, 1) := by decide +kernel
theorem dL_set_19 : decode cL_set 19 = .ok (.iconst 0, 1) := by decide +kernel
theorem dL_set_20 : decode cL_set 20 = .ok (.ireturn, 1) := by decide +kernel
theorem dL_lasts_0 : decode cL_lasts 0 = .ok (.aload_n 3, 1) := by decide +kernel
theorem dL_lasts_1 : decode cL_lasts 1 = .ok (.iconst 0, 1) := by decide +kernel
theorem dL_lasts_2 : decode cL_lasts 2 = .ok (.aload_n 0, 1) := by decide +kernel
theorem dL_lasts_3 : decode cL_lasts 3 = .ok (.iload_n 1, 1) := by decide +kernel
theorem dL_lasts_4 : decode cL_lasts 4 = .ok (.iload_n 2, 1) := by decide +kernel
theorem dL_lasts_5 : decode cL_lasts 5 = .ok (.invokevirtual 72, 3) := by decide +kernel
theorem dL_lasts_8 : decode cL_lasts 8 = .ok (.i2l, 1) := by decide +kernel
theorem dL_lasts_9 : decode cL_lasts 9 = .ok (.lastore, 1) := by decide +kernel
theorem dL_lasts_10 : decode cL_lasts 10 = .ok (.goto 11, 3) := by decide +kernel
theorem dL_lasts_13 : decode cL_lasts 13 = .ok (.astore 4, 2) := by decide +kernel
theorem dL_lasts_15 : decode cL_lasts 15 = .ok (.iconst 1, 1) := by decide +kernel
theorem dL_lasts_16 : decode cL_lasts 16 = .ok (.ireturn, 1) := by decide +kernel
theorem dL_lasts_17 : decode cL_lasts 17 = .ok (.astore 4, 2) := by decide +kernel
theorem dL_lasts_19 : decode cL_lasts 19 = .ok (.iconst 2, 1) := by decide +kernel
theorem dL_lasts_20 : decode cL_lasts 20 = .ok (.ireturn, 1) := by decide +kernel
theorem dL_lasts_21 : decode cL_lasts 21 = .ok (.iconst 0, 1) := by decide +kernel
theorem dL_lasts_22 : decode cL_lasts 22 = .ok (.ireturn, 1) := by decide +kernel
theorem dL_clash_0 : decode cL_clash 0 = .ok (.aload_n 3, 1) := by decide +kernel
theorem dL_clash_1 : decode cL_clash 1 = .ok (.iconst 0, 1) := by decide +kernel
theorem dL_clash_2 : decode cL_clash 2 = .ok (.aload_n 0, 1) := by decide +kernel
theorem dL_clash_3 : decode cL_clash 3 = .ok (.iload_n 1, 1) := by decide +kernel
theorem dL_clash_4 : decode cL_clash 4 = .ok (.iload_n 2, 1) := by decide +kernel
theorem dL_clash_5 : decode cL_clash 5 = .ok (.invokevirtual 75, 3) := by decide +kernel
theorem dL_clash_8 : decode cL_clash 8 = .ok (.ifCond .eq 7, 3) := by decide +kernel
theorem dL_clash_11 : decode cL_clash 11 = .ok (.lconst 1, 1) := by decide +kernel
theorem dL_clash_12 : decode cL_clash 12 = .ok (.goto 4, 3) := by decide +kernel
theorem dL_clash_15 : decode cL_clash 15 = .ok (.lconst 0, 1) := by decide +kernel
theorem dL_clash_16 : decode cL_clash 16 = .ok (.lastore, 1) := by decide +kernel
theorem dL_clash_17 : decode cL_clash 17 = .ok (.goto 7, 3) := by decide +kernel
theorem dL_clash_20 : decode cL_clash 20 = .ok (.astore 4, 2) := by decide +kernel
theorem dL_clash_22 : decode cL_clash 22 = .ok (.iconst 1, 1) := by decide +kernel
theorem dL_clash_23 : decode cL_clash 23 = .ok (.ireturn, 1) := by decide +kernel
theorem dL_clash_24 : decode cL_clash 24 = .ok (.iconst 0, 1) := by decide +kernel
theorem dL_clash_25 : decode cL_clash 25 = .ok (.ireturn, 1) := by decide +kernel
theorem dL_best_0 : decode cL_best 0 = .ok (.aload 4, 2) := by decide +kernel
theorem dL_best_2 : decode cL_best 2 = .ok (.iconst 0, 1) := by decide +kernel
theorem dL_best_3 : decode cL_best 3 = .ok (.aload_n 0, 1) := by decide +kernel
theorem dL_best_4 : decode cL_best 4 = .ok (.iload_n 1, 1) := by decide +kernel
theorem dL_best_5 : decode cL_best 5 = .ok (.iload_n 2, 1) := by decide +kernel
theorem dL_best_6 : decode cL_best 6 = .ok (.iload_n 3, 1) := by decide +kernel
theorem dL_best_7 : decode cL_best 7 = .ok (.invokevirtual 79, 3) := by decide +kernel
theorem dL_best_10 : decode cL_best 10 = .ok (.i2l, 1) := by decide +kernel
theorem dL_best_11 : decode cL_best 11 = .ok (.lastore, 1) := by decide +kernel
theorem dL_best_12 : decode cL_best 12 = .ok (.goto 7, 3) := by decide +kernel
theorem dL_best_15 : decode cL_best 15 = .ok (.astore 5, 2) := by decide +kernel
theorem dL_best_17 : decode cL_best 17 = .ok (.iconst 1, 1) := by decide +kernel
theorem dL_best_18 : decode cL_best 18 = .ok (.ireturn, 1) := by decide +kernel
theorem dL_best_19 : decode cL_best 19 = .ok (.iconst 0, 1) := by decide +kernel
theorem dL_best_20 : decode cL_best 20 = .ok (.ireturn, 1) := by decide +kernel
theorem dL_row_0 : decode cL_row 0 = .ok (.aload 4, 2) := by decide +kernel
theorem dL_row_2 : decode cL_row 2 = .ok (.iconst 0, 1) := by decide +kernel
theorem dL_row_3 : decode cL_row 3 = .ok (.aload_n 0, 1) := by decide +kernel
theorem dL_row_4 : decode cL_row 4 = .ok (.iload_n 1, 1) := by decide +kernel
theorem dL_row_5 : decode cL_row 5 = .ok (.iload_n 2, 1) := by decide +kernel
theorem dL_row_6 : decode cL_row 6 = .ok (.iload_n 3, 1) := by decide +kernel
theorem dL_row_7 : decode cL_row 7 = .ok (.invokevirtual 82, 3) := by decide +kernel
theorem dL_row_10 : decode cL_row 10 = .ok (.i2l, 1) := by decide +kernel
theorem dL_row_11 : decode cL_row 11 = .ok (.lastore, 1) := by decide +kernel
theorem dL_row_12 : decode cL_row 12 = .ok (.goto 11, 3) := by decide +kernel
theorem dL_row_15 : decode cL_row 15 = .ok (.astore 5, 2) := by decide +kernel
theorem dL_row_17 : decode cL_row 17 = .ok (.iconst 1, 1) := by decide +kernel
theorem dL_row_18 : decode cL_row 18 = .ok (.ireturn, 1) := by decide +kernel
theorem dL_row_19 : decode cL_row 19 = .ok (.astore 5, 2) := by decide +kernel
theorem dL_row_21 : decode cL_row 21 = .ok (.iconst 2, 1) := by decide +kernel
theorem dL_row_22 : decode cL_row 22 = .ok (.ireturn, 1) := by decide +kernel
theorem dL_row_23 : decode cL_row 23 = .ok (.iconst 0, 1) := by decide +kernel
theorem dL_row_24 : decode cL_row 24 = .ok (.ireturn, 1) := by decide +kernel
theorem dL_bump_0 : decode cL_bump 0 = .ok (.aload 5, 2) := by decide +kernel
theorem dL_bump_2 : decode cL_bump 2 = .ok (.iconst 0, 1) := by decide +kernel
theorem dL_bump_3 : decode cL_bump 3 = .ok (.aload_n 0, 1) := by decide +kernel
theorem dL_bump_4 : decode cL_bump 4 = .ok (.iload_n 1, 1) := by decide +kernel
theorem dL_bump_5 : decode cL_bump 5 = .ok (.iload_n 2, 1) := by decide +kernel
theorem dL_bump_6 : decode cL_bump 6 = .ok (.iload_n 3, 1) := by decide +kernel
theorem dL_bump_7 : decode cL_bump 7 = .ok (.iload 4, 2) := by decide +kernel
theorem dL_bump_9 : decode cL_bump 9 = .ok (.invokevirtual 85, 3) := by decide +kernel
theorem dL_bump_12 : decode cL_bump 12 = .ok (.i2l, 1) := by decide +kernel
theorem dL_bump_13 : decode cL_bump 13 = .ok (.lastore, 1) := by decide +kernel
theorem dL_bump_14 : decode cL_bump 14 = .ok (.goto 15, 3) := by decide +kernel
theorem dL_bump_17 : decode cL_bump 17 = .ok (.astore 6, 2) := by decide +kernel
theorem dL_bump_19 : decode cL_bump 19 = .ok (.iconst 1, 1) := by decide +kernel
theorem dL_bump_20 : decode cL_bump 20 = .ok (.ireturn, 1) := by decide +kernel
theorem dL_bump_21 : decode cL_bump 21 = .ok (.astore 6, 2) := by decide +kernel
theorem dL_bump_23 : decode cL_bump 23 = .ok (.iconst 2, 1) := by decide +kernel
theorem dL_bump_24 : decode cL_bump 24 = .ok (.ireturn, 1) := by decide +kernel
theorem dL_bump_25 : decode cL_bump 25 = .ok (.astore 6, 2) := by decide +kernel
theorem dL_bump_27 : decode cL_bump 27 = .ok (.iconst 3, 1) := by decide +kernel
theorem dL_bump_28 : decode cL_bump 28 = .ok (.ireturn, 1) := by decide +kernel
theorem dL_bump_29 : decode cL_bump 29 = .ok (.iconst 0, 1) := by decide +kernel
theorem dL_bump_30 : decode cL_bump 30 = .ok (.ireturn, 1) := by decide +kernel
theorem dL_wait_0 : decode cL_wait 0 = .ok (.aload_n 2, 1) := by decide +kernel
theorem dL_wait_1 : decode cL_wait 1 = .ok (.iconst 0, 1) := by decide +kernel
theorem dL_wait_2 : decode cL_wait 2 = .ok (.aload_n 0, 1) := by decide +kernel
theorem dL_wait_3 : decode cL_wait 3 = .ok (.iload_n 1, 1) := by decide +kernel
theorem dL_wait_4 : decode cL_wait 4 = .ok (.invokevirtual 88, 3) := by decide +kernel
theorem dL_wait_7 : decode cL_wait 7 = .ok (.i2l, 1) := by decide +kernel
theorem dL_wait_8 : decode cL_wait 8 = .ok (.lastore, 1) := by decide +kernel
theorem dL_wait_9 : decode cL_wait 9 = .ok (.goto 6, 3) := by decide +kernel
theorem dL_wait_12 : decode cL_wait 12 = .ok (.astore_n 3, 1) := by decide +kernel
theorem dL_wait_13 : decode cL_wait 13 = .ok (.iconst 1, 1) := by decide +kernel
theorem dL_wait_14 : decode cL_wait 14 = .ok (.ireturn, 1) := by decide +kernel
theorem dL_wait_15 : decode cL_wait 15 = .ok (.iconst 0, 1) := by decide +kernel
theorem dL_wait_16 : decode cL_wait 16 = .ok (.ireturn, 1) := by decide +kernel
theorem dL_shoot_0 : decode cL_shoot 0 = .ok (.aload_n 3, 1) := by decide +kernel
theorem dL_shoot_1 : decode cL_shoot 1 = .ok (.iconst 0, 1) := by decide +kernel
theorem dL_shoot_2 : decode cL_shoot 2 = .ok (.aload_n 0, 1) := by decide +kernel
theorem dL_shoot_3 : decode cL_shoot 3 = .ok (.iload_n 1, 1) := by decide +kernel
theorem dL_shoot_4 : decode cL_shoot 4 = .ok (.iload_n 2, 1) := by decide +kernel
theorem dL_shoot_5 : decode cL_shoot 5 = .ok (.invokevirtual 91, 3) := by decide +kernel
theorem dL_shoot_8 : decode cL_shoot 8 = .ok (.i2l, 1) := by decide +kernel
theorem dL_shoot_9 : decode cL_shoot 9 = .ok (.lastore, 1) := by decide +kernel
theorem dL_shoot_10 : decode cL_shoot 10 = .ok (.goto 11, 3) := by decide +kernel
theorem dL_shoot_13 : decode cL_shoot 13 = .ok (.astore 4, 2) := by decide +kernel
theorem dL_shoot_15 : decode cL_shoot 15 = .ok (.iconst 1, 1) := by decide +kernel
theorem dL_shoot_16 : decode cL_shoot 16 = .ok (.ireturn, 1) := by decide +kernel
theorem dL_shoot_17 : decode cL_shoot 17 = .ok (.astore 4, 2) := by decide +kernel
theorem dL_shoot_19 : decode cL_shoot 19 = .ok (.iconst 2, 1) := by decide +kernel
theorem dL_shoot_20 : decode cL_shoot 20 = .ok (.ireturn, 1) := by decide +kernel
theorem dL_shoot_21 : decode cL_shoot 21 = .ok (.iconst 0, 1) := by decide +kernel
theorem dL_shoot_22 : decode cL_shoot 22 = .ok (.ireturn, 1) := by decide +kernel
theorem dL_when_0 : decode cL_when 0 = .ok (.aload_n 3, 1) := by decide +kernel
theorem dL_when_1 : decode cL_when 1 = .ok (.iconst 0, 1) := by decide +kernel
theorem dL_when_2 : decode cL_when 2 = .ok (.aload_n 0, 1) := by decide +kernel
theorem dL_when_3 : decode cL_when 3 = .ok (.iload_n 1, 1) := by decide +kernel
theorem dL_when_4 : decode cL_when 4 = .ok (.iload_n 2, 1) := by decide +kernel
theorem dL_when_5 : decode cL_when 5 = .ok (.invokevirtual 94, 3) := by decide +kernel
theorem dL_when_8 : decode cL_when 8 = .ok (.i2l, 1) := by decide +kernel
theorem dL_when_9 : decode cL_when 9 = .ok (.lastore, 1) := by decide +kernel
theorem dL_when_10 : decode cL_when 10 = .ok (.goto 11, 3) := by decide +kernel
theorem dL_when_13 : decode cL_when 13 = .ok (.astore 4, 2) := by decide +kernel
theorem dL_when_15 : decode cL_when 15 = .ok (.iconst 1, 1) := by decide +kernel
theorem dL_when_16 : decode cL_when 16 = .ok (.ireturn, 1) := by decide +kernel
theorem dL_when_17 : decode cL_when 17 = .ok (.astore 4, 2) := by decide +kernel
theorem dL_when_19 : decode cL_when 19 = .ok (.iconst 2, 1) := by decide +kernel
theorem dL_when_20 : decode cL_when 20 = .ok (.ireturn, 1) := by decide +kernel
theorem dL_when_21 : decode cL_when 21 = .ok (.iconst 0, 1) := by decide +kernel
theorem dL_when_22 : decode cL_when 22 = .ok (.ireturn, 1) := by decide +kernel
theorem dL_measure_0 : decode cL_measure 0 = .ok (.aload 4, 2) := by decide +kernel
theorem dL_measure_2 : decode cL_measure 2 = .ok (.iconst 0, 1) := by decide +kernel
theorem dL_measure_3 : decode cL_measure 3 = .ok (.aload_n 0, 1) := by decide +kernel
theorem dL_measure_4 : decode cL_measure 4 = .ok (.iload_n 1, 1) := by decide +kernel
theorem dL_measure_5 : decode cL_measure 5 = .ok (.iload_n 2, 1) := by decide +kernel
theorem dL_measure_6 : decode cL_measure 6 = .ok (.iload_n 3, 1) := by decide +kernel
theorem dL_measure_7 : decode cL_measure 7 = .ok (.invokevirtual 97, 3) := by decide +kernel
theorem dL_measure_10 : decode cL_measure 10 = .ok (.i2l, 1) := by decide +kernel
theorem dL_measure_11 : decode cL_measure 11 = .ok (.lastore, 1) := by decide +kernel
theorem dL_measure_12 : decode cL_measure 12 = .ok (.goto 15, 3) := by decide +kernel
theorem dL_measure_15 : decode cL_measure 15 = .ok (.astore 5, 2) := by decide +kernel
theorem dL_measure_17 : decode cL_measure 17 = .ok (.iconst 1, 1) := by decide +kernel
theorem dL_measure_18 : decode cL_measure 18 = .ok (.ireturn, 1) := by decide +kernel
theorem dL_measure_19 : decode cL_measure 19 = .ok (.astore 5, 2) := by decide +kernel
theorem dL_measure_21 : decode cL_measure 21 = .ok (.iconst 2, 1) := by decide +kernel
theorem dL_measure_22 : decode cL_measure 22 = .ok (.ireturn, 1) := by decide +kernel
theorem dL_measure_23 : decode cL_measure 23 = .ok (.astore 5, 2) := by decide +kernel
theorem dL_measure_25 : decode cL_measure 25 = .ok (.iconst 3, 1) := by decide +kernel
theorem dL_measure_26 : decode cL_measure 26 = .ok (.ireturn, 1) := by decide +kernel
theorem dL_measure_27 : decode cL_measure 27 = .ok (.iconst 0, 1) := by decide +kernel
theorem dL_measure_28 : decode cL_measure 28 = .ok (.ireturn, 1) := by decide +kernel
theorem dL_mended_0 : decode cL_mended 0 = .ok (.aload 4, 2) := by decide +kernel
theorem dL_mended_2 : decode cL_mended 2 = .ok (.iconst 0, 1) := by decide +kernel
theorem dL_mended_3 : decode cL_mended 3 = .ok (.aload_n 0, 1) := by decide +kernel
theorem dL_mended_4 : decode cL_mended 4 = .ok (.iload_n 1, 1) := by decide +kernel
theorem dL_mended_5 : decode cL_mended 5 = .ok (.iload_n 2, 1) := by decide +kernel
theorem dL_mended_6 : decode cL_mended 6 = .ok (.iload_n 3, 1) := by decide +kernel
theorem dL_mended_7 : decode cL_mended 7 = .ok (.invokevirtual 100, 3) := by decide +kernel
theorem dL_mended_10 : decode cL_mended 10 = .ok (.i2l, 1) := by decide +kernel
theorem dL_mended_11 : decode cL_mended 11 = .ok (.lastore, 1) := by decide +kernel
theorem dL_mended_12 : decode cL_mended 12 = .ok (.goto 11, 3) := by decide +kernel
theorem dL_mended_15 : decode cL_mended 15 = .ok (.astore 5, 2) := by decide +kernel
theorem dL_mended_17 : decode cL_mended 17 = .ok (.iconst 1, 1) := by decide +kernel
theorem dL_mended_18 : decode cL_mended 18 = .ok (.ireturn, 1) := by decide +kernel
theorem dL_mended_19 : decode cL_mended 19 = .ok (.astore 5, 2) := by decide +kernel
theorem dL_mended_21 : decode cL_mended 21 = .ok (.iconst 2, 1) := by decide +kernel
theorem dL_mended_22 : decode cL_mended 22 = .ok (.ireturn, 1) := by decide +kernel
theorem dL_mended_23 : decode cL_mended 23 = .ok (.iconst 0, 1) := by decide +kernel
theorem dL_mended_24 : decode cL_mended 24 = .ok (.ireturn, 1) := by decide +kernel
theorem dL_leap_0 : decode cL_leap 0 = .ok (.aload_n 3, 1) := by decide +kernel
theorem dL_leap_1 : decode cL_leap 1 = .ok (.iconst 0, 1) := by decide +kernel
theorem dL_leap_2 : decode cL_leap 2 = .ok (.aload_n 0, 1) := by decide +kernel
theorem dL_leap_3 : decode cL_leap 3 = .ok (.iload_n 1, 1) := by decide +kernel
theorem dL_leap_4 : decode cL_leap 4 = .ok (.iload_n 2, 1) := by decide +kernel
theorem dL_leap_5 : decode cL_leap 5 = .ok (.invokevirtual 103, 3) := by decide +kernel
theorem dL_leap_8 : decode cL_leap 8 = .ok (.i2l, 1) := by decide +kernel
theorem dL_leap_9 : decode cL_leap 9 = .ok (.lastore, 1) := by decide +kernel
theorem dL_leap_10 : decode cL_leap 10 = .ok (.goto 7, 3) := by decide +kernel
theorem dL_leap_13 : decode cL_leap 13 = .ok (.astore 4, 2) := by decide +kernel
theorem dL_leap_15 : decode cL_leap 15 = .ok (.iconst 1, 1) := by decide +kernel
theorem dL_leap_16 : decode cL_leap 16 = .ok (.ireturn, 1) := by decide +kernel
theorem dL_leap_17 : decode cL_leap 17 = .ok (.iconst 0, 1) := by decide +kernel
theorem dL_leap_18 : decode cL_leap 18 = .ok (.ireturn, 1) := by decide +kernel
theorem dL_paint_0 : decode cL_paint 0 = .ok (.aload 5, 2) := by decide +kernel
theorem dL_paint_2 : decode cL_paint 2 = .ok (.iconst 0, 1) := by decide +kernel
theorem dL_paint_3 : decode cL_paint 3 = .ok (.aload_n 0, 1) := by decide +kernel
theorem dL_paint_4 : decode cL_paint 4 = .ok (.iload_n 1, 1) := by decide +kernel
theorem dL_paint_5 : decode cL_paint 5 = .ok (.iload_n 2, 1) := by decide +kernel
theorem dL_paint_6 : decode cL_paint 6 = .ok (.iload_n 3, 1) := by decide +kernel
theorem dL_paint_7 : decode cL_paint 7 = .ok (.iload 4, 2) := by decide +kernel
theorem dL_paint_9 : decode cL_paint 9 = .ok (.invokevirtual 106, 3) := by decide +kernel
theorem dL_paint_12 : decode cL_paint 12 = .ok (.i2l, 1) := by decide +kernel
theorem dL_paint_13 : decode cL_paint 13 = .ok (.lastore, 1) := by decide +kernel
theorem dL_paint_14 : decode cL_paint 14 = .ok (.goto 11, 3) := by decide +kernel
theorem dL_paint_17 : decode cL_paint 17 = .ok (.astore 6, 2) := by decide +kernel
theorem dL_paint_19 : decode cL_paint 19 = .ok (.iconst 1, 1) := by decide +kernel
theorem dL_paint_20 : decode cL_paint 20 = .ok (.ireturn, 1) := by decide +kernel
theorem dL_paint_21 : decode cL_paint 21 = .ok (.astore 6, 2) := by decide +kernel
theorem dL_paint_23 : decode cL_paint 23 = .ok (.iconst 2, 1) := by decide +kernel
theorem dL_paint_24 : decode cL_paint 24 = .ok (.ireturn, 1) := by decide +kernel
theorem dL_paint_25 : decode cL_paint 25 = .ok (.iconst 0, 1) := by decide +kernel
theorem dL_paint_26 : decode cL_paint 26 = .ok (.ireturn, 1) := by decide +kernel
theorem dL_dirty_0 : decode cL_dirty 0 = .ok (.aload_n 3, 1) := by decide +kernel
theorem dL_dirty_1 : decode cL_dirty 1 = .ok (.iconst 0, 1) := by decide +kernel
theorem dL_dirty_2 : decode cL_dirty 2 = .ok (.aload_n 0, 1) := by decide +kernel
theorem dL_dirty_3 : decode cL_dirty 3 = .ok (.iload_n 1, 1) := by decide +kernel
theorem dL_dirty_4 : decode cL_dirty 4 = .ok (.iload_n 2, 1) := by decide +kernel
theorem dL_dirty_5 : decode cL_dirty 5 = .ok (.invokevirtual 110, 3) := by decide +kernel
theorem dL_dirty_8 : decode cL_dirty 8 = .ok (.i2l, 1) := by decide +kernel
theorem dL_dirty_9 : decode cL_dirty 9 = .ok (.lastore, 1) := by decide +kernel
theorem dL_dirty_10 : decode cL_dirty 10 = .ok (.goto 7, 3) := by decide +kernel
theorem dL_dirty_13 : decode cL_dirty 13 = .ok (.astore 4, 2) := by decide +kernel
theorem dL_dirty_15 : decode cL_dirty 15 = .ok (.iconst 1, 1) := by decide +kernel
theorem dL_dirty_16 : decode cL_dirty 16 = .ok (.ireturn, 1) := by decide +kernel
theorem dL_dirty_17 : decode cL_dirty 17 = .ok (.iconst 0, 1) := by decide +kernel
theorem dL_dirty_18 : decode cL_dirty 18 = .ok (.ireturn, 1) := by decide +kernel
theorem dL_animator_0 : decode cL_animator 0 = .ok (.aload_n 2, 1) := by decide +kernel
theorem dL_animator_1 : decode cL_animator 1 = .ok (.iconst 0, 1) := by decide +kernel
theorem dL_animator_2 : decode cL_animator 2 = .ok (.aload_n 0, 1) := by decide +kernel
theorem dL_animator_3 : decode cL_animator 3 = .ok (.iload_n 1, 1) := by decide +kernel
theorem dL_animator_4 : decode cL_animator 4 = .ok (.invokevirtual 113, 3) := by decide +kernel
theorem dL_animator_7 : decode cL_animator 7 = .ok (.i2l, 1) := by decide +kernel
theorem dL_animator_8 : decode cL_animator 8 = .ok (.lastore, 1) := by decide +kernel
theorem dL_animator_9 : decode cL_animator 9 = .ok (.goto 6, 3) := by decide +kernel
theorem dL_animator_12 : decode cL_animator 12 = .ok (.astore_n 3, 1) := by decide +kernel
theorem dL_animator_13 : decode cL_animator 13 = .ok (.iconst 1, 1) := by decide +kernel
theorem dL_animator_14 : decode cL_animator 14 = .ok (.ireturn, 1) := by decide +kernel
theorem dL_animator_15 : decode cL_animator 15 = .ok (.iconst 0, 1) := by decide +kernel
theorem dL_animator_16 : decode cL_animator 16 = .ok (.ireturn, 1) := by decide +kernel
theorem dL_station_0 : decode cL_station 0 = .ok (.aload_n 3, 1) := by decide +kernel
theorem dL_station_1 : decode cL_station 1 = .ok (.iconst 0, 1) := by decide +kernel
theorem dL_station_2 : decode cL_station 2 = .ok (.aload_n 0, 1) := by decide +kernel
theorem dL_station_3 : decode cL_station 3 = .ok (.iload_n 1, 1) := by decide +kernel
theorem dL_station_4 : decode cL_station 4 = .ok (.iload_n 2, 1) := by decide +kernel
theorem dL_station_5 : decode cL_station 5 = .ok (.invokevirtual 116, 3) := by decide +kernel
theorem dL_station_8 : decode cL_station 8 = .ok (.i2l, 1) := by decide +kernel
theorem dL_station_9 : decode cL_station 9 = .ok (.lastore, 1) := by decide +kernel
theorem dL_station_10 : decode cL_station 10 = .ok (.goto 11, 3) := by decide +kernel
theorem dL_station_13 : decode cL_station 13 = .ok (.astore 4, 2) := by decide +kernel
theorem dL_station_15 : decode cL_station 15 = .ok (.iconst 1, 1) := by decide +kernel
theorem dL_station_16 : decode cL_station 16 = .ok (.ireturn, 1) := by decide +kernel
theorem dL_station_17 : decode cL_station 17 = .ok (.astore 4, 2) := by decide +kernel
theorem dL_station_19 : decode cL_station 19 = .ok (.iconst 2, 1) := by decide +kernel
theorem dL_station_20 : decode cL_station 20 = .ok (.ireturn, 1) := by decide +kernel
theorem dL_station_21 : decode cL_station 21 = .ok (.iconst 0, 1) := by decide +kernel
theorem dL_station_22 : decode cL_station 22 = .ok (.ireturn, 1) := by decide +kernel
theorem dL_queue_0 : decode cL_queue 0 = .ok (.aload_n 3, 1) := by decide +kernel
theorem dL_queue_1 : decode cL_queue 1 = .ok (.iconst 0, 1) := by decide +kernel
theorem dL_queue_2 : decode cL_queue 2 = .ok (.aload_n 0, 1) := by decide +kernel
theorem dL_queue_3 : decode cL_queue 3 = .ok (.iload_n 1, 1) := by decide +kernel
theorem dL_queue_4 : decode cL_queue 4 = .ok (.iload_n 2, 1) := by decide +kernel
theorem dL_queue_5 : decode cL_queue 5 = .ok (.invokevirtual 119, 3) := by decide +kernel
theorem dL_queue_8 : decode cL_queue 8 = .ok (.i2l, 1) := by decide +kernel
theorem dL_queue_9 : decode cL_queue 9 = .ok (.lastore, 1) := by decide +kernel
theorem dL_queue_10 : decode cL_queue 10 = .ok (.goto 11, 3) := by decide +kernel
theorem dL_queue_13 : decode cL_queue 13 = .ok (.astore 4, 2) := by decide +kernel
theorem dL_queue_15 : decode cL_queue 15 = .ok (.iconst 1, 1) := by decide +kernel
theorem dL_queue_16 : decode cL_queue 16 = .ok (.ireturn, 1) := by decide +kernel
theorem dL_queue_17 : decode cL_queue 17 = .ok (.astore 4, 2) := by decide +kernel
theorem dL_queue_19 : decode cL_queue 19 = .ok (.iconst 2, 1) := by decide +kernel
theorem dL_queue_20 : decode cL_queue 20 = .ok (.ireturn, 1) := by decide +kernel
theorem dL_queue_21 : decode cL_queue 21 = .ok (.iconst 0, 1) := by decide +kernel
theorem dL_queue_22 : decode cL_queue 22 = .ok (.ireturn, 1) := by decide +kernel
theorem dL_floor_0 : decode cL_floor 0 = .ok (.aload_n 2, 1) := by decide +kernel
theorem dL_floor_1 : decode cL_floor 1 = .ok (.iconst 0, 1) := by decide +kernel
theorem dL_floor_2 : decode cL_floor 2 = .ok (.aload_n 0, 1) := by decide +kernel
theorem dL_floor_3 : decode cL_floor 3 = .ok (.iload_n 1, 1) := by decide +kernel
theorem dL_floor_4 : decode cL_floor 4 = .ok (.invokevirtual 122, 3) := by decide +kernel
theorem dL_floor_7 : decode cL_floor 7 = .ok (.i2l, 1) := by decide +kernel
theorem dL_floor_8 : decode cL_floor 8 = .ok (.lastore, 1) := by decide +kernel
theorem dL_floor_9 : decode cL_floor 9 = .ok (.goto 6, 3) := by decide +kernel
theorem dL_floor_12 : decode cL_floor 12 = .ok (.astore_n 3, 1) := by decide +kernel
theorem dL_floor_13 : decode cL_floor 13 = .ok (.iconst 1, 1) := by decide +kernel
theorem dL_floor_14 : decode cL_floor 14 = .ok (.ireturn, 1) := by decide +kernel
theorem dL_floor_15 : decode cL_floor 15 = .ok (.iconst 0, 1) := by decide +kernel
theorem dL_floor_16 : decode cL_floor 16 = .ok (.ireturn, 1) := by decide +kernel
theorem dL_on_0 : decode cL_on 0 = .ok (.aload_n 3, 1) := by decide +kernel
theorem dL_on_1 : decode cL_on 1 = .ok (.iconst 0, 1) := by decide +kernel
theorem dL_on_2 : decode cL_on 2 = .ok (.aload_n 0, 1) := by decide +kernel
theorem dL_on_3 : decode cL_on 3 = .ok (.iload_n 1, 1) := by decide +kernel
theorem dL_on_4 : decode cL_on 4 = .ok (.iload_n 2, 1) := by decide +kernel
theorem dL_on_5 : decode cL_on 5 = .ok (.invokevirtual 125, 3) := by decide +kernel
theorem dL_on_8 : decode cL_on 8 = .ok (.i2l, 1) := by decide +kernel
theorem dL_on_9 : decode cL_on 9 = .ok (.lastore, 1) := by decide +kernel
theorem dL_on_10 : decode cL_on 10 = .ok (.goto 11, 3) := by decide +kernel
theorem dL_on_13 : decode cL_on 13 = .ok (.astore 4, 2) := by decide +kernel
theorem dL_on_15 : decode cL_on 15 = .ok (.iconst 1, 1) := by decide +kernel
theorem dL_on_16 : decode cL_on 16 = .ok (.ireturn, 1) := by decide +kernel
theorem dL_on_17 : decode cL_on 17 = .ok (.astore 4, 2) := by decide +kernel
theorem dL_on_19 : decode cL_on 19 = .ok (.iconst 2, 1) := by decide +kernel
theorem dL_on_20 : decode cL_on 20 = .ok (.ireturn, 1) := by decide +kernel
theorem dL_on_21 : decode cL_on 21 = .ok (.iconst 0, 1) := by decide +kernel
theorem dL_on_22 : decode cL_on 22 = .ok (.ireturn, 1) := by decide +kernel
theorem dL_stands_0 : decode cL_stands 0 = .ok (.aload_n 2, 1) := by decide +kernel
theorem dL_stands_1 : decode cL_stands 1 = .ok (.iconst 0, 1) := by decide +kernel
theorem dL_stands_2 : decode cL_stands 2 = .ok (.aload_n 0, 1) := by decide +kernel
theorem dL_stands_3 : decode cL_stands 3 = .ok (.iload_n 1, 1) := by decide +kernel
theorem dL_stands_4 : decode cL_stands 4 = .ok (.invokevirtual 128, 3) := by decide +kernel
theorem dL_stands_7 : decode cL_stands 7 = .ok (.i2l, 1) := by decide +kernel
theorem dL_stands_8 : decode cL_stands 8 = .ok (.lastore, 1) := by decide +kernel
theorem dL_stands_9 : decode cL_stands 9 = .ok (.goto 6, 3) := by decide +kernel
theorem dL_stands_12 : decode cL_stands 12 = .ok (.astore_n 3, 1) := by decide +kernel
theorem dL_stands_13 : decode cL_stands 13 = .ok (.iconst 1, 1) := by decide +kernel
theorem dL_stands_14 : decode cL_stands 14 = .ok (.ireturn, 1) := by decide +kernel
theorem dL_stands_15 : decode cL_stands 15 = .ok (.iconst 0, 1) := by decide +kernel
theorem dL_stands_16 : decode cL_stands 16 = .ok (.ireturn, 1) := by decide +kernel
theorem dL_worked_0 : decode cL_worked 0 = .ok (.aload_n 2, 1) := by decide +kernel
theorem dL_worked_1 : decode cL_worked 1 = .ok (.iconst 0, 1) := by decide +kernel
theorem dL_worked_2 : decode cL_worked 2 = .ok (.aload_n 0, 1) := by decide +kernel
theorem dL_worked_3 : decode cL_worked 3 = .ok (.iload_n 1, 1) := by decide +kernel
theorem dL_worked_4 : decode cL_worked 4 = .ok (.invokevirtual 131, 3) := by decide +kernel
theorem dL_worked_7 : decode cL_worked 7 = .ok (.i2l, 1) := by decide +kernel
theorem dL_worked_8 : decode cL_worked 8 = .ok (.lastore, 1) := by decide +kernel
theorem dL_worked_9 : decode cL_worked 9 = .ok (.goto 6, 3) := by decide +kernel
theorem dL_worked_12 : decode cL_worked 12 = .ok (.astore_n 3, 1) := by decide +kernel
theorem dL_worked_13 : decode cL_worked 13 = .ok (.iconst 1, 1) := by decide +kernel
theorem dL_worked_14 : decode cL_worked 14 = .ok (.ireturn, 1) := by decide +kernel
theorem dL_worked_15 : decode cL_worked 15 = .ok (.iconst 0, 1) := by decide +kernel
theorem dL_worked_16 : decode cL_worked 16 = .ok (.ireturn, 1) := by decide +kernel
