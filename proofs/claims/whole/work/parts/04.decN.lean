theorem d_N_init_0 : decode c_N_init 0 = .ok (.aload_n 0, 1) := by decide +kernel
theorem d_N_init_1 : decode c_N_init 1 = .ok (.invokespecial 1, 3) := by decide +kernel
theorem d_N_init_4 : decode c_N_init 4 = .ok (.aload_n 0, 1) := by decide +kernel
theorem d_N_init_5 : decode c_N_init 5 = .ok (.bipush 20, 2) := by decide +kernel
theorem d_N_init_7 : decode c_N_init 7 = .ok (.newarray .int, 2) := by decide +kernel
theorem d_N_init_9 : decode c_N_init 9 = .ok (.putfield 7, 3) := by decide +kernel
theorem d_N_init_12 : decode c_N_init 12 = .ok (.aload_n 0, 1) := by decide +kernel
theorem d_N_init_13 : decode c_N_init 13 = .ok (.bipush 20, 2) := by decide +kernel
theorem d_N_init_15 : decode c_N_init 15 = .ok (.newarray .int, 2) := by decide +kernel
theorem d_N_init_17 : decode c_N_init 17 = .ok (.putfield 13, 3) := by decide +kernel
theorem d_N_init_20 : decode c_N_init 20 = .ok (.aload_n 0, 1) := by decide +kernel
theorem d_N_init_21 : decode c_N_init 21 = .ok (.bipush 20, 2) := by decide +kernel
theorem d_N_init_23 : decode c_N_init 23 = .ok (.newarray .int, 2) := by decide +kernel
theorem d_N_init_25 : decode c_N_init 25 = .ok (.putfield 16, 3) := by decide +kernel
theorem d_N_init_28 : decode c_N_init 28 = .ok (.aload_n 0, 1) := by decide +kernel
theorem d_N_init_29 : decode c_N_init 29 = .ok (.bipush 20, 2) := by decide +kernel
theorem d_N_init_31 : decode c_N_init 31 = .ok (.newarray .int, 2) := by decide +kernel
theorem d_N_init_33 : decode c_N_init 33 = .ok (.putfield 19, 3) := by decide +kernel
theorem d_N_init_36 : decode c_N_init 36 = .ok (.aload_n 0, 1) := by decide +kernel
theorem d_N_init_37 : decode c_N_init 37 = .ok (.bipush 20, 2) := by decide +kernel
theorem d_N_init_39 : decode c_N_init 39 = .ok (.newarray .int, 2) := by decide +kernel
theorem d_N_init_41 : decode c_N_init 41 = .ok (.putfield 22, 3) := by decide +kernel
theorem d_N_init_44 : decode c_N_init 44 = .ok (.aload_n 0, 1) := by decide +kernel
theorem d_N_init_45 : decode c_N_init 45 = .ok (.bipush 20, 2) := by decide +kernel
theorem d_N_init_47 : decode c_N_init 47 = .ok (.newarray .int, 2) := by decide +kernel
theorem d_N_init_49 : decode c_N_init 49 = .ok (.putfield 25, 3) := by decide +kernel
theorem d_N_init_52 : decode c_N_init 52 = .ok (.aload_n 0, 1) := by decide +kernel
theorem d_N_init_53 : decode c_N_init 53 = .ok (.bipush 20, 2) := by decide +kernel
theorem d_N_init_55 : decode c_N_init 55 = .ok (.newarray .int, 2) := by decide +kernel
theorem d_N_init_57 : decode c_N_init 57 = .ok (.putfield 28, 3) := by decide +kernel
theorem d_N_init_60 : decode c_N_init 60 = .ok (.aload_n 0, 1) := by decide +kernel
theorem d_N_init_61 : decode c_N_init 61 = .ok (.bipush 20, 2) := by decide +kernel
theorem d_N_init_63 : decode c_N_init 63 = .ok (.newarray .int, 2) := by decide +kernel
theorem d_N_init_65 : decode c_N_init 65 = .ok (.putfield 31, 3) := by decide +kernel
theorem d_N_init_68 : decode c_N_init 68 = .ok (.aload_n 0, 1) := by decide +kernel
theorem d_N_init_69 : decode c_N_init 69 = .ok (.bipush 20, 2) := by decide +kernel
theorem d_N_init_71 : decode c_N_init 71 = .ok (.newarray .int, 2) := by decide +kernel
theorem d_N_init_73 : decode c_N_init 73 = .ok (.putfield 34, 3) := by decide +kernel
theorem d_N_init_76 : decode c_N_init 76 = .ok (.aload_n 0, 1) := by decide +kernel
theorem d_N_init_77 : decode c_N_init 77 = .ok (.bipush 20, 2) := by decide +kernel
theorem d_N_init_79 : decode c_N_init 79 = .ok (.newarray .int, 2) := by decide +kernel
theorem d_N_init_81 : decode c_N_init 81 = .ok (.putfield 37, 3) := by decide +kernel
theorem d_N_init_84 : decode c_N_init 84 = .ok (.aload_n 0, 1) := by decide +kernel
theorem d_N_init_85 : decode c_N_init 85 = .ok (.bipush 20, 2) := by decide +kernel
theorem d_N_init_87 : decode c_N_init 87 = .ok (.newarray .int, 2) := by decide +kernel
theorem d_N_init_89 : decode c_N_init 89 = .ok (.putfield 40, 3) := by decide +kernel
theorem d_N_init_92 : decode c_N_init 92 = .ok (.aload_n 0, 1) := by decide +kernel
theorem d_N_init_93 : decode c_N_init 93 = .ok (.bipush 20, 2) := by decide +kernel
theorem d_N_init_95 : decode c_N_init 95 = .ok (.newarray .int, 2) := by decide +kernel
theorem d_N_init_97 : decode c_N_init 97 = .ok (.putfield 43, 3) := by decide +kernel
theorem d_N_init_100 : decode c_N_init 100 = .ok (.aload_n 0, 1) := by decide +kernel
theorem d_N_init_101 : decode c_N_init 101 = .ok (.bipush 20, 2) := by decide +kernel
theorem d_N_init_103 : decode c_N_init 103 = .ok (.newarray .int, 2) := by decide +kernel
theorem d_N_init_105 : decode c_N_init 105 = .ok (.putfield 46, 3) := by decide +kernel
theorem d_N_init_108 : decode c_N_init 108 = .ok (.aload_n 0, 1) := by decide +kernel
theorem d_N_init_109 : decode c_N_init 109 = .ok (.bipush 20, 2) := by decide +kernel
theorem d_N_init_111 : decode c_N_init 111 = .ok (.newarray .int, 2) := by decide +kernel
theorem d_N_init_113 : decode c_N_init 113 = .ok (.putfield 49, 3) := by decide +kernel
theorem d_N_init_116 : decode c_N_init 116 = .ok (.aload_n 0, 1) := by decide +kernel
theorem d_N_init_117 : decode c_N_init 117 = .ok (.bipush 20, 2) := by decide +kernel
theorem d_N_init_119 : decode c_N_init 119 = .ok (.newarray .int, 2) := by decide +kernel
theorem d_N_init_121 : decode c_N_init 121 = .ok (.putfield 52, 3) := by decide +kernel
theorem d_N_init_124 : decode c_N_init 124 = .ok (.aload_n 0, 1) := by decide +kernel
theorem d_N_init_125 : decode c_N_init 125 = .ok (.bipush 20, 2) := by decide +kernel
theorem d_N_init_127 : decode c_N_init 127 = .ok (.newarray .int, 2) := by decide +kernel
theorem d_N_init_129 : decode c_N_init 129 = .ok (.putfield 55, 3) := by decide +kernel
theorem d_N_init_132 : decode c_N_init 132 = .ok (.aload_n 0, 1) := by decide +kernel
theorem d_N_init_133 : decode c_N_init 133 = .ok (.bipush 20, 2) := by decide +kernel
theorem d_N_init_135 : decode c_N_init 135 = .ok (.newarray .int, 2) := by decide +kernel
theorem d_N_init_137 : decode c_N_init 137 = .ok (.putfield 58, 3) := by decide +kernel
theorem d_N_init_140 : decode c_N_init 140 = .ok (.aload_n 0, 1) := by decide +kernel
theorem d_N_init_141 : decode c_N_init 141 = .ok (.bipush 20, 2) := by decide +kernel
theorem d_N_init_143 : decode c_N_init 143 = .ok (.newarray .int, 2) := by decide +kernel
theorem d_N_init_145 : decode c_N_init 145 = .ok (.putfield 61, 3) := by decide +kernel
theorem d_N_init_148 : decode c_N_init 148 = .ok (.aload_n 0, 1) := by decide +kernel
theorem d_N_init_149 : decode c_N_init 149 = .ok (.bipush 20, 2) := by decide +kernel
theorem d_N_init_151 : decode c_N_init 151 = .ok (.newarray .int, 2) := by decide +kernel
theorem d_N_init_153 : decode c_N_init 153 = .ok (.putfield 64, 3) := by decide +kernel
theorem d_N_init_156 : decode c_N_init 156 = .ok (.aload_n 0, 1) := by decide +kernel
theorem d_N_init_157 : decode c_N_init 157 = .ok (.sipush 2800, 3) := by decide +kernel
theorem d_N_init_160 : decode c_N_init 160 = .ok (.newarray .int, 2) := by decide +kernel
theorem d_N_init_162 : decode c_N_init 162 = .ok (.putfield 67, 3) := by decide +kernel
theorem d_N_init_165 : decode c_N_init 165 = .ok (.aload_n 0, 1) := by decide +kernel
theorem d_N_init_166 : decode c_N_init 166 = .ok (.iload_n 1, 1) := by decide +kernel
theorem d_N_init_167 : decode c_N_init 167 = .ok (.iconst 2, 1) := by decide +kernel
theorem d_N_init_168 : decode c_N_init 168 = .ok (.if_icmp .lt 13, 3) := by decide +kernel
theorem d_N_init_171 : decode c_N_init 171 = .ok (.iload_n 1, 1) := by decide +kernel
theorem d_N_init_172 : decode c_N_init 172 = .ok (.bipush 8, 2) := by decide +kernel
theorem d_N_init_174 : decode c_N_init 174 = .ok (.if_icmp .gt 7, 3) := by decide +kernel
theorem d_N_init_177 : decode c_N_init 177 = .ok (.iload_n 1, 1) := by decide +kernel
theorem d_N_init_178 : decode c_N_init 178 = .ok (.goto 4, 3) := by decide +kernel
theorem d_N_init_181 : decode c_N_init 181 = .ok (.iconst 4, 1) := by decide +kernel
theorem d_N_init_182 : decode c_N_init 182 = .ok (.putfield 70, 3) := by decide +kernel
theorem d_N_init_185 : decode c_N_init 185 = .ok (.return_, 1) := by decide +kernel
theorem d_N_thrown_0 : decode c_N_thrown 0 = .ok (.aload_n 0, 1) := by decide +kernel
theorem d_N_thrown_1 : decode c_N_thrown 1 = .ok (.getfield 74, 3) := by decide +kernel
theorem d_N_thrown_4 : decode c_N_thrown 4 = .ok (.ireturn, 1) := by decide +kernel
theorem d_N_movement_0 : decode c_N_movement 0 = .ok (.aload_n 0, 1) := by decide +kernel
theorem d_N_movement_1 : decode c_N_movement 1 = .ok (.iload_n 1, 1) := by decide +kernel
theorem d_N_movement_2 : decode c_N_movement 2 = .ok (.invokevirtual 83, 3) := by decide +kernel
theorem d_N_movement_5 : decode c_N_movement 5 = .ok (.ifCond .eq 68, 3) := by decide +kernel
theorem d_N_movement_8 : decode c_N_movement 8 = .ok (.aload_n 0, 1) := by decide +kernel
theorem d_N_movement_9 : decode c_N_movement 9 = .ok (.iload_n 2, 1) := by decide +kernel
theorem d_N_movement_10 : decode c_N_movement 10 = .ok (.invokevirtual 83, 3) := by decide +kernel
theorem d_N_movement_13 : decode c_N_movement 13 = .ok (.ifCond .eq 60, 3) := by decide +kernel
theorem d_N_movement_16 : decode c_N_movement 16 = .ok (.iload_n 1, 1) := by decide +kernel
theorem d_N_movement_17 : decode c_N_movement 17 = .ok (.iload_n 2, 1) := by decide +kernel
theorem d_N_movement_18 : decode c_N_movement 18 = .ok (.if_icmp .eq 55, 3) := by decide +kernel
theorem d_N_movement_21 : decode c_N_movement 21 = .ok (.iload_n 3, 1) := by decide +kernel
theorem d_N_movement_22 : decode c_N_movement 22 = .ok (.aload_n 0, 1) := by decide +kernel
theorem d_N_movement_23 : decode c_N_movement 23 = .ok (.getfield 87, 3) := by decide +kernel
theorem d_N_movement_26 : decode c_N_movement 26 = .ok (.sipush 10000, 3) := by decide +kernel
theorem d_N_movement_29 : decode c_N_movement 29 = .ok (.invokestatic 90, 3) := by decide +kernel
theorem d_N_movement_32 : decode c_N_movement 32 = .ok (.ifCond .eq 41, 3) := by decide +kernel
theorem d_N_movement_35 : decode c_N_movement 35 = .ok (.iload 4, 2) := by decide +kernel
theorem d_N_movement_37 : decode c_N_movement 37 = .ok (.iconst 1, 1) := by decide +kernel
theorem d_N_movement_38 : decode c_N_movement 38 = .ok (.ldc 94, 2) := by decide +kernel
theorem d_N_movement_40 : decode c_N_movement 40 = .ok (.invokestatic 90, 3) := by decide +kernel
theorem d_N_movement_43 : decode c_N_movement 43 = .ok (.ifCond .eq 30, 3) := by decide +kernel
theorem d_N_movement_46 : decode c_N_movement 46 = .ok (.iload 5, 2) := by decide +kernel
theorem d_N_movement_48 : decode c_N_movement 48 = .ok (.iconst 1, 1) := by decide +kernel
theorem d_N_movement_49 : decode c_N_movement 49 = .ok (.sipush 1000, 3) := by decide +kernel
theorem d_N_movement_52 : decode c_N_movement 52 = .ok (.invokestatic 90, 3) := by decide +kernel
theorem d_N_movement_55 : decode c_N_movement 55 = .ok (.ifCond .eq 18, 3) := by decide +kernel
theorem d_N_movement_58 : decode c_N_movement 58 = .ok (.iload 6, 2) := by decide +kernel
theorem d_N_movement_60 : decode c_N_movement 60 = .ok (.iconst 0, 1) := by decide +kernel
theorem d_N_movement_61 : decode c_N_movement 61 = .ok (.ldc 95, 2) := by decide +kernel
theorem d_N_movement_63 : decode c_N_movement 63 = .ok (.invokestatic 90, 3) := by decide +kernel
theorem d_N_movement_66 : decode c_N_movement 66 = .ok (.ifCond .eq 7, 3) := by decide +kernel
theorem d_N_movement_69 : decode c_N_movement 69 = .ok (.iconst 1, 1) := by decide +kernel
theorem d_N_movement_70 : decode c_N_movement 70 = .ok (.goto 4, 3) := by decide +kernel
theorem d_N_movement_73 : decode c_N_movement 73 = .ok (.iconst 0, 1) := by decide +kernel
theorem d_N_movement_74 : decode c_N_movement 74 = .ok (.istore 7, 2) := by decide +kernel
theorem d_N_movement_76 : decode c_N_movement 76 = .ok (.aload_n 0, 1) := by decide +kernel
theorem d_N_movement_77 : decode c_N_movement 77 = .ok (.iload 7, 2) := by decide +kernel
theorem d_N_movement_79 : decode c_N_movement 79 = .ok (.ifCond .ne 7, 3) := by decide +kernel
theorem d_N_movement_82 : decode c_N_movement 82 = .ok (.iconst 1, 1) := by decide +kernel
theorem d_N_movement_83 : decode c_N_movement 83 = .ok (.goto 17, 3) := by decide +kernel
theorem d_N_movement_86 : decode c_N_movement 86 = .ok (.aload_n 0, 1) := by decide +kernel
theorem d_N_movement_87 : decode c_N_movement 87 = .ok (.getfield 77, 3) := by decide +kernel
theorem d_N_movement_90 : decode c_N_movement 90 = .ok (.bipush 20, 2) := by decide +kernel
theorem d_N_movement_92 : decode c_N_movement 92 = .ok (.if_icmp .ne 7, 3) := by decide +kernel
theorem d_N_movement_95 : decode c_N_movement 95 = .ok (.iconst 2, 1) := by decide +kernel
theorem d_N_movement_96 : decode c_N_movement 96 = .ok (.goto 4, 3) := by decide +kernel
theorem d_N_movement_99 : decode c_N_movement 99 = .ok (.iconst 0, 1) := by decide +kernel
theorem d_N_movement_100 : decode c_N_movement 100 = .ok (.putfield 74, 3) := by decide +kernel
theorem d_N_movement_103 : decode c_N_movement 103 = .ok (.aload_n 0, 1) := by decide +kernel
theorem d_N_movement_104 : decode c_N_movement 104 = .ok (.getfield 74, 3) := by decide +kernel
theorem d_N_movement_107 : decode c_N_movement 107 = .ok (.ifCond .le 5, 3) := by decide +kernel
theorem d_N_movement_110 : decode c_N_movement 110 = .ok (.iconst 0, 1) := by decide +kernel
theorem d_N_movement_111 : decode c_N_movement 111 = .ok (.ireturn, 1) := by decide +kernel
theorem d_N_movement_112 : decode c_N_movement 112 = .ok (.aload_n 0, 1) := by decide +kernel
theorem d_N_movement_113 : decode c_N_movement 113 = .ok (.getfield 77, 3) := by decide +kernel
theorem d_N_movement_116 : decode c_N_movement 116 = .ok (.istore 8, 2) := by decide +kernel
theorem d_N_movement_118 : decode c_N_movement 118 = .ok (.aload_n 0, 1) := by decide +kernel
theorem d_N_movement_119 : decode c_N_movement 119 = .ok (.getfield 7, 3) := by decide +kernel
theorem d_N_movement_122 : decode c_N_movement 122 = .ok (.iload 8, 2) := by decide +kernel
theorem d_N_movement_124 : decode c_N_movement 124 = .ok (.iload_n 1, 1) := by decide +kernel
theorem d_N_movement_125 : decode c_N_movement 125 = .ok (.iastore, 1) := by decide +kernel
theorem d_N_movement_126 : decode c_N_movement 126 = .ok (.aload_n 0, 1) := by decide +kernel
theorem d_N_movement_127 : decode c_N_movement 127 = .ok (.getfield 13, 3) := by decide +kernel
theorem d_N_movement_130 : decode c_N_movement 130 = .ok (.iload 8, 2) := by decide +kernel
theorem d_N_movement_132 : decode c_N_movement 132 = .ok (.iload_n 2, 1) := by decide +kernel
theorem d_N_movement_133 : decode c_N_movement 133 = .ok (.iastore, 1) := by decide +kernel
theorem d_N_movement_134 : decode c_N_movement 134 = .ok (.aload_n 0, 1) := by decide +kernel
theorem d_N_movement_135 : decode c_N_movement 135 = .ok (.getfield 16, 3) := by decide +kernel
theorem d_N_movement_138 : decode c_N_movement 138 = .ok (.iload 8, 2) := by decide +kernel
theorem d_N_movement_140 : decode c_N_movement 140 = .ok (.iload_n 3, 1) := by decide +kernel
theorem d_N_movement_141 : decode c_N_movement 141 = .ok (.iastore, 1) := by decide +kernel
theorem d_N_movement_142 : decode c_N_movement 142 = .ok (.aload_n 0, 1) := by decide +kernel
theorem d_N_movement_143 : decode c_N_movement 143 = .ok (.getfield 19, 3) := by decide +kernel
theorem d_N_movement_146 : decode c_N_movement 146 = .ok (.iload 8, 2) := by decide +kernel
theorem d_N_movement_148 : decode c_N_movement 148 = .ok (.iload 4, 2) := by decide +kernel
theorem d_N_movement_150 : decode c_N_movement 150 = .ok (.iastore, 1) := by decide +kernel
theorem d_N_movement_151 : decode c_N_movement 151 = .ok (.aload_n 0, 1) := by decide +kernel
theorem d_N_movement_152 : decode c_N_movement 152 = .ok (.getfield 22, 3) := by decide +kernel
theorem d_N_movement_155 : decode c_N_movement 155 = .ok (.iload 8, 2) := by decide +kernel
theorem d_N_movement_157 : decode c_N_movement 157 = .ok (.iload 5, 2) := by decide +kernel
theorem d_N_movement_159 : decode c_N_movement 159 = .ok (.iastore, 1) := by decide +kernel
theorem d_N_movement_160 : decode c_N_movement 160 = .ok (.aload_n 0, 1) := by decide +kernel
theorem d_N_movement_161 : decode c_N_movement 161 = .ok (.getfield 25, 3) := by decide +kernel
theorem d_N_movement_164 : decode c_N_movement 164 = .ok (.iload 8, 2) := by decide +kernel
theorem d_N_movement_166 : decode c_N_movement 166 = .ok (.iload 6, 2) := by decide +kernel
theorem d_N_movement_168 : decode c_N_movement 168 = .ok (.iastore, 1) := by decide +kernel
theorem d_N_movement_169 : decode c_N_movement 169 = .ok (.aload_n 0, 1) := by decide +kernel
theorem d_N_movement_170 : decode c_N_movement 170 = .ok (.getfield 28, 3) := by decide +kernel
theorem d_N_movement_173 : decode c_N_movement 173 = .ok (.iload 8, 2) := by decide +kernel
theorem d_N_movement_175 : decode c_N_movement 175 = .ok (.iconst (-1), 1) := by decide +kernel
theorem d_N_movement_176 : decode c_N_movement 176 = .ok (.iastore, 1) := by decide +kernel
theorem d_N_movement_177 : decode c_N_movement 177 = .ok (.aload_n 0, 1) := by decide +kernel
theorem d_N_movement_178 : decode c_N_movement 178 = .ok (.getfield 37, 3) := by decide +kernel
theorem d_N_movement_181 : decode c_N_movement 181 = .ok (.iload 8, 2) := by decide +kernel
theorem d_N_movement_183 : decode c_N_movement 183 = .ok (.iconst (-1), 1) := by decide +kernel
theorem d_N_movement_184 : decode c_N_movement 184 = .ok (.iastore, 1) := by decide +kernel
theorem d_N_movement_185 : decode c_N_movement 185 = .ok (.aload_n 0, 1) := by decide +kernel
theorem d_N_movement_186 : decode c_N_movement 186 = .ok (.getfield 40, 3) := by decide +kernel
theorem d_N_movement_189 : decode c_N_movement 189 = .ok (.iload 8, 2) := by decide +kernel
theorem d_N_movement_191 : decode c_N_movement 191 = .ok (.iconst 1, 1) := by decide +kernel
theorem d_N_movement_192 : decode c_N_movement 192 = .ok (.iastore, 1) := by decide +kernel
theorem d_N_movement_193 : decode c_N_movement 193 = .ok (.aload_n 0, 1) := by decide +kernel
theorem d_N_movement_194 : decode c_N_movement 194 = .ok (.getfield 52, 3) := by decide +kernel
theorem d_N_movement_197 : decode c_N_movement 197 = .ok (.iload 8, 2) := by decide +kernel
theorem d_N_movement_199 : decode c_N_movement 199 = .ok (.iconst (-1), 1) := by decide +kernel
theorem d_N_movement_200 : decode c_N_movement 200 = .ok (.iastore, 1) := by decide +kernel
theorem d_N_movement_201 : decode c_N_movement 201 = .ok (.aload_n 0, 1) := by decide +kernel
theorem d_N_movement_202 : decode c_N_movement 202 = .ok (.getfield 55, 3) := by decide +kernel
theorem d_N_movement_205 : decode c_N_movement 205 = .ok (.iload 8, 2) := by decide +kernel
theorem d_N_movement_207 : decode c_N_movement 207 = .ok (.iconst (-1), 1) := by decide +kernel
theorem d_N_movement_208 : decode c_N_movement 208 = .ok (.iastore, 1) := by decide +kernel
theorem d_N_movement_209 : decode c_N_movement 209 = .ok (.aload_n 0, 1) := by decide +kernel
theorem d_N_movement_210 : decode c_N_movement 210 = .ok (.getfield 58, 3) := by decide +kernel
theorem d_N_movement_213 : decode c_N_movement 213 = .ok (.iload 8, 2) := by decide +kernel
theorem d_N_movement_215 : decode c_N_movement 215 = .ok (.iconst (-1), 1) := by decide +kernel
theorem d_N_movement_216 : decode c_N_movement 216 = .ok (.iastore, 1) := by decide +kernel
theorem d_N_movement_217 : decode c_N_movement 217 = .ok (.aload_n 0, 1) := by decide +kernel
theorem d_N_movement_218 : decode c_N_movement 218 = .ok (.dup, 1) := by decide +kernel
theorem d_N_movement_219 : decode c_N_movement 219 = .ok (.getfield 77, 3) := by decide +kernel
theorem d_N_movement_222 : decode c_N_movement 222 = .ok (.iconst 1, 1) := by decide +kernel
theorem d_N_movement_223 : decode c_N_movement 223 = .ok (.iadd, 1) := by decide +kernel
theorem d_N_movement_224 : decode c_N_movement 224 = .ok (.putfield 77, 3) := by decide +kernel
theorem d_N_movement_227 : decode c_N_movement 227 = .ok (.aload_n 0, 1) := by decide +kernel
theorem d_N_movement_228 : decode c_N_movement 228 = .ok (.iconst 1, 1) := by decide +kernel
theorem d_N_movement_229 : decode c_N_movement 229 = .ok (.iload 8, 2) := by decide +kernel
theorem d_N_movement_231 : decode c_N_movement 231 = .ok (.iload_n 1, 1) := by decide +kernel
theorem d_N_movement_232 : decode c_N_movement 232 = .ok (.iload_n 2, 1) := by decide +kernel
theorem d_N_movement_233 : decode c_N_movement 233 = .ok (.iload 5, 2) := by decide +kernel
theorem d_N_movement_235 : decode c_N_movement 235 = .ok (.iload_n 3, 1) := by decide +kernel
theorem d_N_movement_236 : decode c_N_movement 236 = .ok (.invokevirtual 96, 3) := by decide +kernel
theorem d_N_movement_239 : decode c_N_movement 239 = .ok (.iload 8, 2) := by decide +kernel
theorem d_N_movement_241 : decode c_N_movement 241 = .ok (.ireturn, 1) := by decide +kernel
theorem d_N_isOffice_0 : decode c_N_isOffice 0 = .ok (.iload_n 1, 1) := by decide +kernel
theorem d_N_isOffice_1 : decode c_N_isOffice 1 = .ok (.ifCond .lt 15, 3) := by decide +kernel
theorem d_N_isOffice_4 : decode c_N_isOffice 4 = .ok (.iload_n 1, 1) := by decide +kernel
theorem d_N_isOffice_5 : decode c_N_isOffice 5 = .ok (.aload_n 0, 1) := by decide +kernel
theorem d_N_isOffice_6 : decode c_N_isOffice 6 = .ok (.getfield 70, 3) := by decide +kernel
theorem d_N_isOffice_9 : decode c_N_isOffice 9 = .ok (.if_icmp .ge 7, 3) := by decide +kernel
theorem d_N_isOffice_12 : decode c_N_isOffice 12 = .ok (.iconst 1, 1) := by decide +kernel
theorem d_N_isOffice_13 : decode c_N_isOffice 13 = .ok (.goto 4, 3) := by decide +kernel
theorem d_N_isOffice_16 : decode c_N_isOffice 16 = .ok (.iconst 0, 1) := by decide +kernel
theorem d_N_isOffice_17 : decode c_N_isOffice 17 = .ok (.ireturn, 1) := by decide +kernel
theorem d_N_in_0 : decode c_N_in 0 = .ok (.iload_n 0, 1) := by decide +kernel
theorem d_N_in_1 : decode c_N_in 1 = .ok (.iload_n 1, 1) := by decide +kernel
theorem d_N_in_2 : decode c_N_in 2 = .ok (.if_icmp .lt 12, 3) := by decide +kernel
theorem d_N_in_5 : decode c_N_in 5 = .ok (.iload_n 0, 1) := by decide +kernel
theorem d_N_in_6 : decode c_N_in 6 = .ok (.iload_n 2, 1) := by decide +kernel
theorem d_N_in_7 : decode c_N_in 7 = .ok (.if_icmp .gt 7, 3) := by decide +kernel
theorem d_N_in_10 : decode c_N_in 10 = .ok (.iconst 1, 1) := by decide +kernel
theorem d_N_in_11 : decode c_N_in 11 = .ok (.goto 4, 3) := by decide +kernel
theorem d_N_in_14 : decode c_N_in 14 = .ok (.iconst 0, 1) := by decide +kernel
theorem d_N_in_15 : decode c_N_in 15 = .ok (.ireturn, 1) := by decide +kernel
theorem d_N_send_0 : decode c_N_send 0 = .ok (.bipush 7, 2) := by decide +kernel
theorem d_N_send_2 : decode c_N_send 2 = .ok (.aload_n 0, 1) := by decide +kernel
theorem d_N_send_3 : decode c_N_send 3 = .ok (.getfield 80, 3) := by decide +kernel
theorem d_N_send_6 : decode c_N_send 6 = .ok (.imul, 1) := by decide +kernel
theorem d_N_send_7 : decode c_N_send 7 = .ok (.istore 7, 2) := by decide +kernel
theorem d_N_send_9 : decode c_N_send 9 = .ok (.aload_n 0, 1) := by decide +kernel
theorem d_N_send_10 : decode c_N_send 10 = .ok (.getfield 67, 3) := by decide +kernel
theorem d_N_send_13 : decode c_N_send 13 = .ok (.iload 7, 2) := by decide +kernel
theorem d_N_send_15 : decode c_N_send 15 = .ok (.iload_n 1, 1) := by decide +kernel
theorem d_N_send_16 : decode c_N_send 16 = .ok (.iastore, 1) := by decide +kernel
theorem d_N_send_17 : decode c_N_send 17 = .ok (.aload_n 0, 1) := by decide +kernel
theorem d_N_send_18 : decode c_N_send 18 = .ok (.getfield 67, 3) := by decide +kernel
theorem d_N_send_21 : decode c_N_send 21 = .ok (.iload 7, 2) := by decide +kernel
theorem d_N_send_23 : decode c_N_send 23 = .ok (.iconst 1, 1) := by decide +kernel
theorem d_N_send_24 : decode c_N_send 24 = .ok (.iadd, 1) := by decide +kernel
theorem d_N_send_25 : decode c_N_send 25 = .ok (.iload_n 2, 1) := by decide +kernel
theorem d_N_send_26 : decode c_N_send 26 = .ok (.iastore, 1) := by decide +kernel
theorem d_N_send_27 : decode c_N_send 27 = .ok (.aload_n 0, 1) := by decide +kernel
theorem d_N_send_28 : decode c_N_send 28 = .ok (.getfield 67, 3) := by decide +kernel
theorem d_N_send_31 : decode c_N_send 31 = .ok (.iload 7, 2) := by decide +kernel
theorem d_N_send_33 : decode c_N_send 33 = .ok (.iconst 2, 1) := by decide +kernel
theorem d_N_send_34 : decode c_N_send 34 = .ok (.iadd, 1) := by decide +kernel
theorem d_N_send_35 : decode c_N_send 35 = .ok (.iload_n 3, 1) := by decide +kernel
theorem d_N_send_36 : decode c_N_send 36 = .ok (.iastore, 1) := by decide +kernel
theorem d_N_send_37 : decode c_N_send 37 = .ok (.aload_n 0, 1) := by decide +kernel
theorem d_N_send_38 : decode c_N_send 38 = .ok (.getfield 67, 3) := by decide +kernel
theorem d_N_send_41 : decode c_N_send 41 = .ok (.iload 7, 2) := by decide +kernel
theorem d_N_send_43 : decode c_N_send 43 = .ok (.iconst 3, 1) := by decide +kernel
theorem d_N_send_44 : decode c_N_send 44 = .ok (.iadd, 1) := by decide +kernel
theorem d_N_send_45 : decode c_N_send 45 = .ok (.iload 4, 2) := by decide +kernel
theorem d_N_send_47 : decode c_N_send 47 = .ok (.iastore, 1) := by decide +kernel
theorem d_N_send_48 : decode c_N_send 48 = .ok (.aload_n 0, 1) := by decide +kernel
theorem d_N_send_49 : decode c_N_send 49 = .ok (.getfield 67, 3) := by decide +kernel
theorem d_N_send_52 : decode c_N_send 52 = .ok (.iload 7, 2) := by decide +kernel
theorem d_N_send_54 : decode c_N_send 54 = .ok (.iconst 4, 1) := by decide +kernel
theorem d_N_send_55 : decode c_N_send 55 = .ok (.iadd, 1) := by decide +kernel
theorem d_N_send_56 : decode c_N_send 56 = .ok (.iload 5, 2) := by decide +kernel
theorem d_N_send_58 : decode c_N_send 58 = .ok (.iastore, 1) := by decide +kernel
theorem d_N_send_59 : decode c_N_send 59 = .ok (.aload_n 0, 1) := by decide +kernel
theorem d_N_send_60 : decode c_N_send 60 = .ok (.getfield 67, 3) := by decide +kernel
theorem d_N_send_63 : decode c_N_send 63 = .ok (.iload 7, 2) := by decide +kernel
theorem d_N_send_65 : decode c_N_send 65 = .ok (.iconst 5, 1) := by decide +kernel
theorem d_N_send_66 : decode c_N_send 66 = .ok (.iadd, 1) := by decide +kernel
theorem d_N_send_67 : decode c_N_send 67 = .ok (.iload 6, 2) := by decide +kernel
theorem d_N_send_69 : decode c_N_send 69 = .ok (.iastore, 1) := by decide +kernel
theorem d_N_send_70 : decode c_N_send 70 = .ok (.aload_n 0, 1) := by decide +kernel
theorem d_N_send_71 : decode c_N_send 71 = .ok (.getfield 67, 3) := by decide +kernel
theorem d_N_send_74 : decode c_N_send 74 = .ok (.iload 7, 2) := by decide +kernel
theorem d_N_send_76 : decode c_N_send 76 = .ok (.bipush 6, 2) := by decide +kernel
theorem d_N_send_78 : decode c_N_send 78 = .ok (.iadd, 1) := by decide +kernel
theorem d_N_send_79 : decode c_N_send 79 = .ok (.iconst 0, 1) := by decide +kernel
theorem d_N_send_80 : decode c_N_send 80 = .ok (.iastore, 1) := by decide +kernel
theorem d_N_send_81 : decode c_N_send 81 = .ok (.aload_n 0, 1) := by decide +kernel
theorem d_N_send_82 : decode c_N_send 82 = .ok (.dup, 1) := by decide +kernel
theorem d_N_send_83 : decode c_N_send 83 = .ok (.getfield 80, 3) := by decide +kernel
theorem d_N_send_86 : decode c_N_send 86 = .ok (.iconst 1, 1) := by decide +kernel
theorem d_N_send_87 : decode c_N_send 87 = .ok (.iadd, 1) := by decide +kernel
theorem d_N_send_88 : decode c_N_send 88 = .ok (.putfield 80, 3) := by decide +kernel
theorem d_N_send_91 : decode c_N_send 91 = .ok (.return_, 1) := by decide +kernel
theorem d_N_arrive_0 : decode c_N_arrive 0 = .ok (.aload_n 0, 1) := by decide +kernel
theorem d_N_arrive_1 : decode c_N_arrive 1 = .ok (.aload_n 0, 1) := by decide +kernel
theorem d_N_arrive_2 : decode c_N_arrive 2 = .ok (.iload_n 1, 1) := by decide +kernel
theorem d_N_arrive_3 : decode c_N_arrive 3 = .ok (.invokevirtual 100, 3) := by decide +kernel
theorem d_N_arrive_6 : decode c_N_arrive 6 = .ok (.ifCond .eq 25, 3) := by decide +kernel
theorem d_N_arrive_9 : decode c_N_arrive 9 = .ok (.aload_n 0, 1) := by decide +kernel
theorem d_N_arrive_10 : decode c_N_arrive 10 = .ok (.iload_n 2, 1) := by decide +kernel
theorem d_N_arrive_11 : decode c_N_arrive 11 = .ok (.invokevirtual 83, 3) := by decide +kernel
theorem d_N_arrive_14 : decode c_N_arrive 14 = .ok (.ifCond .eq 17, 3) := by decide +kernel
theorem d_N_arrive_17 : decode c_N_arrive 17 = .ok (.iload_n 3, 1) := by decide +kernel
theorem d_N_arrive_18 : decode c_N_arrive 18 = .ok (.iconst 0, 1) := by decide +kernel
theorem d_N_arrive_19 : decode c_N_arrive 19 = .ok (.ldc 94, 2) := by decide +kernel
theorem d_N_arrive_21 : decode c_N_arrive 21 = .ok (.invokestatic 90, 3) := by decide +kernel
theorem d_N_arrive_24 : decode c_N_arrive 24 = .ok (.ifCond .eq 7, 3) := by decide +kernel
theorem d_N_arrive_27 : decode c_N_arrive 27 = .ok (.iconst 0, 1) := by decide +kernel
theorem d_N_arrive_28 : decode c_N_arrive 28 = .ok (.goto 4, 3) := by decide +kernel
theorem d_N_arrive_31 : decode c_N_arrive 31 = .ok (.iconst 1, 1) := by decide +kernel
theorem d_N_arrive_32 : decode c_N_arrive 32 = .ok (.putfield 74, 3) := by decide +kernel
theorem d_N_arrive_35 : decode c_N_arrive 35 = .ok (.aload_n 0, 1) := by decide +kernel
theorem d_N_arrive_36 : decode c_N_arrive 36 = .ok (.getfield 74, 3) := by decide +kernel
theorem d_N_arrive_39 : decode c_N_arrive 39 = .ok (.ifCond .gt 33, 3) := by decide +kernel
theorem d_N_arrive_42 : decode c_N_arrive 42 = .ok (.aload_n 0, 1) := by decide +kernel
theorem d_N_arrive_43 : decode c_N_arrive 43 = .ok (.getfield 28, 3) := by decide +kernel
theorem d_N_arrive_46 : decode c_N_arrive 46 = .ok (.iload_n 1, 1) := by decide +kernel
theorem d_N_arrive_47 : decode c_N_arrive 47 = .ok (.iaload, 1) := by decide +kernel
theorem d_N_arrive_48 : decode c_N_arrive 48 = .ok (.ifCond .ge 24, 3) := by decide +kernel
theorem d_N_arrive_51 : decode c_N_arrive 51 = .ok (.iload_n 2, 1) := by decide +kernel
theorem d_N_arrive_52 : decode c_N_arrive 52 = .ok (.aload_n 0, 1) := by decide +kernel
theorem d_N_arrive_53 : decode c_N_arrive 53 = .ok (.getfield 7, 3) := by decide +kernel
theorem d_N_arrive_56 : decode c_N_arrive 56 = .ok (.iload_n 1, 1) := by decide +kernel
theorem d_N_arrive_57 : decode c_N_arrive 57 = .ok (.iaload, 1) := by decide +kernel
theorem d_N_arrive_58 : decode c_N_arrive 58 = .ok (.if_icmp .eq 14, 3) := by decide +kernel
theorem d_N_arrive_61 : decode c_N_arrive 61 = .ok (.aload_n 0, 1) := by decide +kernel
theorem d_N_arrive_62 : decode c_N_arrive 62 = .ok (.getfield 40, 3) := by decide +kernel
theorem d_N_arrive_65 : decode c_N_arrive 65 = .ok (.iload_n 1, 1) := by decide +kernel
theorem d_N_arrive_66 : decode c_N_arrive 66 = .ok (.iaload, 1) := by decide +kernel
theorem d_N_arrive_67 : decode c_N_arrive 67 = .ok (.bipush 6, 2) := by decide +kernel
theorem d_N_arrive_69 : decode c_N_arrive 69 = .ok (.if_icmp .ne 5, 3) := by decide +kernel
theorem d_N_arrive_72 : decode c_N_arrive 72 = .ok (.iconst 0, 1) := by decide +kernel
theorem d_N_arrive_73 : decode c_N_arrive 73 = .ok (.ireturn, 1) := by decide +kernel
theorem d_N_arrive_74 : decode c_N_arrive 74 = .ok (.aload_n 0, 1) := by decide +kernel
theorem d_N_arrive_75 : decode c_N_arrive 75 = .ok (.getfield 28, 3) := by decide +kernel
theorem d_N_arrive_78 : decode c_N_arrive 78 = .ok (.iload_n 1, 1) := by decide +kernel
theorem d_N_arrive_79 : decode c_N_arrive 79 = .ok (.iload_n 2, 1) := by decide +kernel
theorem d_N_arrive_80 : decode c_N_arrive 80 = .ok (.iastore, 1) := by decide +kernel
theorem d_N_arrive_81 : decode c_N_arrive 81 = .ok (.aload_n 0, 1) := by decide +kernel
theorem d_N_arrive_82 : decode c_N_arrive 82 = .ok (.getfield 31, 3) := by decide +kernel
theorem d_N_arrive_85 : decode c_N_arrive 85 = .ok (.iload_n 1, 1) := by decide +kernel
theorem d_N_arrive_86 : decode c_N_arrive 86 = .ok (.iload_n 3, 1) := by decide +kernel
theorem d_N_arrive_87 : decode c_N_arrive 87 = .ok (.iastore, 1) := by decide +kernel
theorem d_N_arrive_88 : decode c_N_arrive 88 = .ok (.aload_n 0, 1) := by decide +kernel
theorem d_N_arrive_89 : decode c_N_arrive 89 = .ok (.getfield 34, 3) := by decide +kernel
theorem d_N_arrive_92 : decode c_N_arrive 92 = .ok (.iload_n 1, 1) := by decide +kernel
theorem d_N_arrive_93 : decode c_N_arrive 93 = .ok (.aload_n 0, 1) := by decide +kernel
theorem d_N_arrive_94 : decode c_N_arrive 94 = .ok (.getfield 87, 3) := by decide +kernel
theorem d_N_arrive_97 : decode c_N_arrive 97 = .ok (.aload_n 0, 1) := by decide +kernel
theorem d_N_arrive_98 : decode c_N_arrive 98 = .ok (.getfield 16, 3) := by decide +kernel
theorem d_N_arrive_101 : decode c_N_arrive 101 = .ok (.iload_n 1, 1) := by decide +kernel
theorem d_N_arrive_102 : decode c_N_arrive 102 = .ok (.iaload, 1) := by decide +kernel
theorem d_N_arrive_103 : decode c_N_arrive 103 = .ok (.if_icmp .le 7, 3) := by decide +kernel
theorem d_N_arrive_106 : decode c_N_arrive 106 = .ok (.iconst 1, 1) := by decide +kernel
theorem d_N_arrive_107 : decode c_N_arrive 107 = .ok (.goto 4, 3) := by decide +kernel
theorem d_N_arrive_110 : decode c_N_arrive 110 = .ok (.iconst 0, 1) := by decide +kernel
theorem d_N_arrive_111 : decode c_N_arrive 111 = .ok (.iastore, 1) := by decide +kernel
theorem d_N_arrive_112 : decode c_N_arrive 112 = .ok (.aload_n 0, 1) := by decide +kernel
theorem d_N_arrive_113 : decode c_N_arrive 113 = .ok (.iload_n 1, 1) := by decide +kernel
theorem d_N_arrive_114 : decode c_N_arrive 114 = .ok (.invokevirtual 103, 3) := by decide +kernel
theorem d_N_arrive_117 : decode c_N_arrive 117 = .ok (.iload_n 2, 1) := by decide +kernel
theorem d_N_arrive_118 : decode c_N_arrive 118 = .ok (.aload_n 0, 1) := by decide +kernel
theorem d_N_arrive_119 : decode c_N_arrive 119 = .ok (.getfield 13, 3) := by decide +kernel
theorem d_N_arrive_122 : decode c_N_arrive 122 = .ok (.iload_n 1, 1) := by decide +kernel
theorem d_N_arrive_123 : decode c_N_arrive 123 = .ok (.iaload, 1) := by decide +kernel
theorem d_N_arrive_124 : decode c_N_arrive 124 = .ok (.if_icmp .eq 19, 3) := by decide +kernel
theorem d_N_arrive_127 : decode c_N_arrive 127 = .ok (.aload_n 0, 1) := by decide +kernel
theorem d_N_arrive_128 : decode c_N_arrive 128 = .ok (.bipush 6, 2) := by decide +kernel
theorem d_N_arrive_130 : decode c_N_arrive 130 = .ok (.iload_n 1, 1) := by decide +kernel
theorem d_N_arrive_131 : decode c_N_arrive 131 = .ok (.iload_n 2, 1) := by decide +kernel
theorem d_N_arrive_132 : decode c_N_arrive 132 = .ok (.aload_n 0, 1) := by decide +kernel
theorem d_N_arrive_133 : decode c_N_arrive 133 = .ok (.getfield 13, 3) := by decide +kernel
theorem d_N_arrive_136 : decode c_N_arrive 136 = .ok (.iload_n 1, 1) := by decide +kernel
theorem d_N_arrive_137 : decode c_N_arrive 137 = .ok (.iaload, 1) := by decide +kernel
theorem d_N_arrive_138 : decode c_N_arrive 138 = .ok (.iload_n 2, 1) := by decide +kernel
theorem d_N_arrive_139 : decode c_N_arrive 139 = .ok (.iconst 0, 1) := by decide +kernel
theorem d_N_arrive_140 : decode c_N_arrive 140 = .ok (.invokevirtual 96, 3) := by decide +kernel
theorem d_N_arrive_143 : decode c_N_arrive 143 = .ok (.iconst 1, 1) := by decide +kernel
theorem d_N_arrive_144 : decode c_N_arrive 144 = .ok (.ireturn, 1) := by decide +kernel
theorem d_N_isMovement_0 : decode c_N_isMovement 0 = .ok (.iload_n 1, 1) := by decide +kernel
theorem d_N_isMovement_1 : decode c_N_isMovement 1 = .ok (.ifCond .lt 15, 3) := by decide +kernel
theorem d_N_isMovement_4 : decode c_N_isMovement 4 = .ok (.iload_n 1, 1) := by decide +kernel
theorem d_N_isMovement_5 : decode c_N_isMovement 5 = .ok (.aload_n 0, 1) := by decide +kernel
theorem d_N_isMovement_6 : decode c_N_isMovement 6 = .ok (.getfield 77, 3) := by decide +kernel
theorem d_N_isMovement_9 : decode c_N_isMovement 9 = .ok (.if_icmp .ge 7, 3) := by decide +kernel
theorem d_N_isMovement_12 : decode c_N_isMovement 12 = .ok (.iconst 1, 1) := by decide +kernel
theorem d_N_isMovement_13 : decode c_N_isMovement 13 = .ok (.goto 4, 3) := by decide +kernel
theorem d_N_isMovement_16 : decode c_N_isMovement 16 = .ok (.iconst 0, 1) := by decide +kernel
theorem d_N_isMovement_17 : decode c_N_isMovement 17 = .ok (.ireturn, 1) := by decide +kernel
theorem d_N_tellArrival_0 : decode c_N_tellArrival 0 = .ok (.aload_n 0, 1) := by decide +kernel
theorem d_N_tellArrival_1 : decode c_N_tellArrival 1 = .ok (.iconst 2, 1) := by decide +kernel
theorem d_N_tellArrival_2 : decode c_N_tellArrival 2 = .ok (.iload_n 1, 1) := by decide +kernel
theorem d_N_tellArrival_3 : decode c_N_tellArrival 3 = .ok (.aload_n 0, 1) := by decide +kernel
theorem d_N_tellArrival_4 : decode c_N_tellArrival 4 = .ok (.getfield 28, 3) := by decide +kernel
theorem d_N_tellArrival_7 : decode c_N_tellArrival 7 = .ok (.iload_n 1, 1) := by decide +kernel
theorem d_N_tellArrival_8 : decode c_N_tellArrival 8 = .ok (.iaload, 1) := by decide +kernel
theorem d_N_tellArrival_9 : decode c_N_tellArrival 9 = .ok (.aload_n 0, 1) := by decide +kernel
theorem d_N_tellArrival_10 : decode c_N_tellArrival 10 = .ok (.getfield 7, 3) := by decide +kernel
theorem d_N_tellArrival_13 : decode c_N_tellArrival 13 = .ok (.iload_n 1, 1) := by decide +kernel
theorem d_N_tellArrival_14 : decode c_N_tellArrival 14 = .ok (.iaload, 1) := by decide +kernel
theorem d_N_tellArrival_15 : decode c_N_tellArrival 15 = .ok (.aload_n 0, 1) := by decide +kernel
theorem d_N_tellArrival_16 : decode c_N_tellArrival 16 = .ok (.getfield 31, 3) := by decide +kernel
theorem d_N_tellArrival_19 : decode c_N_tellArrival 19 = .ok (.iload_n 1, 1) := by decide +kernel
theorem d_N_tellArrival_20 : decode c_N_tellArrival 20 = .ok (.iaload, 1) := by decide +kernel
theorem d_N_tellArrival_21 : decode c_N_tellArrival 21 = .ok (.aload_n 0, 1) := by decide +kernel
theorem d_N_tellArrival_22 : decode c_N_tellArrival 22 = .ok (.getfield 34, 3) := by decide +kernel
theorem d_N_tellArrival_25 : decode c_N_tellArrival 25 = .ok (.iload_n 1, 1) := by decide +kernel
theorem d_N_tellArrival_26 : decode c_N_tellArrival 26 = .ok (.iaload, 1) := by decide +kernel
theorem d_N_tellArrival_27 : decode c_N_tellArrival 27 = .ok (.invokevirtual 96, 3) := by decide +kernel
theorem d_N_tellArrival_30 : decode c_N_tellArrival 30 = .ok (.return_, 1) := by decide +kernel
theorem d_N_control_0 : decode c_N_control 0 = .ok (.aload_n 0, 1) := by decide +kernel
theorem d_N_control_1 : decode c_N_control 1 = .ok (.aload_n 0, 1) := by decide +kernel
theorem d_N_control_2 : decode c_N_control 2 = .ok (.iload_n 1, 1) := by decide +kernel
theorem d_N_control_3 : decode c_N_control 3 = .ok (.invokevirtual 100, 3) := by decide +kernel
theorem d_N_control_6 : decode c_N_control 6 = .ok (.ifCond .eq 18, 3) := by decide +kernel
theorem d_N_control_9 : decode c_N_control 9 = .ok (.iload_n 2, 1) := by decide +kernel
theorem d_N_control_10 : decode c_N_control 10 = .ok (.iconst 0, 1) := by decide +kernel
theorem d_N_control_11 : decode c_N_control 11 = .ok (.sipush 1000, 3) := by decide +kernel
theorem d_N_control_14 : decode c_N_control 14 = .ok (.invokestatic 90, 3) := by decide +kernel
theorem d_N_control_17 : decode c_N_control 17 = .ok (.ifCond .eq 7, 3) := by decide +kernel
theorem d_N_control_20 : decode c_N_control 20 = .ok (.iconst 0, 1) := by decide +kernel
theorem d_N_control_21 : decode c_N_control 21 = .ok (.goto 4, 3) := by decide +kernel
theorem d_N_control_24 : decode c_N_control 24 = .ok (.iconst 1, 1) := by decide +kernel
theorem d_N_control_25 : decode c_N_control 25 = .ok (.putfield 74, 3) := by decide +kernel
theorem d_N_control_28 : decode c_N_control 28 = .ok (.aload_n 0, 1) := by decide +kernel
theorem d_N_control_29 : decode c_N_control 29 = .ok (.getfield 74, 3) := by decide +kernel
theorem d_N_control_32 : decode c_N_control 32 = .ok (.ifCond .gt 21, 3) := by decide +kernel
theorem d_N_control_35 : decode c_N_control 35 = .ok (.aload_n 0, 1) := by decide +kernel
theorem d_N_control_36 : decode c_N_control 36 = .ok (.getfield 28, 3) := by decide +kernel
theorem d_N_control_39 : decode c_N_control 39 = .ok (.iload_n 1, 1) := by decide +kernel
theorem d_N_control_40 : decode c_N_control 40 = .ok (.iaload, 1) := by decide +kernel
theorem d_N_control_41 : decode c_N_control 41 = .ok (.ifCond .lt 12, 3) := by decide +kernel
theorem d_N_control_44 : decode c_N_control 44 = .ok (.aload_n 0, 1) := by decide +kernel
theorem d_N_control_45 : decode c_N_control 45 = .ok (.getfield 37, 3) := by decide +kernel
theorem d_N_control_48 : decode c_N_control 48 = .ok (.iload_n 1, 1) := by decide +kernel
theorem d_N_control_49 : decode c_N_control 49 = .ok (.iaload, 1) := by decide +kernel
theorem d_N_control_50 : decode c_N_control 50 = .ok (.ifCond .lt 5, 3) := by decide +kernel
theorem d_N_control_53 : decode c_N_control 53 = .ok (.iconst 0, 1) := by decide +kernel
theorem d_N_control_54 : decode c_N_control 54 = .ok (.ireturn, 1) := by decide +kernel
theorem d_N_control_55 : decode c_N_control 55 = .ok (.aload_n 0, 1) := by decide +kernel
theorem d_N_control_56 : decode c_N_control 56 = .ok (.getfield 37, 3) := by decide +kernel
theorem d_N_control_59 : decode c_N_control 59 = .ok (.iload_n 1, 1) := by decide +kernel
theorem d_N_control_60 : decode c_N_control 60 = .ok (.iload_n 2, 1) := by decide +kernel
theorem d_N_control_61 : decode c_N_control 61 = .ok (.iastore, 1) := by decide +kernel
theorem d_N_control_62 : decode c_N_control 62 = .ok (.aload_n 0, 1) := by decide +kernel
theorem d_N_control_63 : decode c_N_control 63 = .ok (.iload_n 1, 1) := by decide +kernel
theorem d_N_control_64 : decode c_N_control 64 = .ok (.invokevirtual 107, 3) := by decide +kernel
theorem d_N_control_67 : decode c_N_control 67 = .ok (.iconst 1, 1) := by decide +kernel
theorem d_N_control_68 : decode c_N_control 68 = .ok (.ireturn, 1) := by decide +kernel
theorem d_N_tellResult_0 : decode c_N_tellResult 0 = .ok (.aload_n 0, 1) := by decide +kernel
theorem d_N_tellResult_1 : decode c_N_tellResult 1 = .ok (.iconst 3, 1) := by decide +kernel
theorem d_N_tellResult_2 : decode c_N_tellResult 2 = .ok (.iload_n 1, 1) := by decide +kernel
theorem d_N_tellResult_3 : decode c_N_tellResult 3 = .ok (.aload_n 0, 1) := by decide +kernel
theorem d_N_tellResult_4 : decode c_N_tellResult 4 = .ok (.getfield 28, 3) := by decide +kernel
theorem d_N_tellResult_7 : decode c_N_tellResult 7 = .ok (.iload_n 1, 1) := by decide +kernel
theorem d_N_tellResult_8 : decode c_N_tellResult 8 = .ok (.iaload, 1) := by decide +kernel
theorem d_N_tellResult_9 : decode c_N_tellResult 9 = .ok (.aload_n 0, 1) := by decide +kernel
theorem d_N_tellResult_10 : decode c_N_tellResult 10 = .ok (.getfield 7, 3) := by decide +kernel
theorem d_N_tellResult_13 : decode c_N_tellResult 13 = .ok (.iload_n 1, 1) := by decide +kernel
theorem d_N_tellResult_14 : decode c_N_tellResult 14 = .ok (.iaload, 1) := by decide +kernel
theorem d_N_tellResult_15 : decode c_N_tellResult 15 = .ok (.aload_n 0, 1) := by decide +kernel
theorem d_N_tellResult_16 : decode c_N_tellResult 16 = .ok (.getfield 37, 3) := by decide +kernel
theorem d_N_tellResult_19 : decode c_N_tellResult 19 = .ok (.iload_n 1, 1) := by decide +kernel
theorem d_N_tellResult_20 : decode c_N_tellResult 20 = .ok (.iaload, 1) := by decide +kernel
theorem d_N_tellResult_21 : decode c_N_tellResult 21 = .ok (.aload_n 0, 1) := by decide +kernel
theorem d_N_tellResult_22 : decode c_N_tellResult 22 = .ok (.getfield 31, 3) := by decide +kernel
theorem d_N_tellResult_25 : decode c_N_tellResult 25 = .ok (.iload_n 1, 1) := by decide +kernel
theorem d_N_tellResult_26 : decode c_N_tellResult 26 = .ok (.iaload, 1) := by decide +kernel
theorem d_N_tellResult_27 : decode c_N_tellResult 27 = .ok (.invokevirtual 96, 3) := by decide +kernel
theorem d_N_tellResult_30 : decode c_N_tellResult 30 = .ok (.return_, 1) := by decide +kernel
theorem d_N_receive_0 : decode c_N_receive 0 = .ok (.aload_n 0, 1) := by decide +kernel
theorem d_N_receive_1 : decode c_N_receive 1 = .ok (.aload_n 0, 1) := by decide +kernel
theorem d_N_receive_2 : decode c_N_receive 2 = .ok (.iload_n 1, 1) := by decide +kernel
theorem d_N_receive_3 : decode c_N_receive 3 = .ok (.invokevirtual 83, 3) := by decide +kernel
theorem d_N_receive_6 : decode c_N_receive 6 = .ok (.ifCond .eq 19, 3) := by decide +kernel
theorem d_N_receive_9 : decode c_N_receive 9 = .ok (.iload_n 2, 1) := by decide +kernel
theorem d_N_receive_10 : decode c_N_receive 10 = .ok (.ifCond .lt 15, 3) := by decide +kernel
theorem d_N_receive_13 : decode c_N_receive 13 = .ok (.iload_n 2, 1) := by decide +kernel
theorem d_N_receive_14 : decode c_N_receive 14 = .ok (.aload_n 0, 1) := by decide +kernel
theorem d_N_receive_15 : decode c_N_receive 15 = .ok (.getfield 80, 3) := by decide +kernel
theorem d_N_receive_18 : decode c_N_receive 18 = .ok (.if_icmp .ge 7, 3) := by decide +kernel
theorem d_N_receive_21 : decode c_N_receive 21 = .ok (.iconst 0, 1) := by decide +kernel
theorem d_N_receive_22 : decode c_N_receive 22 = .ok (.goto 4, 3) := by decide +kernel
theorem d_N_receive_25 : decode c_N_receive 25 = .ok (.iconst 1, 1) := by decide +kernel
theorem d_N_receive_26 : decode c_N_receive 26 = .ok (.putfield 74, 3) := by decide +kernel
theorem d_N_receive_29 : decode c_N_receive 29 = .ok (.aload_n 0, 1) := by decide +kernel
theorem d_N_receive_30 : decode c_N_receive 30 = .ok (.getfield 74, 3) := by decide +kernel
theorem d_N_receive_33 : decode c_N_receive 33 = .ok (.ifCond .gt 33, 3) := by decide +kernel
theorem d_N_receive_36 : decode c_N_receive 36 = .ok (.aload_n 0, 1) := by decide +kernel
theorem d_N_receive_37 : decode c_N_receive 37 = .ok (.getfield 67, 3) := by decide +kernel
theorem d_N_receive_40 : decode c_N_receive 40 = .ok (.bipush 7, 2) := by decide +kernel
theorem d_N_receive_42 : decode c_N_receive 42 = .ok (.iload_n 2, 1) := by decide +kernel
theorem d_N_receive_43 : decode c_N_receive 43 = .ok (.imul, 1) := by decide +kernel
theorem d_N_receive_44 : decode c_N_receive 44 = .ok (.bipush 6, 2) := by decide +kernel
theorem d_N_receive_46 : decode c_N_receive 46 = .ok (.iadd, 1) := by decide +kernel
theorem d_N_receive_47 : decode c_N_receive 47 = .ok (.iaload, 1) := by decide +kernel
theorem d_N_receive_48 : decode c_N_receive 48 = .ok (.ifCond .ne 18, 3) := by decide +kernel
theorem d_N_receive_51 : decode c_N_receive 51 = .ok (.aload_n 0, 1) := by decide +kernel
theorem d_N_receive_52 : decode c_N_receive 52 = .ok (.getfield 67, 3) := by decide +kernel
theorem d_N_receive_55 : decode c_N_receive 55 = .ok (.bipush 7, 2) := by decide +kernel
theorem d_N_receive_57 : decode c_N_receive 57 = .ok (.iload_n 2, 1) := by decide +kernel
theorem d_N_receive_58 : decode c_N_receive 58 = .ok (.imul, 1) := by decide +kernel
theorem d_N_receive_59 : decode c_N_receive 59 = .ok (.iconst 3, 1) := by decide +kernel
theorem d_N_receive_60 : decode c_N_receive 60 = .ok (.iadd, 1) := by decide +kernel
theorem d_N_receive_61 : decode c_N_receive 61 = .ok (.iaload, 1) := by decide +kernel
theorem d_N_receive_62 : decode c_N_receive 62 = .ok (.iload_n 1, 1) := by decide +kernel
theorem d_N_receive_63 : decode c_N_receive 63 = .ok (.if_icmp .eq 5, 3) := by decide +kernel
theorem d_N_receive_66 : decode c_N_receive 66 = .ok (.iconst 0, 1) := by decide +kernel
theorem d_N_receive_67 : decode c_N_receive 67 = .ok (.ireturn, 1) := by decide +kernel
theorem d_N_receive_68 : decode c_N_receive 68 = .ok (.aload_n 0, 1) := by decide +kernel
theorem d_N_receive_69 : decode c_N_receive 69 = .ok (.getfield 67, 3) := by decide +kernel
theorem d_N_receive_72 : decode c_N_receive 72 = .ok (.bipush 7, 2) := by decide +kernel
theorem d_N_receive_74 : decode c_N_receive 74 = .ok (.iload_n 2, 1) := by decide +kernel
theorem d_N_receive_75 : decode c_N_receive 75 = .ok (.imul, 1) := by decide +kernel
theorem d_N_receive_76 : decode c_N_receive 76 = .ok (.bipush 6, 2) := by decide +kernel
theorem d_N_receive_78 : decode c_N_receive 78 = .ok (.iadd, 1) := by decide +kernel
theorem d_N_receive_79 : decode c_N_receive 79 = .ok (.iconst 1, 1) := by decide +kernel
theorem d_N_receive_80 : decode c_N_receive 80 = .ok (.iastore, 1) := by decide +kernel
theorem d_N_receive_81 : decode c_N_receive 81 = .ok (.aload_n 0, 1) := by decide +kernel
theorem d_N_receive_82 : decode c_N_receive 82 = .ok (.bipush 7, 2) := by decide +kernel
theorem d_N_receive_84 : decode c_N_receive 84 = .ok (.iload_n 2, 1) := by decide +kernel
theorem d_N_receive_85 : decode c_N_receive 85 = .ok (.imul, 1) := by decide +kernel
theorem d_N_receive_86 : decode c_N_receive 86 = .ok (.invokevirtual 117, 3) := by decide +kernel
theorem d_N_receive_89 : decode c_N_receive 89 = .ok (.iconst 1, 1) := by decide +kernel
theorem d_N_receive_90 : decode c_N_receive 90 = .ok (.ireturn, 1) := by decide +kernel
theorem d_N_read_0 : decode c_N_read 0 = .ok (.aload_n 0, 1) := by decide +kernel
theorem d_N_read_1 : decode c_N_read 1 = .ok (.getfield 67, 3) := by decide +kernel
theorem d_N_read_4 : decode c_N_read 4 = .ok (.iload_n 1, 1) := by decide +kernel
theorem d_N_read_5 : decode c_N_read 5 = .ok (.iconst 1, 1) := by decide +kernel
theorem d_N_read_6 : decode c_N_read 6 = .ok (.iadd, 1) := by decide +kernel
theorem d_N_read_7 : decode c_N_read 7 = .ok (.iaload, 1) := by decide +kernel
theorem d_N_read_8 : decode c_N_read 8 = .ok (.istore_n 2, 1) := by decide +kernel
theorem d_N_read_9 : decode c_N_read 9 = .ok (.aload_n 0, 1) := by decide +kernel
theorem d_N_read_10 : decode c_N_read 10 = .ok (.getfield 67, 3) := by decide +kernel
theorem d_N_read_13 : decode c_N_read 13 = .ok (.iload_n 1, 1) := by decide +kernel
theorem d_N_read_14 : decode c_N_read 14 = .ok (.iaload, 1) := by decide +kernel
theorem d_N_read_15 : decode c_N_read 15 = .ok (.iconst 1, 1) := by decide +kernel
theorem d_N_read_16 : decode c_N_read 16 = .ok (.if_icmp .ne 10, 3) := by decide +kernel
theorem d_N_read_19 : decode c_N_read 19 = .ok (.aload_n 0, 1) := by decide +kernel
theorem d_N_read_20 : decode c_N_read 20 = .ok (.getfield 61, 3) := by decide +kernel
theorem d_N_read_23 : decode c_N_read 23 = .ok (.iload_n 2, 1) := by decide +kernel
theorem d_N_read_24 : decode c_N_read 24 = .ok (.iconst 1, 1) := by decide +kernel
theorem d_N_read_25 : decode c_N_read 25 = .ok (.iastore, 1) := by decide +kernel
theorem d_N_read_26 : decode c_N_read 26 = .ok (.aload_n 0, 1) := by decide +kernel
theorem d_N_read_27 : decode c_N_read 27 = .ok (.getfield 67, 3) := by decide +kernel
theorem d_N_read_30 : decode c_N_read 30 = .ok (.iload_n 1, 1) := by decide +kernel
theorem d_N_read_31 : decode c_N_read 31 = .ok (.iaload, 1) := by decide +kernel
theorem d_N_read_32 : decode c_N_read 32 = .ok (.bipush 6, 2) := by decide +kernel
theorem d_N_read_34 : decode c_N_read 34 = .ok (.if_icmp .ne 10, 3) := by decide +kernel
theorem d_N_read_37 : decode c_N_read 37 = .ok (.aload_n 0, 1) := by decide +kernel
theorem d_N_read_38 : decode c_N_read 38 = .ok (.getfield 64, 3) := by decide +kernel
theorem d_N_read_41 : decode c_N_read 41 = .ok (.iload_n 2, 1) := by decide +kernel
theorem d_N_read_42 : decode c_N_read 42 = .ok (.iconst 1, 1) := by decide +kernel
theorem d_N_read_43 : decode c_N_read 43 = .ok (.iastore, 1) := by decide +kernel
theorem d_N_read_44 : decode c_N_read 44 = .ok (.aload_n 0, 1) := by decide +kernel
theorem d_N_read_45 : decode c_N_read 45 = .ok (.getfield 67, 3) := by decide +kernel
theorem d_N_read_48 : decode c_N_read 48 = .ok (.iload_n 1, 1) := by decide +kernel
theorem d_N_read_49 : decode c_N_read 49 = .ok (.iaload, 1) := by decide +kernel
theorem d_N_read_50 : decode c_N_read 50 = .ok (.iconst 2, 1) := by decide +kernel
theorem d_N_read_51 : decode c_N_read 51 = .ok (.if_icmp .ne 55, 3) := by decide +kernel
theorem d_N_read_54 : decode c_N_read 54 = .ok (.aload_n 0, 1) := by decide +kernel
theorem d_N_read_55 : decode c_N_read 55 = .ok (.getfield 52, 3) := by decide +kernel
theorem d_N_read_58 : decode c_N_read 58 = .ok (.iload_n 2, 1) := by decide +kernel
theorem d_N_read_59 : decode c_N_read 59 = .ok (.aload_n 0, 1) := by decide +kernel
theorem d_N_read_60 : decode c_N_read 60 = .ok (.getfield 67, 3) := by decide +kernel
theorem d_N_read_63 : decode c_N_read 63 = .ok (.iload_n 1, 1) := by decide +kernel
theorem d_N_read_64 : decode c_N_read 64 = .ok (.iconst 4, 1) := by decide +kernel
theorem d_N_read_65 : decode c_N_read 65 = .ok (.iadd, 1) := by decide +kernel
theorem d_N_read_66 : decode c_N_read 66 = .ok (.iaload, 1) := by decide +kernel
theorem d_N_read_67 : decode c_N_read 67 = .ok (.iastore, 1) := by decide +kernel
theorem d_N_read_68 : decode c_N_read 68 = .ok (.aload_n 0, 1) := by decide +kernel
theorem d_N_read_69 : decode c_N_read 69 = .ok (.getfield 55, 3) := by decide +kernel
theorem d_N_read_72 : decode c_N_read 72 = .ok (.iload_n 2, 1) := by decide +kernel
theorem d_N_read_73 : decode c_N_read 73 = .ok (.aload_n 0, 1) := by decide +kernel
theorem d_N_read_74 : decode c_N_read 74 = .ok (.getfield 67, 3) := by decide +kernel
theorem d_N_read_77 : decode c_N_read 77 = .ok (.iload_n 1, 1) := by decide +kernel
theorem d_N_read_78 : decode c_N_read 78 = .ok (.iconst 5, 1) := by decide +kernel
theorem d_N_read_79 : decode c_N_read 79 = .ok (.iadd, 1) := by decide +kernel
theorem d_N_read_80 : decode c_N_read 80 = .ok (.iaload, 1) := by decide +kernel
theorem d_N_read_81 : decode c_N_read 81 = .ok (.iastore, 1) := by decide +kernel
theorem d_N_read_82 : decode c_N_read 82 = .ok (.aload_n 0, 1) := by decide +kernel
theorem d_N_read_83 : decode c_N_read 83 = .ok (.getfield 40, 3) := by decide +kernel
theorem d_N_read_86 : decode c_N_read 86 = .ok (.iload_n 2, 1) := by decide +kernel
theorem d_N_read_87 : decode c_N_read 87 = .ok (.aload_n 0, 1) := by decide +kernel
theorem d_N_read_88 : decode c_N_read 88 = .ok (.iload_n 2, 1) := by decide +kernel
theorem d_N_read_89 : decode c_N_read 89 = .ok (.invokevirtual 110, 3) := by decide +kernel
theorem d_N_read_92 : decode c_N_read 92 = .ok (.ifCond .eq 7, 3) := by decide +kernel
theorem d_N_read_95 : decode c_N_read 95 = .ok (.iconst 2, 1) := by decide +kernel
theorem d_N_read_96 : decode c_N_read 96 = .ok (.goto 9, 3) := by decide +kernel
theorem d_N_read_99 : decode c_N_read 99 = .ok (.aload_n 0, 1) := by decide +kernel
theorem d_N_read_100 : decode c_N_read 100 = .ok (.getfield 40, 3) := by decide +kernel
theorem d_N_read_103 : decode c_N_read 103 = .ok (.iload_n 2, 1) := by decide +kernel
theorem d_N_read_104 : decode c_N_read 104 = .ok (.iaload, 1) := by decide +kernel
theorem d_N_read_105 : decode c_N_read 105 = .ok (.iastore, 1) := by decide +kernel
theorem d_N_read_106 : decode c_N_read 106 = .ok (.aload_n 0, 1) := by decide +kernel
theorem d_N_read_107 : decode c_N_read 107 = .ok (.getfield 67, 3) := by decide +kernel
theorem d_N_read_110 : decode c_N_read 110 = .ok (.iload_n 1, 1) := by decide +kernel
theorem d_N_read_111 : decode c_N_read 111 = .ok (.iaload, 1) := by decide +kernel
theorem d_N_read_112 : decode c_N_read 112 = .ok (.iconst 3, 1) := by decide +kernel
theorem d_N_read_113 : decode c_N_read 113 = .ok (.if_icmp .ne 24, 3) := by decide +kernel
theorem d_N_read_116 : decode c_N_read 116 = .ok (.aload_n 0, 1) := by decide +kernel
theorem d_N_read_117 : decode c_N_read 117 = .ok (.iload_n 2, 1) := by decide +kernel
theorem d_N_read_118 : decode c_N_read 118 = .ok (.aload_n 0, 1) := by decide +kernel
theorem d_N_read_119 : decode c_N_read 119 = .ok (.getfield 67, 3) := by decide +kernel
theorem d_N_read_122 : decode c_N_read 122 = .ok (.iload_n 1, 1) := by decide +kernel
theorem d_N_read_123 : decode c_N_read 123 = .ok (.iconst 4, 1) := by decide +kernel
theorem d_N_read_124 : decode c_N_read 124 = .ok (.iadd, 1) := by decide +kernel
theorem d_N_read_125 : decode c_N_read 125 = .ok (.iaload, 1) := by decide +kernel
theorem d_N_read_126 : decode c_N_read 126 = .ok (.aload_n 0, 1) := by decide +kernel
theorem d_N_read_127 : decode c_N_read 127 = .ok (.getfield 67, 3) := by decide +kernel
theorem d_N_read_130 : decode c_N_read 130 = .ok (.iload_n 1, 1) := by decide +kernel
theorem d_N_read_131 : decode c_N_read 131 = .ok (.iconst 5, 1) := by decide +kernel
theorem d_N_read_132 : decode c_N_read 132 = .ok (.iadd, 1) := by decide +kernel
theorem d_N_read_133 : decode c_N_read 133 = .ok (.iaload, 1) := by decide +kernel
theorem d_N_read_134 : decode c_N_read 134 = .ok (.invokevirtual 113, 3) := by decide +kernel
theorem d_N_read_137 : decode c_N_read 137 = .ok (.aload_n 0, 1) := by decide +kernel
theorem d_N_read_138 : decode c_N_read 138 = .ok (.getfield 67, 3) := by decide +kernel
theorem d_N_read_141 : decode c_N_read 141 = .ok (.iload_n 1, 1) := by decide +kernel
theorem d_N_read_142 : decode c_N_read 142 = .ok (.iaload, 1) := by decide +kernel
theorem d_N_read_143 : decode c_N_read 143 = .ok (.iconst 4, 1) := by decide +kernel
theorem d_N_read_144 : decode c_N_read 144 = .ok (.if_icmp .ne 87, 3) := by decide +kernel
theorem d_N_read_147 : decode c_N_read 147 = .ok (.aload_n 0, 1) := by decide +kernel
theorem d_N_read_148 : decode c_N_read 148 = .ok (.getfield 28, 3) := by decide +kernel
theorem d_N_read_151 : decode c_N_read 151 = .ok (.iload_n 2, 1) := by decide +kernel
theorem d_N_read_152 : decode c_N_read 152 = .ok (.iaload, 1) := by decide +kernel
theorem d_N_read_153 : decode c_N_read 153 = .ok (.aload_n 0, 1) := by decide +kernel
theorem d_N_read_154 : decode c_N_read 154 = .ok (.getfield 13, 3) := by decide +kernel
theorem d_N_read_157 : decode c_N_read 157 = .ok (.iload_n 2, 1) := by decide +kernel
theorem d_N_read_158 : decode c_N_read 158 = .ok (.iaload, 1) := by decide +kernel
theorem d_N_read_159 : decode c_N_read 159 = .ok (.if_icmp .ne 7, 3) := by decide +kernel
theorem d_N_read_162 : decode c_N_read 162 = .ok (.iconst 1, 1) := by decide +kernel
theorem d_N_read_163 : decode c_N_read 163 = .ok (.goto 4, 3) := by decide +kernel
theorem d_N_read_166 : decode c_N_read 166 = .ok (.iconst 0, 1) := by decide +kernel
theorem d_N_read_167 : decode c_N_read 167 = .ok (.istore_n 3, 1) := by decide +kernel
theorem d_N_read_168 : decode c_N_read 168 = .ok (.iload_n 3, 1) := by decide +kernel
theorem d_N_read_169 : decode c_N_read 169 = .ok (.ifCond .eq 20, 3) := by decide +kernel
theorem d_N_read_172 : decode c_N_read 172 = .ok (.aload_n 0, 1) := by decide +kernel
theorem d_N_read_173 : decode c_N_read 173 = .ok (.getfield 37, 3) := by decide +kernel
theorem d_N_read_176 : decode c_N_read 176 = .ok (.iload_n 2, 1) := by decide +kernel
theorem d_N_read_177 : decode c_N_read 177 = .ok (.iaload, 1) := by decide +kernel
theorem d_N_read_178 : decode c_N_read 178 = .ok (.ifCond .lt 11, 3) := by decide +kernel
theorem d_N_read_181 : decode c_N_read 181 = .ok (.aload_n 0, 1) := by decide +kernel
theorem d_N_read_182 : decode c_N_read 182 = .ok (.iload_n 2, 1) := by decide +kernel
theorem d_N_read_183 : decode c_N_read 183 = .ok (.invokevirtual 107, 3) := by decide +kernel
theorem d_N_read_186 : decode c_N_read 186 = .ok (.goto 45, 3) := by decide +kernel
theorem d_N_read_189 : decode c_N_read 189 = .ok (.iload_n 3, 1) := by decide +kernel
theorem d_N_read_190 : decode c_N_read 190 = .ok (.ifCond .eq 11, 3) := by decide +kernel
theorem d_N_read_193 : decode c_N_read 193 = .ok (.aload_n 0, 1) := by decide +kernel
theorem d_N_read_194 : decode c_N_read 194 = .ok (.iload_n 2, 1) := by decide +kernel
theorem d_N_read_195 : decode c_N_read 195 = .ok (.invokevirtual 103, 3) := by decide +kernel
theorem d_N_read_198 : decode c_N_read 198 = .ok (.goto 33, 3) := by decide +kernel
theorem d_N_read_201 : decode c_N_read 201 = .ok (.aload_n 0, 1) := by decide +kernel
theorem d_N_read_202 : decode c_N_read 202 = .ok (.iconst 5, 1) := by decide +kernel
theorem d_N_read_203 : decode c_N_read 203 = .ok (.iload_n 2, 1) := by decide +kernel
theorem d_N_read_204 : decode c_N_read 204 = .ok (.aload_n 0, 1) := by decide +kernel
theorem d_N_read_205 : decode c_N_read 205 = .ok (.getfield 13, 3) := by decide +kernel
theorem d_N_read_208 : decode c_N_read 208 = .ok (.iload_n 2, 1) := by decide +kernel
theorem d_N_read_209 : decode c_N_read 209 = .ok (.iaload, 1) := by decide +kernel
theorem d_N_read_210 : decode c_N_read 210 = .ok (.aload_n 0, 1) := by decide +kernel
theorem d_N_read_211 : decode c_N_read 211 = .ok (.getfield 7, 3) := by decide +kernel
theorem d_N_read_214 : decode c_N_read 214 = .ok (.iload_n 2, 1) := by decide +kernel
theorem d_N_read_215 : decode c_N_read 215 = .ok (.iaload, 1) := by decide +kernel
theorem d_N_read_216 : decode c_N_read 216 = .ok (.aload_n 0, 1) := by decide +kernel
theorem d_N_read_217 : decode c_N_read 217 = .ok (.getfield 61, 3) := by decide +kernel
theorem d_N_read_220 : decode c_N_read 220 = .ok (.iload_n 2, 1) := by decide +kernel
theorem d_N_read_221 : decode c_N_read 221 = .ok (.iaload, 1) := by decide +kernel
theorem d_N_read_222 : decode c_N_read 222 = .ok (.aload_n 0, 1) := by decide +kernel
theorem d_N_read_223 : decode c_N_read 223 = .ok (.getfield 64, 3) := by decide +kernel
theorem d_N_read_226 : decode c_N_read 226 = .ok (.iload_n 2, 1) := by decide +kernel
theorem d_N_read_227 : decode c_N_read 227 = .ok (.iaload, 1) := by decide +kernel
theorem d_N_read_228 : decode c_N_read 228 = .ok (.invokevirtual 96, 3) := by decide +kernel
theorem d_N_read_231 : decode c_N_read 231 = .ok (.return_, 1) := by decide +kernel
theorem d_N_isWaiting_0 : decode c_N_isWaiting 0 = .ok (.aload_n 0, 1) := by decide +kernel
theorem d_N_isWaiting_1 : decode c_N_isWaiting 1 = .ok (.getfield 40, 3) := by decide +kernel
theorem d_N_isWaiting_4 : decode c_N_isWaiting 4 = .ok (.iload_n 1, 1) := by decide +kernel
theorem d_N_isWaiting_5 : decode c_N_isWaiting 5 = .ok (.iaload, 1) := by decide +kernel
theorem d_N_isWaiting_6 : decode c_N_isWaiting 6 = .ok (.iconst 1, 1) := by decide +kernel
theorem d_N_isWaiting_7 : decode c_N_isWaiting 7 = .ok (.if_icmp .eq 13, 3) := by decide +kernel
theorem d_N_isWaiting_10 : decode c_N_isWaiting 10 = .ok (.aload_n 0, 1) := by decide +kernel
theorem d_N_isWaiting_11 : decode c_N_isWaiting 11 = .ok (.getfield 40, 3) := by decide +kernel
theorem d_N_isWaiting_14 : decode c_N_isWaiting 14 = .ok (.iload_n 1, 1) := by decide +kernel
theorem d_N_isWaiting_15 : decode c_N_isWaiting 15 = .ok (.iaload, 1) := by decide +kernel
theorem d_N_isWaiting_16 : decode c_N_isWaiting 16 = .ok (.iconst 4, 1) := by decide +kernel
theorem d_N_isWaiting_17 : decode c_N_isWaiting 17 = .ok (.if_icmp .ne 7, 3) := by decide +kernel
theorem d_N_isWaiting_20 : decode c_N_isWaiting 20 = .ok (.iconst 1, 1) := by decide +kernel
theorem d_N_isWaiting_21 : decode c_N_isWaiting 21 = .ok (.goto 4, 3) := by decide +kernel
theorem d_N_isWaiting_24 : decode c_N_isWaiting 24 = .ok (.iconst 0, 1) := by decide +kernel
theorem d_N_isWaiting_25 : decode c_N_isWaiting 25 = .ok (.ireturn, 1) := by decide +kernel
theorem d_N_readResult_0 : decode c_N_readResult 0 = .ok (.aload_n 0, 1) := by decide +kernel
theorem d_N_readResult_1 : decode c_N_readResult 1 = .ok (.getfield 58, 3) := by decide +kernel
theorem d_N_readResult_4 : decode c_N_readResult 4 = .ok (.iload_n 1, 1) := by decide +kernel
theorem d_N_readResult_5 : decode c_N_readResult 5 = .ok (.iload_n 2, 1) := by decide +kernel
theorem d_N_readResult_6 : decode c_N_readResult 6 = .ok (.iastore, 1) := by decide +kernel
theorem d_N_readResult_7 : decode c_N_readResult 7 = .ok (.aload_n 0, 1) := by decide +kernel
theorem d_N_readResult_8 : decode c_N_readResult 8 = .ok (.getfield 52, 3) := by decide +kernel
theorem d_N_readResult_11 : decode c_N_readResult 11 = .ok (.iload_n 1, 1) := by decide +kernel
theorem d_N_readResult_12 : decode c_N_readResult 12 = .ok (.iload_n 3, 1) := by decide +kernel
theorem d_N_readResult_13 : decode c_N_readResult 13 = .ok (.iastore, 1) := by decide +kernel
theorem d_N_readResult_14 : decode c_N_readResult 14 = .ok (.aload_n 0, 1) := by decide +kernel
theorem d_N_readResult_15 : decode c_N_readResult 15 = .ok (.getfield 40, 3) := by decide +kernel
theorem d_N_readResult_18 : decode c_N_readResult 18 = .ok (.iload_n 1, 1) := by decide +kernel
theorem d_N_readResult_19 : decode c_N_readResult 19 = .ok (.iaload, 1) := by decide +kernel
theorem d_N_readResult_20 : decode c_N_readResult 20 = .ok (.iconst 4, 1) := by decide +kernel
theorem d_N_readResult_21 : decode c_N_readResult 21 = .ok (.if_icmp .le 4, 3) := by decide +kernel
theorem d_N_readResult_24 : decode c_N_readResult 24 = .ok (.return_, 1) := by decide +kernel
theorem d_N_readResult_25 : decode c_N_readResult 25 = .ok (.iload_n 2, 1) := by decide +kernel
theorem d_N_readResult_26 : decode c_N_readResult 26 = .ok (.aload_n 0, 1) := by decide +kernel
theorem d_N_readResult_27 : decode c_N_readResult 27 = .ok (.getfield 22, 3) := by decide +kernel
theorem d_N_readResult_30 : decode c_N_readResult 30 = .ok (.iload_n 1, 1) := by decide +kernel
theorem d_N_readResult_31 : decode c_N_readResult 31 = .ok (.iaload, 1) := by decide +kernel
theorem d_N_readResult_32 : decode c_N_readResult 32 = .ok (.if_icmp .ge 7, 3) := by decide +kernel
theorem d_N_readResult_35 : decode c_N_readResult 35 = .ok (.iload_n 2, 1) := by decide +kernel
theorem d_N_readResult_36 : decode c_N_readResult 36 = .ok (.goto 9, 3) := by decide +kernel
theorem d_N_readResult_39 : decode c_N_readResult 39 = .ok (.aload_n 0, 1) := by decide +kernel
theorem d_N_readResult_40 : decode c_N_readResult 40 = .ok (.getfield 22, 3) := by decide +kernel
theorem d_N_readResult_43 : decode c_N_readResult 43 = .ok (.iload_n 1, 1) := by decide +kernel
theorem d_N_readResult_44 : decode c_N_readResult 44 = .ok (.iaload, 1) := by decide +kernel
theorem d_N_readResult_45 : decode c_N_readResult 45 = .ok (.istore 4, 2) := by decide +kernel
theorem d_N_readResult_47 : decode c_N_readResult 47 = .ok (.aload_n 0, 1) := by decide +kernel
theorem d_N_readResult_48 : decode c_N_readResult 48 = .ok (.getfield 43, 3) := by decide +kernel
theorem d_N_readResult_51 : decode c_N_readResult 51 = .ok (.iload_n 1, 1) := by decide +kernel
theorem d_N_readResult_52 : decode c_N_readResult 52 = .ok (.aload_n 0, 1) := by decide +kernel
theorem d_N_readResult_53 : decode c_N_readResult 53 = .ok (.getfield 43, 3) := by decide +kernel
theorem d_N_readResult_56 : decode c_N_readResult 56 = .ok (.iload_n 1, 1) := by decide +kernel
theorem d_N_readResult_57 : decode c_N_readResult 57 = .ok (.iaload, 1) := by decide +kernel
theorem d_N_readResult_58 : decode c_N_readResult 58 = .ok (.iload 4, 2) := by decide +kernel
theorem d_N_readResult_60 : decode c_N_readResult 60 = .ok (.if_icmp .ge 8, 3) := by decide +kernel
theorem d_N_readResult_63 : decode c_N_readResult 63 = .ok (.iload 4, 2) := by decide +kernel
theorem d_N_readResult_65 : decode c_N_readResult 65 = .ok (.goto 9, 3) := by decide +kernel
theorem d_N_readResult_68 : decode c_N_readResult 68 = .ok (.aload_n 0, 1) := by decide +kernel
theorem d_N_readResult_69 : decode c_N_readResult 69 = .ok (.getfield 43, 3) := by decide +kernel
theorem d_N_readResult_72 : decode c_N_readResult 72 = .ok (.iload_n 1, 1) := by decide +kernel
theorem d_N_readResult_73 : decode c_N_readResult 73 = .ok (.iaload, 1) := by decide +kernel
theorem d_N_readResult_74 : decode c_N_readResult 74 = .ok (.iastore, 1) := by decide +kernel
theorem d_N_readResult_75 : decode c_N_readResult 75 = .ok (.aload_n 0, 1) := by decide +kernel
theorem d_N_readResult_76 : decode c_N_readResult 76 = .ok (.getfield 40, 3) := by decide +kernel
theorem d_N_readResult_79 : decode c_N_readResult 79 = .ok (.iload_n 1, 1) := by decide +kernel
theorem d_N_readResult_80 : decode c_N_readResult 80 = .ok (.iload_n 3, 1) := by decide +kernel
theorem d_N_readResult_81 : decode c_N_readResult 81 = .ok (.aload_n 0, 1) := by decide +kernel
theorem d_N_readResult_82 : decode c_N_readResult 82 = .ok (.getfield 19, 3) := by decide +kernel
theorem d_N_readResult_85 : decode c_N_readResult 85 = .ok (.iload_n 1, 1) := by decide +kernel
theorem d_N_readResult_86 : decode c_N_readResult 86 = .ok (.iaload, 1) := by decide +kernel
theorem d_N_readResult_87 : decode c_N_readResult 87 = .ok (.if_icmp .ne 18, 3) := by decide +kernel
theorem d_N_readResult_90 : decode c_N_readResult 90 = .ok (.iload_n 2, 1) := by decide +kernel
theorem d_N_readResult_91 : decode c_N_readResult 91 = .ok (.aload_n 0, 1) := by decide +kernel
theorem d_N_readResult_92 : decode c_N_readResult 92 = .ok (.getfield 22, 3) := by decide +kernel
theorem d_N_readResult_95 : decode c_N_readResult 95 = .ok (.iload_n 1, 1) := by decide +kernel
theorem d_N_readResult_96 : decode c_N_readResult 96 = .ok (.iaload, 1) := by decide +kernel
theorem d_N_readResult_97 : decode c_N_readResult 97 = .ok (.if_icmp .ne 8, 3) := by decide +kernel
theorem d_N_readResult_100 : decode c_N_readResult 100 = .ok (.bipush 6, 2) := by decide +kernel
theorem d_N_readResult_102 : decode c_N_readResult 102 = .ok (.goto 4, 3) := by decide +kernel
theorem d_N_readResult_105 : decode c_N_readResult 105 = .ok (.iconst 3, 1) := by decide +kernel
theorem d_N_readResult_106 : decode c_N_readResult 106 = .ok (.iastore, 1) := by decide +kernel
theorem d_N_readResult_107 : decode c_N_readResult 107 = .ok (.return_, 1) := by decide +kernel
theorem d_N_lose_0 : decode c_N_lose 0 = .ok (.aload_n 0, 1) := by decide +kernel
theorem d_N_lose_1 : decode c_N_lose 1 = .ok (.iconst 0, 1) := by decide +kernel
theorem d_N_lose_2 : decode c_N_lose 2 = .ok (.putfield 74, 3) := by decide +kernel
theorem d_N_lose_5 : decode c_N_lose 5 = .ok (.iload_n 1, 1) := by decide +kernel
theorem d_N_lose_6 : decode c_N_lose 6 = .ok (.ifCond .lt 26, 3) := by decide +kernel
theorem d_N_lose_9 : decode c_N_lose 9 = .ok (.iload_n 1, 1) := by decide +kernel
theorem d_N_lose_10 : decode c_N_lose 10 = .ok (.aload_n 0, 1) := by decide +kernel
theorem d_N_lose_11 : decode c_N_lose 11 = .ok (.getfield 80, 3) := by decide +kernel
theorem d_N_lose_14 : decode c_N_lose 14 = .ok (.if_icmp .ge 18, 3) := by decide +kernel
theorem d_N_lose_17 : decode c_N_lose 17 = .ok (.aload_n 0, 1) := by decide +kernel
theorem d_N_lose_18 : decode c_N_lose 18 = .ok (.getfield 67, 3) := by decide +kernel
theorem d_N_lose_21 : decode c_N_lose 21 = .ok (.bipush 7, 2) := by decide +kernel
theorem d_N_lose_23 : decode c_N_lose 23 = .ok (.iload_n 1, 1) := by decide +kernel
theorem d_N_lose_24 : decode c_N_lose 24 = .ok (.imul, 1) := by decide +kernel
theorem d_N_lose_25 : decode c_N_lose 25 = .ok (.bipush 6, 2) := by decide +kernel
theorem d_N_lose_27 : decode c_N_lose 27 = .ok (.iadd, 1) := by decide +kernel
theorem d_N_lose_28 : decode c_N_lose 28 = .ok (.iaload, 1) := by decide +kernel
theorem d_N_lose_29 : decode c_N_lose 29 = .ok (.ifCond .eq 5, 3) := by decide +kernel
theorem d_N_lose_32 : decode c_N_lose 32 = .ok (.iconst 0, 1) := by decide +kernel
theorem d_N_lose_33 : decode c_N_lose 33 = .ok (.ireturn, 1) := by decide +kernel
theorem d_N_lose_34 : decode c_N_lose 34 = .ok (.aload_n 0, 1) := by decide +kernel
theorem d_N_lose_35 : decode c_N_lose 35 = .ok (.getfield 67, 3) := by decide +kernel
theorem d_N_lose_38 : decode c_N_lose 38 = .ok (.bipush 7, 2) := by decide +kernel
theorem d_N_lose_40 : decode c_N_lose 40 = .ok (.iload_n 1, 1) := by decide +kernel
theorem d_N_lose_41 : decode c_N_lose 41 = .ok (.imul, 1) := by decide +kernel
theorem d_N_lose_42 : decode c_N_lose 42 = .ok (.bipush 6, 2) := by decide +kernel
theorem d_N_lose_44 : decode c_N_lose 44 = .ok (.iadd, 1) := by decide +kernel
theorem d_N_lose_45 : decode c_N_lose 45 = .ok (.iconst 2, 1) := by decide +kernel
theorem d_N_lose_46 : decode c_N_lose 46 = .ok (.iastore, 1) := by decide +kernel
theorem d_N_lose_47 : decode c_N_lose 47 = .ok (.iconst 1, 1) := by decide +kernel
theorem d_N_lose_48 : decode c_N_lose 48 = .ok (.ireturn, 1) := by decide +kernel
theorem d_N_tick_0 : decode c_N_tick 0 = .ok (.aload_n 0, 1) := by decide +kernel
theorem d_N_tick_1 : decode c_N_tick 1 = .ok (.iload_n 1, 1) := by decide +kernel
theorem d_N_tick_2 : decode c_N_tick 2 = .ok (.aload_n 0, 1) := by decide +kernel
theorem d_N_tick_3 : decode c_N_tick 3 = .ok (.getfield 87, 3) := by decide +kernel
theorem d_N_tick_6 : decode c_N_tick 6 = .ok (.sipush 10000, 3) := by decide +kernel
theorem d_N_tick_9 : decode c_N_tick 9 = .ok (.invokestatic 90, 3) := by decide +kernel
theorem d_N_tick_12 : decode c_N_tick 12 = .ok (.ifCond .eq 7, 3) := by decide +kernel
theorem d_N_tick_15 : decode c_N_tick 15 = .ok (.iconst 0, 1) := by decide +kernel
theorem d_N_tick_16 : decode c_N_tick 16 = .ok (.goto 4, 3) := by decide +kernel
theorem d_N_tick_19 : decode c_N_tick 19 = .ok (.iconst 1, 1) := by decide +kernel
theorem d_N_tick_20 : decode c_N_tick 20 = .ok (.putfield 74, 3) := by decide +kernel
theorem d_N_tick_23 : decode c_N_tick 23 = .ok (.aload_n 0, 1) := by decide +kernel
theorem d_N_tick_24 : decode c_N_tick 24 = .ok (.getfield 74, 3) := by decide +kernel
theorem d_N_tick_27 : decode c_N_tick 27 = .ok (.ifCond .le 5, 3) := by decide +kernel
theorem d_N_tick_30 : decode c_N_tick 30 = .ok (.iconst 0, 1) := by decide +kernel
theorem d_N_tick_31 : decode c_N_tick 31 = .ok (.ireturn, 1) := by decide +kernel
theorem d_N_tick_32 : decode c_N_tick 32 = .ok (.iconst 0, 1) := by decide +kernel
theorem d_N_tick_33 : decode c_N_tick 33 = .ok (.istore_n 2, 1) := by decide +kernel
theorem d_N_tick_34 : decode c_N_tick 34 = .ok (.aload_n 0, 1) := by decide +kernel
theorem d_N_tick_35 : decode c_N_tick 35 = .ok (.getfield 87, 3) := by decide +kernel
theorem d_N_tick_38 : decode c_N_tick 38 = .ok (.iconst 1, 1) := by decide +kernel
theorem d_N_tick_39 : decode c_N_tick 39 = .ok (.iadd, 1) := by decide +kernel
theorem d_N_tick_40 : decode c_N_tick 40 = .ok (.istore_n 3, 1) := by decide +kernel
theorem d_N_tick_41 : decode c_N_tick 41 = .ok (.iload_n 3, 1) := by decide +kernel
theorem d_N_tick_42 : decode c_N_tick 42 = .ok (.iload_n 1, 1) := by decide +kernel
theorem d_N_tick_43 : decode c_N_tick 43 = .ok (.if_icmp .gt 213, 3) := by decide +kernel
theorem d_N_tick_46 : decode c_N_tick 46 = .ok (.iconst 0, 1) := by decide +kernel
theorem d_N_tick_47 : decode c_N_tick 47 = .ok (.istore 4, 2) := by decide +kernel
theorem d_N_tick_49 : decode c_N_tick 49 = .ok (.iload 4, 2) := by decide +kernel
theorem d_N_tick_51 : decode c_N_tick 51 = .ok (.aload_n 0, 1) := by decide +kernel
theorem d_N_tick_52 : decode c_N_tick 52 = .ok (.getfield 77, 3) := by decide +kernel
theorem d_N_tick_55 : decode c_N_tick 55 = .ok (.if_icmp .ge 195, 3) := by decide +kernel
theorem d_N_tick_58 : decode c_N_tick 58 = .ok (.iload_n 3, 1) := by decide +kernel
theorem d_N_tick_59 : decode c_N_tick 59 = .ok (.aload_n 0, 1) := by decide +kernel
theorem d_N_tick_60 : decode c_N_tick 60 = .ok (.getfield 16, 3) := by decide +kernel
theorem d_N_tick_63 : decode c_N_tick 63 = .ok (.iload 4, 2) := by decide +kernel
theorem d_N_tick_65 : decode c_N_tick 65 = .ok (.iaload, 1) := by decide +kernel
theorem d_N_tick_66 : decode c_N_tick 66 = .ok (.isub, 1) := by decide +kernel
theorem d_N_tick_67 : decode c_N_tick 67 = .ok (.istore 5, 2) := by decide +kernel
theorem d_N_tick_69 : decode c_N_tick 69 = .ok (.aload_n 0, 1) := by decide +kernel
theorem d_N_tick_70 : decode c_N_tick 70 = .ok (.iload 4, 2) := by decide +kernel
theorem d_N_tick_72 : decode c_N_tick 72 = .ok (.invokevirtual 110, 3) := by decide +kernel
theorem d_N_tick_75 : decode c_N_tick 75 = .ok (.ifCond .eq 75, 3) := by decide +kernel
theorem d_N_tick_78 : decode c_N_tick 78 = .ok (.iload 5, 2) := by decide +kernel
theorem d_N_tick_80 : decode c_N_tick 80 = .ok (.bipush 10, 2) := by decide +kernel
theorem d_N_tick_82 : decode c_N_tick 82 = .ok (.if_icmp .eq 17, 3) := by decide +kernel
theorem d_N_tick_85 : decode c_N_tick 85 = .ok (.iload 5, 2) := by decide +kernel
theorem d_N_tick_87 : decode c_N_tick 87 = .ok (.bipush 15, 2) := by decide +kernel
theorem d_N_tick_89 : decode c_N_tick 89 = .ok (.if_icmp .eq 10, 3) := by decide +kernel
theorem d_N_tick_92 : decode c_N_tick 92 = .ok (.iload 5, 2) := by decide +kernel
theorem d_N_tick_94 : decode c_N_tick 94 = .ok (.bipush 20, 2) := by decide +kernel
theorem d_N_tick_96 : decode c_N_tick 96 = .ok (.if_icmp .ne 54, 3) := by decide +kernel
theorem d_N_tick_99 : decode c_N_tick 99 = .ok (.aload_n 0, 1) := by decide +kernel
theorem d_N_tick_100 : decode c_N_tick 100 = .ok (.getfield 49, 3) := by decide +kernel
theorem d_N_tick_103 : decode c_N_tick 103 = .ok (.iload 4, 2) := by decide +kernel
theorem d_N_tick_105 : decode c_N_tick 105 = .ok (.dup2, 1) := by decide +kernel
theorem d_N_tick_106 : decode c_N_tick 106 = .ok (.iaload, 1) := by decide +kernel
theorem d_N_tick_107 : decode c_N_tick 107 = .ok (.iconst 1, 1) := by decide +kernel
theorem d_N_tick_108 : decode c_N_tick 108 = .ok (.iadd, 1) := by decide +kernel
theorem d_N_tick_109 : decode c_N_tick 109 = .ok (.iastore, 1) := by decide +kernel
theorem d_N_tick_110 : decode c_N_tick 110 = .ok (.aload_n 0, 1) := by decide +kernel
theorem d_N_tick_111 : decode c_N_tick 111 = .ok (.getfield 40, 3) := by decide +kernel
theorem d_N_tick_114 : decode c_N_tick 114 = .ok (.iload 4, 2) := by decide +kernel
theorem d_N_tick_116 : decode c_N_tick 116 = .ok (.iconst 4, 1) := by decide +kernel
theorem d_N_tick_117 : decode c_N_tick 117 = .ok (.iastore, 1) := by decide +kernel
theorem d_N_tick_118 : decode c_N_tick 118 = .ok (.aload_n 0, 1) := by decide +kernel
theorem d_N_tick_119 : decode c_N_tick 119 = .ok (.iconst 4, 1) := by decide +kernel
theorem d_N_tick_120 : decode c_N_tick 120 = .ok (.iload 4, 2) := by decide +kernel
theorem d_N_tick_122 : decode c_N_tick 122 = .ok (.aload_n 0, 1) := by decide +kernel
theorem d_N_tick_123 : decode c_N_tick 123 = .ok (.getfield 7, 3) := by decide +kernel
theorem d_N_tick_126 : decode c_N_tick 126 = .ok (.iload 4, 2) := by decide +kernel
theorem d_N_tick_128 : decode c_N_tick 128 = .ok (.iaload, 1) := by decide +kernel
theorem d_N_tick_129 : decode c_N_tick 129 = .ok (.aload_n 0, 1) := by decide +kernel
theorem d_N_tick_130 : decode c_N_tick 130 = .ok (.getfield 13, 3) := by decide +kernel
theorem d_N_tick_133 : decode c_N_tick 133 = .ok (.iload 4, 2) := by decide +kernel
theorem d_N_tick_135 : decode c_N_tick 135 = .ok (.iaload, 1) := by decide +kernel
theorem d_N_tick_136 : decode c_N_tick 136 = .ok (.aload_n 0, 1) := by decide +kernel
theorem d_N_tick_137 : decode c_N_tick 137 = .ok (.getfield 49, 3) := by decide +kernel
theorem d_N_tick_140 : decode c_N_tick 140 = .ok (.iload 4, 2) := by decide +kernel
theorem d_N_tick_142 : decode c_N_tick 142 = .ok (.iaload, 1) := by decide +kernel
theorem d_N_tick_143 : decode c_N_tick 143 = .ok (.iconst 0, 1) := by decide +kernel
theorem d_N_tick_144 : decode c_N_tick 144 = .ok (.invokevirtual 96, 3) := by decide +kernel
theorem d_N_tick_147 : decode c_N_tick 147 = .ok (.iinc 2 1, 3) := by decide +kernel
theorem d_N_tick_150 : decode c_N_tick 150 = .ok (.aload_n 0, 1) := by decide +kernel
theorem d_N_tick_151 : decode c_N_tick 151 = .ok (.getfield 40, 3) := by decide +kernel
theorem d_N_tick_154 : decode c_N_tick 154 = .ok (.iload 4, 2) := by decide +kernel
theorem d_N_tick_156 : decode c_N_tick 156 = .ok (.iaload, 1) := by decide +kernel
theorem d_N_tick_157 : decode c_N_tick 157 = .ok (.iconst 5, 1) := by decide +kernel
theorem d_N_tick_158 : decode c_N_tick 158 = .ok (.if_icmp .ge 86, 3) := by decide +kernel
theorem d_N_tick_161 : decode c_N_tick 161 = .ok (.iload 5, 2) := by decide +kernel
theorem d_N_tick_163 : decode c_N_tick 163 = .ok (.bipush 40, 2) := by decide +kernel
theorem d_N_tick_165 : decode c_N_tick 165 = .ok (.if_icmp .ne 79, 3) := by decide +kernel
theorem d_N_tick_168 : decode c_N_tick 168 = .ok (.aload_n 0, 1) := by decide +kernel
theorem d_N_tick_169 : decode c_N_tick 169 = .ok (.getfield 40, 3) := by decide +kernel
theorem d_N_tick_172 : decode c_N_tick 172 = .ok (.iload 4, 2) := by decide +kernel
theorem d_N_tick_174 : decode c_N_tick 174 = .ok (.iconst 5, 1) := by decide +kernel
theorem d_N_tick_175 : decode c_N_tick 175 = .ok (.iastore, 1) := by decide +kernel
theorem d_N_tick_176 : decode c_N_tick 176 = .ok (.aload_n 0, 1) := by decide +kernel
theorem d_N_tick_177 : decode c_N_tick 177 = .ok (.getfield 25, 3) := by decide +kernel
theorem d_N_tick_180 : decode c_N_tick 180 = .ok (.iload 4, 2) := by decide +kernel
theorem d_N_tick_182 : decode c_N_tick 182 = .ok (.iaload, 1) := by decide +kernel
theorem d_N_tick_183 : decode c_N_tick 183 = .ok (.i2l, 1) := by decide +kernel
theorem d_N_tick_184 : decode c_N_tick 184 = .ok (.aload_n 0, 1) := by decide +kernel
theorem d_N_tick_185 : decode c_N_tick 185 = .ok (.getfield 22, 3) := by decide +kernel
theorem d_N_tick_188 : decode c_N_tick 188 = .ok (.iload 4, 2) := by decide +kernel
theorem d_N_tick_190 : decode c_N_tick 190 = .ok (.iaload, 1) := by decide +kernel
theorem d_N_tick_191 : decode c_N_tick 191 = .ok (.aload_n 0, 1) := by decide +kernel
theorem d_N_tick_192 : decode c_N_tick 192 = .ok (.getfield 43, 3) := by decide +kernel
theorem d_N_tick_195 : decode c_N_tick 195 = .ok (.iload 4, 2) := by decide +kernel
theorem d_N_tick_197 : decode c_N_tick 197 = .ok (.iaload, 1) := by decide +kernel
theorem d_N_tick_198 : decode c_N_tick 198 = .ok (.isub, 1) := by decide +kernel
theorem d_N_tick_199 : decode c_N_tick 199 = .ok (.i2l, 1) := by decide +kernel
theorem d_N_tick_200 : decode c_N_tick 200 = .ok (.lmul, 1) := by decide +kernel
theorem d_N_tick_201 : decode c_N_tick 201 = .ok (.lstore 6, 2) := by decide +kernel
theorem d_N_tick_203 : decode c_N_tick 203 = .ok (.aload_n 0, 1) := by decide +kernel
theorem d_N_tick_204 : decode c_N_tick 204 = .ok (.getfield 46, 3) := by decide +kernel
theorem d_N_tick_207 : decode c_N_tick 207 = .ok (.iload 4, 2) := by decide +kernel
theorem d_N_tick_209 : decode c_N_tick 209 = .ok (.lload 6, 2) := by decide +kernel
theorem d_N_tick_211 : decode c_N_tick 211 = .ok (.aload_n 0, 1) := by decide +kernel
theorem d_N_tick_212 : decode c_N_tick 212 = .ok (.getfield 22, 3) := by decide +kernel
theorem d_N_tick_215 : decode c_N_tick 215 = .ok (.iload 4, 2) := by decide +kernel
theorem d_N_tick_217 : decode c_N_tick 217 = .ok (.iaload, 1) := by decide +kernel
theorem d_N_tick_218 : decode c_N_tick 218 = .ok (.i2l, 1) := by decide +kernel
theorem d_N_tick_219 : decode c_N_tick 219 = .ok (.ldiv, 1) := by decide +kernel
theorem d_N_tick_220 : decode c_N_tick 220 = .ok (.lload 6, 2) := by decide +kernel
theorem d_N_tick_222 : decode c_N_tick 222 = .ok (.aload_n 0, 1) := by decide +kernel
theorem d_N_tick_223 : decode c_N_tick 223 = .ok (.getfield 22, 3) := by decide +kernel
theorem d_N_tick_226 : decode c_N_tick 226 = .ok (.iload 4, 2) := by decide +kernel
theorem d_N_tick_228 : decode c_N_tick 228 = .ok (.iaload, 1) := by decide +kernel
theorem d_N_tick_229 : decode c_N_tick 229 = .ok (.i2l, 1) := by decide +kernel
theorem d_N_tick_230 : decode c_N_tick 230 = .ok (.lrem, 1) := by decide +kernel
theorem d_N_tick_231 : decode c_N_tick 231 = .ok (.lconst 0, 1) := by decide +kernel
theorem d_N_tick_232 : decode c_N_tick 232 = .ok (.lcmp, 1) := by decide +kernel
theorem d_N_tick_233 : decode c_N_tick 233 = .ok (.ifCond .le 7, 3) := by decide +kernel
theorem d_N_tick_236 : decode c_N_tick 236 = .ok (.lconst 1, 1) := by decide +kernel
theorem d_N_tick_237 : decode c_N_tick 237 = .ok (.goto 4, 3) := by decide +kernel
theorem d_N_tick_240 : decode c_N_tick 240 = .ok (.lconst 0, 1) := by decide +kernel
theorem d_N_tick_241 : decode c_N_tick 241 = .ok (.ladd, 1) := by decide +kernel
theorem d_N_tick_242 : decode c_N_tick 242 = .ok (.l2i, 1) := by decide +kernel
theorem d_N_tick_243 : decode c_N_tick 243 = .ok (.iastore, 1) := by decide +kernel
theorem d_N_tick_244 : decode c_N_tick 244 = .ok (.iinc 4 1, 3) := by decide +kernel
theorem d_N_tick_247 : decode c_N_tick 247 = .ok (.goto (-198), 3) := by decide +kernel
theorem d_N_tick_250 : decode c_N_tick 250 = .ok (.iinc 3 1, 3) := by decide +kernel
theorem d_N_tick_253 : decode c_N_tick 253 = .ok (.goto (-212), 3) := by decide +kernel
theorem d_N_tick_256 : decode c_N_tick 256 = .ok (.aload_n 0, 1) := by decide +kernel
theorem d_N_tick_257 : decode c_N_tick 257 = .ok (.iload_n 1, 1) := by decide +kernel
theorem d_N_tick_258 : decode c_N_tick 258 = .ok (.putfield 87, 3) := by decide +kernel
theorem d_N_tick_261 : decode c_N_tick 261 = .ok (.iload_n 2, 1) := by decide +kernel
theorem d_N_tick_262 : decode c_N_tick 262 = .ok (.ireturn, 1) := by decide +kernel
theorem d_N_discharge_0 : decode c_N_discharge 0 = .ok (.aload_n 0, 1) := by decide +kernel
theorem d_N_discharge_1 : decode c_N_discharge 1 = .ok (.aload_n 0, 1) := by decide +kernel
theorem d_N_discharge_2 : decode c_N_discharge 2 = .ok (.iload_n 1, 1) := by decide +kernel
theorem d_N_discharge_3 : decode c_N_discharge 3 = .ok (.invokevirtual 100, 3) := by decide +kernel
theorem d_N_discharge_6 : decode c_N_discharge 6 = .ok (.ifCond .eq 12, 3) := by decide +kernel
theorem d_N_discharge_9 : decode c_N_discharge 9 = .ok (.iload_n 2, 1) := by decide +kernel
theorem d_N_discharge_10 : decode c_N_discharge 10 = .ok (.iconst 1, 1) := by decide +kernel
theorem d_N_discharge_11 : decode c_N_discharge 11 = .ok (.if_icmp .lt 7, 3) := by decide +kernel
theorem d_N_discharge_14 : decode c_N_discharge 14 = .ok (.iconst 0, 1) := by decide +kernel
theorem d_N_discharge_15 : decode c_N_discharge 15 = .ok (.goto 4, 3) := by decide +kernel
theorem d_N_discharge_18 : decode c_N_discharge 18 = .ok (.iconst 1, 1) := by decide +kernel
theorem d_N_discharge_19 : decode c_N_discharge 19 = .ok (.putfield 74, 3) := by decide +kernel
theorem d_N_discharge_22 : decode c_N_discharge 22 = .ok (.aload_n 0, 1) := by decide +kernel
theorem d_N_discharge_23 : decode c_N_discharge 23 = .ok (.getfield 74, 3) := by decide +kernel
theorem d_N_discharge_26 : decode c_N_discharge 26 = .ok (.ifCond .le 5, 3) := by decide +kernel
theorem d_N_discharge_29 : decode c_N_discharge 29 = .ok (.iconst 0, 1) := by decide +kernel
theorem d_N_discharge_30 : decode c_N_discharge 30 = .ok (.ireturn, 1) := by decide +kernel
theorem d_N_discharge_31 : decode c_N_discharge 31 = .ok (.aload_n 0, 1) := by decide +kernel
theorem d_N_discharge_32 : decode c_N_discharge 32 = .ok (.getfield 40, 3) := by decide +kernel
theorem d_N_discharge_35 : decode c_N_discharge 35 = .ok (.iload_n 1, 1) := by decide +kernel
theorem d_N_discharge_36 : decode c_N_discharge 36 = .ok (.iaload, 1) := by decide +kernel
theorem d_N_discharge_37 : decode c_N_discharge 37 = .ok (.iconst 3, 1) := by decide +kernel
theorem d_N_discharge_38 : decode c_N_discharge 38 = .ok (.if_icmp .ne 20, 3) := by decide +kernel
theorem d_N_discharge_41 : decode c_N_discharge 41 = .ok (.iload_n 2, 1) := by decide +kernel
theorem d_N_discharge_42 : decode c_N_discharge 42 = .ok (.aload_n 0, 1) := by decide +kernel
theorem d_N_discharge_43 : decode c_N_discharge 43 = .ok (.getfield 22, 3) := by decide +kernel
theorem d_N_discharge_46 : decode c_N_discharge 46 = .ok (.iload_n 1, 1) := by decide +kernel
theorem d_N_discharge_47 : decode c_N_discharge 47 = .ok (.iaload, 1) := by decide +kernel
theorem d_N_discharge_48 : decode c_N_discharge 48 = .ok (.aload_n 0, 1) := by decide +kernel
theorem d_N_discharge_49 : decode c_N_discharge 49 = .ok (.getfield 43, 3) := by decide +kernel
theorem d_N_discharge_52 : decode c_N_discharge 52 = .ok (.iload_n 1, 1) := by decide +kernel
theorem d_N_discharge_53 : decode c_N_discharge 53 = .ok (.iaload, 1) := by decide +kernel
theorem d_N_discharge_54 : decode c_N_discharge 54 = .ok (.isub, 1) := by decide +kernel
theorem d_N_discharge_55 : decode c_N_discharge 55 = .ok (.if_icmp .le 5, 3) := by decide +kernel
theorem d_N_discharge_58 : decode c_N_discharge 58 = .ok (.iconst (-1), 1) := by decide +kernel
theorem d_N_discharge_59 : decode c_N_discharge 59 = .ok (.ireturn, 1) := by decide +kernel
theorem d_N_discharge_60 : decode c_N_discharge 60 = .ok (.aload_n 0, 1) := by decide +kernel
theorem d_N_discharge_61 : decode c_N_discharge 61 = .ok (.getfield 43, 3) := by decide +kernel
theorem d_N_discharge_64 : decode c_N_discharge 64 = .ok (.iload_n 1, 1) := by decide +kernel
theorem d_N_discharge_65 : decode c_N_discharge 65 = .ok (.dup2, 1) := by decide +kernel
theorem d_N_discharge_66 : decode c_N_discharge 66 = .ok (.iaload, 1) := by decide +kernel
theorem d_N_discharge_67 : decode c_N_discharge 67 = .ok (.iload_n 2, 1) := by decide +kernel
theorem d_N_discharge_68 : decode c_N_discharge 68 = .ok (.iadd, 1) := by decide +kernel
theorem d_N_discharge_69 : decode c_N_discharge 69 = .ok (.iastore, 1) := by decide +kernel
theorem d_N_discharge_70 : decode c_N_discharge 70 = .ok (.aload_n 0, 1) := by decide +kernel
theorem d_N_discharge_71 : decode c_N_discharge 71 = .ok (.getfield 40, 3) := by decide +kernel
theorem d_N_discharge_74 : decode c_N_discharge 74 = .ok (.iload_n 1, 1) := by decide +kernel
theorem d_N_discharge_75 : decode c_N_discharge 75 = .ok (.aload_n 0, 1) := by decide +kernel
theorem d_N_discharge_76 : decode c_N_discharge 76 = .ok (.getfield 43, 3) := by decide +kernel
theorem d_N_discharge_79 : decode c_N_discharge 79 = .ok (.iload_n 1, 1) := by decide +kernel
theorem d_N_discharge_80 : decode c_N_discharge 80 = .ok (.iaload, 1) := by decide +kernel
theorem d_N_discharge_81 : decode c_N_discharge 81 = .ok (.aload_n 0, 1) := by decide +kernel
theorem d_N_discharge_82 : decode c_N_discharge 82 = .ok (.getfield 22, 3) := by decide +kernel
theorem d_N_discharge_85 : decode c_N_discharge 85 = .ok (.iload_n 1, 1) := by decide +kernel
theorem d_N_discharge_86 : decode c_N_discharge 86 = .ok (.iaload, 1) := by decide +kernel
theorem d_N_discharge_87 : decode c_N_discharge 87 = .ok (.if_icmp .ne 8, 3) := by decide +kernel
theorem d_N_discharge_90 : decode c_N_discharge 90 = .ok (.bipush 6, 2) := by decide +kernel
theorem d_N_discharge_92 : decode c_N_discharge 92 = .ok (.goto 4, 3) := by decide +kernel
theorem d_N_discharge_95 : decode c_N_discharge 95 = .ok (.iconst 3, 1) := by decide +kernel
theorem d_N_discharge_96 : decode c_N_discharge 96 = .ok (.iastore, 1) := by decide +kernel
theorem d_N_discharge_97 : decode c_N_discharge 97 = .ok (.aload_n 0, 1) := by decide +kernel
theorem d_N_discharge_98 : decode c_N_discharge 98 = .ok (.getfield 22, 3) := by decide +kernel
theorem d_N_discharge_101 : decode c_N_discharge 101 = .ok (.iload_n 1, 1) := by decide +kernel
theorem d_N_discharge_102 : decode c_N_discharge 102 = .ok (.iaload, 1) := by decide +kernel
theorem d_N_discharge_103 : decode c_N_discharge 103 = .ok (.aload_n 0, 1) := by decide +kernel
theorem d_N_discharge_104 : decode c_N_discharge 104 = .ok (.getfield 43, 3) := by decide +kernel
theorem d_N_discharge_107 : decode c_N_discharge 107 = .ok (.iload_n 1, 1) := by decide +kernel
theorem d_N_discharge_108 : decode c_N_discharge 108 = .ok (.iaload, 1) := by decide +kernel
theorem d_N_discharge_109 : decode c_N_discharge 109 = .ok (.isub, 1) := by decide +kernel
theorem d_N_discharge_110 : decode c_N_discharge 110 = .ok (.ireturn, 1) := by decide +kernel
theorem d_N_proof_0 : decode c_N_proof 0 = .ok (.aload_n 0, 1) := by decide +kernel
theorem d_N_proof_1 : decode c_N_proof 1 = .ok (.aload_n 0, 1) := by decide +kernel
theorem d_N_proof_2 : decode c_N_proof 2 = .ok (.iload_n 1, 1) := by decide +kernel
theorem d_N_proof_3 : decode c_N_proof 3 = .ok (.invokevirtual 100, 3) := by decide +kernel
theorem d_N_proof_6 : decode c_N_proof 6 = .ok (.ifCond .eq 7, 3) := by decide +kernel
theorem d_N_proof_9 : decode c_N_proof 9 = .ok (.iconst 0, 1) := by decide +kernel
theorem d_N_proof_10 : decode c_N_proof 10 = .ok (.goto 4, 3) := by decide +kernel
theorem d_N_proof_13 : decode c_N_proof 13 = .ok (.iconst 1, 1) := by decide +kernel
theorem d_N_proof_14 : decode c_N_proof 14 = .ok (.putfield 74, 3) := by decide +kernel
theorem d_N_proof_17 : decode c_N_proof 17 = .ok (.aload_n 0, 1) := by decide +kernel
theorem d_N_proof_18 : decode c_N_proof 18 = .ok (.getfield 74, 3) := by decide +kernel
theorem d_N_proof_21 : decode c_N_proof 21 = .ok (.ifCond .gt 14, 3) := by decide +kernel
theorem d_N_proof_24 : decode c_N_proof 24 = .ok (.aload_n 0, 1) := by decide +kernel
theorem d_N_proof_25 : decode c_N_proof 25 = .ok (.getfield 40, 3) := by decide +kernel
theorem d_N_proof_28 : decode c_N_proof 28 = .ok (.iload_n 1, 1) := by decide +kernel
theorem d_N_proof_29 : decode c_N_proof 29 = .ok (.iaload, 1) := by decide +kernel
theorem d_N_proof_30 : decode c_N_proof 30 = .ok (.bipush 6, 2) := by decide +kernel
theorem d_N_proof_32 : decode c_N_proof 32 = .ok (.if_icmp .ne 5, 3) := by decide +kernel
theorem d_N_proof_35 : decode c_N_proof 35 = .ok (.iconst 0, 1) := by decide +kernel
theorem d_N_proof_36 : decode c_N_proof 36 = .ok (.ireturn, 1) := by decide +kernel
theorem d_N_proof_37 : decode c_N_proof 37 = .ok (.aload_n 0, 1) := by decide +kernel
theorem d_N_proof_38 : decode c_N_proof 38 = .ok (.getfield 40, 3) := by decide +kernel
theorem d_N_proof_41 : decode c_N_proof 41 = .ok (.iload_n 1, 1) := by decide +kernel
theorem d_N_proof_42 : decode c_N_proof 42 = .ok (.iaload, 1) := by decide +kernel
theorem d_N_proof_43 : decode c_N_proof 43 = .ok (.istore_n 2, 1) := by decide +kernel
theorem d_N_proof_44 : decode c_N_proof 44 = .ok (.iload_n 2, 1) := by decide +kernel
theorem d_N_proof_45 : decode c_N_proof 45 = .ok (.iconst 5, 1) := by decide +kernel
theorem d_N_proof_46 : decode c_N_proof 46 = .ok (.if_icmp .ne 21, 3) := by decide +kernel
theorem d_N_proof_49 : decode c_N_proof 49 = .ok (.aload_n 0, 1) := by decide +kernel
theorem d_N_proof_50 : decode c_N_proof 50 = .ok (.getfield 87, 3) := by decide +kernel
theorem d_N_proof_53 : decode c_N_proof 53 = .ok (.aload_n 0, 1) := by decide +kernel
theorem d_N_proof_54 : decode c_N_proof 54 = .ok (.getfield 16, 3) := by decide +kernel
theorem d_N_proof_57 : decode c_N_proof 57 = .ok (.iload_n 1, 1) := by decide +kernel
theorem d_N_proof_58 : decode c_N_proof 58 = .ok (.iaload, 1) := by decide +kernel
theorem d_N_proof_59 : decode c_N_proof 59 = .ok (.isub, 1) := by decide +kernel
theorem d_N_proof_60 : decode c_N_proof 60 = .ok (.bipush 70, 2) := by decide +kernel
theorem d_N_proof_62 : decode c_N_proof 62 = .ok (.if_icmp .le 5, 3) := by decide +kernel
theorem d_N_proof_65 : decode c_N_proof 65 = .ok (.iconst 0, 1) := by decide +kernel
theorem d_N_proof_66 : decode c_N_proof 66 = .ok (.ireturn, 1) := by decide +kernel
theorem d_N_proof_67 : decode c_N_proof 67 = .ok (.aload_n 0, 1) := by decide +kernel
theorem d_N_proof_68 : decode c_N_proof 68 = .ok (.getfield 40, 3) := by decide +kernel
theorem d_N_proof_71 : decode c_N_proof 71 = .ok (.iload_n 1, 1) := by decide +kernel
theorem d_N_proof_72 : decode c_N_proof 72 = .ok (.bipush 6, 2) := by decide +kernel
theorem d_N_proof_74 : decode c_N_proof 74 = .ok (.iastore, 1) := by decide +kernel
theorem d_N_proof_75 : decode c_N_proof 75 = .ok (.aload_n 0, 1) := by decide +kernel
theorem d_N_proof_76 : decode c_N_proof 76 = .ok (.getfield 46, 3) := by decide +kernel
theorem d_N_proof_79 : decode c_N_proof 79 = .ok (.iload_n 1, 1) := by decide +kernel
theorem d_N_proof_80 : decode c_N_proof 80 = .ok (.iconst 0, 1) := by decide +kernel
theorem d_N_proof_81 : decode c_N_proof 81 = .ok (.iastore, 1) := by decide +kernel
theorem d_N_proof_82 : decode c_N_proof 82 = .ok (.iload_n 2, 1) := by decide +kernel
theorem d_N_proof_83 : decode c_N_proof 83 = .ok (.iconst 5, 1) := by decide +kernel
theorem d_N_proof_84 : decode c_N_proof 84 = .ok (.if_icmp .ne 7, 3) := by decide +kernel
theorem d_N_proof_87 : decode c_N_proof 87 = .ok (.iconst 2, 1) := by decide +kernel
theorem d_N_proof_88 : decode c_N_proof 88 = .ok (.goto 4, 3) := by decide +kernel
theorem d_N_proof_91 : decode c_N_proof 91 = .ok (.iconst 1, 1) := by decide +kernel
theorem d_N_proof_92 : decode c_N_proof 92 = .ok (.ireturn, 1) := by decide +kernel
theorem d_N_state_0 : decode c_N_state 0 = .ok (.aload_n 0, 1) := by decide +kernel
theorem d_N_state_1 : decode c_N_state 1 = .ok (.aload_n 0, 1) := by decide +kernel
theorem d_N_state_2 : decode c_N_state 2 = .ok (.iload_n 1, 1) := by decide +kernel
theorem d_N_state_3 : decode c_N_state 3 = .ok (.invokevirtual 100, 3) := by decide +kernel
theorem d_N_state_6 : decode c_N_state 6 = .ok (.ifCond .eq 17, 3) := by decide +kernel
theorem d_N_state_9 : decode c_N_state 9 = .ok (.iload_n 2, 1) := by decide +kernel
theorem d_N_state_10 : decode c_N_state 10 = .ok (.iconst 0, 1) := by decide +kernel
theorem d_N_state_11 : decode c_N_state 11 = .ok (.bipush 8, 2) := by decide +kernel
theorem d_N_state_13 : decode c_N_state 13 = .ok (.invokestatic 90, 3) := by decide +kernel
theorem d_N_state_16 : decode c_N_state 16 = .ok (.ifCond .eq 7, 3) := by decide +kernel
theorem d_N_state_19 : decode c_N_state 19 = .ok (.iconst 0, 1) := by decide +kernel
theorem d_N_state_20 : decode c_N_state 20 = .ok (.goto 4, 3) := by decide +kernel
theorem d_N_state_23 : decode c_N_state 23 = .ok (.iconst 1, 1) := by decide +kernel
theorem d_N_state_24 : decode c_N_state 24 = .ok (.putfield 74, 3) := by decide +kernel
theorem d_N_state_27 : decode c_N_state 27 = .ok (.aload_n 0, 1) := by decide +kernel
theorem d_N_state_28 : decode c_N_state 28 = .ok (.getfield 74, 3) := by decide +kernel
theorem d_N_state_31 : decode c_N_state 31 = .ok (.ifCond .le 5, 3) := by decide +kernel
theorem d_N_state_34 : decode c_N_state 34 = .ok (.iconst 0, 1) := by decide +kernel
theorem d_N_state_35 : decode c_N_state 35 = .ok (.ireturn, 1) := by decide +kernel
theorem d_N_state_36 : decode c_N_state 36 = .ok (.iload_n 2, 1) := by decide +kernel
theorem d_N_state_37 : decode c_N_state 37 = .ok (.tableswitch 123 0 7 #[47, 54, 61, 68, 75, 82, 89, 96], 47) := by decide +kernel
theorem d_N_state_84 : decode c_N_state 84 = .ok (.aload_n 0, 1) := by decide +kernel
theorem d_N_state_85 : decode c_N_state 85 = .ok (.getfield 40, 3) := by decide +kernel
theorem d_N_state_88 : decode c_N_state 88 = .ok (.iload_n 1, 1) := by decide +kernel
theorem d_N_state_89 : decode c_N_state 89 = .ok (.iaload, 1) := by decide +kernel
theorem d_N_state_90 : decode c_N_state 90 = .ok (.ireturn, 1) := by decide +kernel
theorem d_N_state_91 : decode c_N_state 91 = .ok (.aload_n 0, 1) := by decide +kernel
theorem d_N_state_92 : decode c_N_state 92 = .ok (.getfield 43, 3) := by decide +kernel
theorem d_N_state_95 : decode c_N_state 95 = .ok (.iload_n 1, 1) := by decide +kernel
theorem d_N_state_96 : decode c_N_state 96 = .ok (.iaload, 1) := by decide +kernel
theorem d_N_state_97 : decode c_N_state 97 = .ok (.ireturn, 1) := by decide +kernel
theorem d_N_state_98 : decode c_N_state 98 = .ok (.aload_n 0, 1) := by decide +kernel
theorem d_N_state_99 : decode c_N_state 99 = .ok (.getfield 46, 3) := by decide +kernel
theorem d_N_state_102 : decode c_N_state 102 = .ok (.iload_n 1, 1) := by decide +kernel
theorem d_N_state_103 : decode c_N_state 103 = .ok (.iaload, 1) := by decide +kernel
theorem d_N_state_104 : decode c_N_state 104 = .ok (.ireturn, 1) := by decide +kernel
theorem d_N_state_105 : decode c_N_state 105 = .ok (.aload_n 0, 1) := by decide +kernel
theorem d_N_state_106 : decode c_N_state 106 = .ok (.getfield 49, 3) := by decide +kernel
theorem d_N_state_109 : decode c_N_state 109 = .ok (.iload_n 1, 1) := by decide +kernel
theorem d_N_state_110 : decode c_N_state 110 = .ok (.iaload, 1) := by decide +kernel
theorem d_N_state_111 : decode c_N_state 111 = .ok (.ireturn, 1) := by decide +kernel
theorem d_N_state_112 : decode c_N_state 112 = .ok (.aload_n 0, 1) := by decide +kernel
theorem d_N_state_113 : decode c_N_state 113 = .ok (.getfield 52, 3) := by decide +kernel
theorem d_N_state_116 : decode c_N_state 116 = .ok (.iload_n 1, 1) := by decide +kernel
theorem d_N_state_117 : decode c_N_state 117 = .ok (.iaload, 1) := by decide +kernel
theorem d_N_state_118 : decode c_N_state 118 = .ok (.ireturn, 1) := by decide +kernel
theorem d_N_state_119 : decode c_N_state 119 = .ok (.aload_n 0, 1) := by decide +kernel
theorem d_N_state_120 : decode c_N_state 120 = .ok (.getfield 55, 3) := by decide +kernel
theorem d_N_state_123 : decode c_N_state 123 = .ok (.iload_n 1, 1) := by decide +kernel
theorem d_N_state_124 : decode c_N_state 124 = .ok (.iaload, 1) := by decide +kernel
theorem d_N_state_125 : decode c_N_state 125 = .ok (.ireturn, 1) := by decide +kernel
theorem d_N_state_126 : decode c_N_state 126 = .ok (.aload_n 0, 1) := by decide +kernel
theorem d_N_state_127 : decode c_N_state 127 = .ok (.getfield 58, 3) := by decide +kernel
theorem d_N_state_130 : decode c_N_state 130 = .ok (.iload_n 1, 1) := by decide +kernel
theorem d_N_state_131 : decode c_N_state 131 = .ok (.iaload, 1) := by decide +kernel
theorem d_N_state_132 : decode c_N_state 132 = .ok (.ireturn, 1) := by decide +kernel
theorem d_N_state_133 : decode c_N_state 133 = .ok (.aload_n 0, 1) := by decide +kernel
theorem d_N_state_134 : decode c_N_state 134 = .ok (.getfield 58, 3) := by decide +kernel
theorem d_N_state_137 : decode c_N_state 137 = .ok (.iload_n 1, 1) := by decide +kernel
theorem d_N_state_138 : decode c_N_state 138 = .ok (.iaload, 1) := by decide +kernel
theorem d_N_state_139 : decode c_N_state 139 = .ok (.ifCond .ge 7, 3) := by decide +kernel
theorem d_N_state_142 : decode c_N_state 142 = .ok (.iconst (-1), 1) := by decide +kernel
theorem d_N_state_143 : decode c_N_state 143 = .ok (.goto 16, 3) := by decide +kernel
theorem d_N_state_146 : decode c_N_state 146 = .ok (.aload_n 0, 1) := by decide +kernel
theorem d_N_state_147 : decode c_N_state 147 = .ok (.getfield 22, 3) := by decide +kernel
theorem d_N_state_150 : decode c_N_state 150 = .ok (.iload_n 1, 1) := by decide +kernel
theorem d_N_state_151 : decode c_N_state 151 = .ok (.iaload, 1) := by decide +kernel
theorem d_N_state_152 : decode c_N_state 152 = .ok (.aload_n 0, 1) := by decide +kernel
theorem d_N_state_153 : decode c_N_state 153 = .ok (.getfield 58, 3) := by decide +kernel
theorem d_N_state_156 : decode c_N_state 156 = .ok (.iload_n 1, 1) := by decide +kernel
theorem d_N_state_157 : decode c_N_state 157 = .ok (.iaload, 1) := by decide +kernel
theorem d_N_state_158 : decode c_N_state 158 = .ok (.isub, 1) := by decide +kernel
theorem d_N_state_159 : decode c_N_state 159 = .ok (.ireturn, 1) := by decide +kernel
theorem d_N_state_160 : decode c_N_state 160 = .ok (.aload_n 0, 1) := by decide +kernel
theorem d_N_state_161 : decode c_N_state 161 = .ok (.getfield 52, 3) := by decide +kernel
theorem d_N_state_164 : decode c_N_state 164 = .ok (.iload_n 1, 1) := by decide +kernel
theorem d_N_state_165 : decode c_N_state 165 = .ok (.iaload, 1) := by decide +kernel
theorem d_N_state_166 : decode c_N_state 166 = .ok (.ifCond .lt 22, 3) := by decide +kernel
theorem d_N_state_169 : decode c_N_state 169 = .ok (.aload_n 0, 1) := by decide +kernel
theorem d_N_state_170 : decode c_N_state 170 = .ok (.getfield 52, 3) := by decide +kernel
theorem d_N_state_173 : decode c_N_state 173 = .ok (.iload_n 1, 1) := by decide +kernel
theorem d_N_state_174 : decode c_N_state 174 = .ok (.iaload, 1) := by decide +kernel
theorem d_N_state_175 : decode c_N_state 175 = .ok (.aload_n 0, 1) := by decide +kernel
theorem d_N_state_176 : decode c_N_state 176 = .ok (.getfield 19, 3) := by decide +kernel
theorem d_N_state_179 : decode c_N_state 179 = .ok (.iload_n 1, 1) := by decide +kernel
theorem d_N_state_180 : decode c_N_state 180 = .ok (.iaload, 1) := by decide +kernel
theorem d_N_state_181 : decode c_N_state 181 = .ok (.if_icmp .eq 7, 3) := by decide +kernel
theorem d_N_state_184 : decode c_N_state 184 = .ok (.iconst 1, 1) := by decide +kernel
theorem d_N_state_185 : decode c_N_state 185 = .ok (.goto 4, 3) := by decide +kernel
theorem d_N_state_188 : decode c_N_state 188 = .ok (.iconst 0, 1) := by decide +kernel
theorem d_N_state_189 : decode c_N_state 189 = .ok (.ireturn, 1) := by decide +kernel
theorem d_N_office_0 : decode c_N_office 0 = .ok (.aload_n 0, 1) := by decide +kernel
theorem d_N_office_1 : decode c_N_office 1 = .ok (.aload_n 0, 1) := by decide +kernel
theorem d_N_office_2 : decode c_N_office 2 = .ok (.iload_n 1, 1) := by decide +kernel
theorem d_N_office_3 : decode c_N_office 3 = .ok (.invokevirtual 100, 3) := by decide +kernel
theorem d_N_office_6 : decode c_N_office 6 = .ok (.ifCond .eq 15, 3) := by decide +kernel
theorem d_N_office_9 : decode c_N_office 9 = .ok (.aload_n 0, 1) := by decide +kernel
theorem d_N_office_10 : decode c_N_office 10 = .ok (.iload_n 2, 1) := by decide +kernel
theorem d_N_office_11 : decode c_N_office 11 = .ok (.invokevirtual 83, 3) := by decide +kernel
theorem d_N_office_14 : decode c_N_office 14 = .ok (.ifCond .eq 7, 3) := by decide +kernel
theorem d_N_office_17 : decode c_N_office 17 = .ok (.iconst 0, 1) := by decide +kernel
theorem d_N_office_18 : decode c_N_office 18 = .ok (.goto 4, 3) := by decide +kernel
theorem d_N_office_21 : decode c_N_office 21 = .ok (.iconst 1, 1) := by decide +kernel
theorem d_N_office_22 : decode c_N_office 22 = .ok (.putfield 74, 3) := by decide +kernel
theorem d_N_office_25 : decode c_N_office 25 = .ok (.aload_n 0, 1) := by decide +kernel
theorem d_N_office_26 : decode c_N_office 26 = .ok (.getfield 74, 3) := by decide +kernel
theorem d_N_office_29 : decode c_N_office 29 = .ok (.ifCond .le 5, 3) := by decide +kernel
theorem d_N_office_32 : decode c_N_office 32 = .ok (.iconst 0, 1) := by decide +kernel
theorem d_N_office_33 : decode c_N_office 33 = .ok (.ireturn, 1) := by decide +kernel
theorem d_N_office_34 : decode c_N_office 34 = .ok (.aload_n 0, 1) := by decide +kernel
theorem d_N_office_35 : decode c_N_office 35 = .ok (.getfield 7, 3) := by decide +kernel
theorem d_N_office_38 : decode c_N_office 38 = .ok (.iload_n 1, 1) := by decide +kernel
theorem d_N_office_39 : decode c_N_office 39 = .ok (.iaload, 1) := by decide +kernel
theorem d_N_office_40 : decode c_N_office 40 = .ok (.iload_n 2, 1) := by decide +kernel
theorem d_N_office_41 : decode c_N_office 41 = .ok (.if_icmp .ne 7, 3) := by decide +kernel
theorem d_N_office_44 : decode c_N_office 44 = .ok (.iconst 1, 1) := by decide +kernel
theorem d_N_office_45 : decode c_N_office 45 = .ok (.goto 4, 3) := by decide +kernel
theorem d_N_office_48 : decode c_N_office 48 = .ok (.iconst 0, 1) := by decide +kernel
theorem d_N_office_49 : decode c_N_office 49 = .ok (.istore_n 3, 1) := by decide +kernel
theorem d_N_office_50 : decode c_N_office 50 = .ok (.iload_n 3, 1) := by decide +kernel
theorem d_N_office_51 : decode c_N_office 51 = .ok (.aload_n 0, 1) := by decide +kernel
theorem d_N_office_52 : decode c_N_office 52 = .ok (.getfield 13, 3) := by decide +kernel
theorem d_N_office_55 : decode c_N_office 55 = .ok (.iload_n 1, 1) := by decide +kernel
theorem d_N_office_56 : decode c_N_office 56 = .ok (.iaload, 1) := by decide +kernel
theorem d_N_office_57 : decode c_N_office 57 = .ok (.iload_n 2, 1) := by decide +kernel
theorem d_N_office_58 : decode c_N_office 58 = .ok (.if_icmp .ne 23, 3) := by decide +kernel
theorem d_N_office_61 : decode c_N_office 61 = .ok (.iconst 2, 1) := by decide +kernel
theorem d_N_office_62 : decode c_N_office 62 = .ok (.aload_n 0, 1) := by decide +kernel
theorem d_N_office_63 : decode c_N_office 63 = .ok (.getfield 61, 3) := by decide +kernel
theorem d_N_office_66 : decode c_N_office 66 = .ok (.iload_n 1, 1) := by decide +kernel
theorem d_N_office_67 : decode c_N_office 67 = .ok (.iaload, 1) := by decide +kernel
theorem d_N_office_68 : decode c_N_office 68 = .ok (.imul, 1) := by decide +kernel
theorem d_N_office_69 : decode c_N_office 69 = .ok (.iconst 4, 1) := by decide +kernel
theorem d_N_office_70 : decode c_N_office 70 = .ok (.aload_n 0, 1) := by decide +kernel
theorem d_N_office_71 : decode c_N_office 71 = .ok (.getfield 64, 3) := by decide +kernel
theorem d_N_office_74 : decode c_N_office 74 = .ok (.iload_n 1, 1) := by decide +kernel
theorem d_N_office_75 : decode c_N_office 75 = .ok (.iaload, 1) := by decide +kernel
theorem d_N_office_76 : decode c_N_office 76 = .ok (.imul, 1) := by decide +kernel
theorem d_N_office_77 : decode c_N_office 77 = .ok (.iadd, 1) := by decide +kernel
theorem d_N_office_78 : decode c_N_office 78 = .ok (.goto 4, 3) := by decide +kernel
theorem d_N_office_81 : decode c_N_office 81 = .ok (.iconst 0, 1) := by decide +kernel
theorem d_N_office_82 : decode c_N_office 82 = .ok (.iadd, 1) := by decide +kernel
theorem d_N_office_83 : decode c_N_office 83 = .ok (.istore_n 3, 1) := by decide +kernel
theorem d_N_office_84 : decode c_N_office 84 = .ok (.iload_n 3, 1) := by decide +kernel
theorem d_N_office_85 : decode c_N_office 85 = .ok (.aload_n 0, 1) := by decide +kernel
theorem d_N_office_86 : decode c_N_office 86 = .ok (.getfield 28, 3) := by decide +kernel
theorem d_N_office_89 : decode c_N_office 89 = .ok (.iload_n 1, 1) := by decide +kernel
theorem d_N_office_90 : decode c_N_office 90 = .ok (.iaload, 1) := by decide +kernel
theorem d_N_office_91 : decode c_N_office 91 = .ok (.iload_n 2, 1) := by decide +kernel
theorem d_N_office_92 : decode c_N_office 92 = .ok (.if_icmp .ne 22, 3) := by decide +kernel
theorem d_N_office_95 : decode c_N_office 95 = .ok (.aload_n 0, 1) := by decide +kernel
theorem d_N_office_96 : decode c_N_office 96 = .ok (.getfield 37, 3) := by decide +kernel
theorem d_N_office_99 : decode c_N_office 99 = .ok (.iload_n 1, 1) := by decide +kernel
theorem d_N_office_100 : decode c_N_office 100 = .ok (.iaload, 1) := by decide +kernel
theorem d_N_office_101 : decode c_N_office 101 = .ok (.ifCond .lt 8, 3) := by decide +kernel
theorem d_N_office_104 : decode c_N_office 104 = .ok (.bipush 24, 2) := by decide +kernel
theorem d_N_office_106 : decode c_N_office 106 = .ok (.goto 9, 3) := by decide +kernel
theorem d_N_office_109 : decode c_N_office 109 = .ok (.bipush 8, 2) := by decide +kernel
theorem d_N_office_111 : decode c_N_office 111 = .ok (.goto 4, 3) := by decide +kernel
theorem d_N_office_114 : decode c_N_office 114 = .ok (.iconst 0, 1) := by decide +kernel
theorem d_N_office_115 : decode c_N_office 115 = .ok (.iadd, 1) := by decide +kernel
theorem d_N_office_116 : decode c_N_office 116 = .ok (.istore_n 3, 1) := by decide +kernel
theorem d_N_office_117 : decode c_N_office 117 = .ok (.iload_n 3, 1) := by decide +kernel
theorem d_N_office_118 : decode c_N_office 118 = .ok (.ireturn, 1) := by decide +kernel
theorem d_N_message_0 : decode c_N_message 0 = .ok (.aload_n 0, 1) := by decide +kernel
theorem d_N_message_1 : decode c_N_message 1 = .ok (.iload_n 1, 1) := by decide +kernel
theorem d_N_message_2 : decode c_N_message 2 = .ok (.ifCond .lt 25, 3) := by decide +kernel
theorem d_N_message_5 : decode c_N_message 5 = .ok (.iload_n 1, 1) := by decide +kernel
theorem d_N_message_6 : decode c_N_message 6 = .ok (.aload_n 0, 1) := by decide +kernel
theorem d_N_message_7 : decode c_N_message 7 = .ok (.getfield 80, 3) := by decide +kernel
theorem d_N_message_10 : decode c_N_message 10 = .ok (.if_icmp .ge 17, 3) := by decide +kernel
theorem d_N_message_13 : decode c_N_message 13 = .ok (.iload_n 2, 1) := by decide +kernel
theorem d_N_message_14 : decode c_N_message 14 = .ok (.iconst 0, 1) := by decide +kernel
theorem d_N_message_15 : decode c_N_message 15 = .ok (.bipush 6, 2) := by decide +kernel
theorem d_N_message_17 : decode c_N_message 17 = .ok (.invokestatic 90, 3) := by decide +kernel
theorem d_N_message_20 : decode c_N_message 20 = .ok (.ifCond .eq 7, 3) := by decide +kernel
theorem d_N_message_23 : decode c_N_message 23 = .ok (.iconst 0, 1) := by decide +kernel
theorem d_N_message_24 : decode c_N_message 24 = .ok (.goto 4, 3) := by decide +kernel
theorem d_N_message_27 : decode c_N_message 27 = .ok (.iconst 1, 1) := by decide +kernel
theorem d_N_message_28 : decode c_N_message 28 = .ok (.putfield 74, 3) := by decide +kernel
theorem d_N_message_31 : decode c_N_message 31 = .ok (.aload_n 0, 1) := by decide +kernel
theorem d_N_message_32 : decode c_N_message 32 = .ok (.getfield 74, 3) := by decide +kernel
theorem d_N_message_35 : decode c_N_message 35 = .ok (.ifCond .le 7, 3) := by decide +kernel
theorem d_N_message_38 : decode c_N_message 38 = .ok (.iconst 0, 1) := by decide +kernel
theorem d_N_message_39 : decode c_N_message 39 = .ok (.goto 14, 3) := by decide +kernel
theorem d_N_message_42 : decode c_N_message 42 = .ok (.aload_n 0, 1) := by decide +kernel
theorem d_N_message_43 : decode c_N_message 43 = .ok (.getfield 67, 3) := by decide +kernel
theorem d_N_message_46 : decode c_N_message 46 = .ok (.bipush 7, 2) := by decide +kernel
theorem d_N_message_48 : decode c_N_message 48 = .ok (.iload_n 1, 1) := by decide +kernel
theorem d_N_message_49 : decode c_N_message 49 = .ok (.imul, 1) := by decide +kernel
theorem d_N_message_50 : decode c_N_message 50 = .ok (.iload_n 2, 1) := by decide +kernel
theorem d_N_message_51 : decode c_N_message 51 = .ok (.iadd, 1) := by decide +kernel
theorem d_N_message_52 : decode c_N_message 52 = .ok (.iaload, 1) := by decide +kernel
theorem d_N_message_53 : decode c_N_message 53 = .ok (.ireturn, 1) := by decide +kernel
theorem d_N_count_0 : decode c_N_count 0 = .ok (.aload_n 0, 1) := by decide +kernel
theorem d_N_count_1 : decode c_N_count 1 = .ok (.iconst 0, 1) := by decide +kernel
theorem d_N_count_2 : decode c_N_count 2 = .ok (.putfield 74, 3) := by decide +kernel
theorem d_N_count_5 : decode c_N_count 5 = .ok (.iconst 0, 1) := by decide +kernel
theorem d_N_count_6 : decode c_N_count 6 = .ok (.istore_n 2, 1) := by decide +kernel
theorem d_N_count_7 : decode c_N_count 7 = .ok (.iconst 0, 1) := by decide +kernel
theorem d_N_count_8 : decode c_N_count 8 = .ok (.istore_n 3, 1) := by decide +kernel
theorem d_N_count_9 : decode c_N_count 9 = .ok (.iconst 0, 1) := by decide +kernel
theorem d_N_count_10 : decode c_N_count 10 = .ok (.istore 4, 2) := by decide +kernel
theorem d_N_count_12 : decode c_N_count 12 = .ok (.iconst 0, 1) := by decide +kernel
theorem d_N_count_13 : decode c_N_count 13 = .ok (.istore 5, 2) := by decide +kernel
theorem d_N_count_15 : decode c_N_count 15 = .ok (.iload 5, 2) := by decide +kernel
theorem d_N_count_17 : decode c_N_count 17 = .ok (.aload_n 0, 1) := by decide +kernel
theorem d_N_count_18 : decode c_N_count 18 = .ok (.getfield 77, 3) := by decide +kernel
theorem d_N_count_21 : decode c_N_count 21 = .ok (.if_icmp .ge 65, 3) := by decide +kernel
theorem d_N_count_24 : decode c_N_count 24 = .ok (.iload_n 2, 1) := by decide +kernel
theorem d_N_count_25 : decode c_N_count 25 = .ok (.aload_n 0, 1) := by decide +kernel
theorem d_N_count_26 : decode c_N_count 26 = .ok (.getfield 40, 3) := by decide +kernel
theorem d_N_count_29 : decode c_N_count 29 = .ok (.iload 5, 2) := by decide +kernel
theorem d_N_count_31 : decode c_N_count 31 = .ok (.iaload, 1) := by decide +kernel
theorem d_N_count_32 : decode c_N_count 32 = .ok (.iconst 5, 1) := by decide +kernel
theorem d_N_count_33 : decode c_N_count 33 = .ok (.if_icmp .ge 13, 3) := by decide +kernel
theorem d_N_count_36 : decode c_N_count 36 = .ok (.aload_n 0, 1) := by decide +kernel
theorem d_N_count_37 : decode c_N_count 37 = .ok (.getfield 25, 3) := by decide +kernel
theorem d_N_count_40 : decode c_N_count 40 = .ok (.iload 5, 2) := by decide +kernel
theorem d_N_count_42 : decode c_N_count 42 = .ok (.iaload, 1) := by decide +kernel
theorem d_N_count_43 : decode c_N_count 43 = .ok (.goto 4, 3) := by decide +kernel
theorem d_N_count_46 : decode c_N_count 46 = .ok (.iconst 0, 1) := by decide +kernel
theorem d_N_count_47 : decode c_N_count 47 = .ok (.iadd, 1) := by decide +kernel
theorem d_N_count_48 : decode c_N_count 48 = .ok (.istore_n 2, 1) := by decide +kernel
theorem d_N_count_49 : decode c_N_count 49 = .ok (.iload_n 3, 1) := by decide +kernel
theorem d_N_count_50 : decode c_N_count 50 = .ok (.aload_n 0, 1) := by decide +kernel
theorem d_N_count_51 : decode c_N_count 51 = .ok (.getfield 46, 3) := by decide +kernel
theorem d_N_count_54 : decode c_N_count 54 = .ok (.iload 5, 2) := by decide +kernel
theorem d_N_count_56 : decode c_N_count 56 = .ok (.iaload, 1) := by decide +kernel
theorem d_N_count_57 : decode c_N_count 57 = .ok (.iadd, 1) := by decide +kernel
theorem d_N_count_58 : decode c_N_count 58 = .ok (.istore_n 3, 1) := by decide +kernel
theorem d_N_count_59 : decode c_N_count 59 = .ok (.iload 4, 2) := by decide +kernel
theorem d_N_count_61 : decode c_N_count 61 = .ok (.aload_n 0, 1) := by decide +kernel
theorem d_N_count_62 : decode c_N_count 62 = .ok (.getfield 40, 3) := by decide +kernel
theorem d_N_count_65 : decode c_N_count 65 = .ok (.iload 5, 2) := by decide +kernel
theorem d_N_count_67 : decode c_N_count 67 = .ok (.iaload, 1) := by decide +kernel
theorem d_N_count_68 : decode c_N_count 68 = .ok (.iconst 5, 1) := by decide +kernel
theorem d_N_count_69 : decode c_N_count 69 = .ok (.if_icmp .ge 7, 3) := by decide +kernel
theorem d_N_count_72 : decode c_N_count 72 = .ok (.iconst 0, 1) := by decide +kernel
theorem d_N_count_73 : decode c_N_count 73 = .ok (.goto 4, 3) := by decide +kernel
theorem d_N_count_76 : decode c_N_count 76 = .ok (.iconst 1, 1) := by decide +kernel
theorem d_N_count_77 : decode c_N_count 77 = .ok (.iadd, 1) := by decide +kernel
theorem d_N_count_78 : decode c_N_count 78 = .ok (.istore 4, 2) := by decide +kernel
theorem d_N_count_80 : decode c_N_count 80 = .ok (.iinc 5 1, 3) := by decide +kernel
theorem d_N_count_83 : decode c_N_count 83 = .ok (.goto (-68), 3) := by decide +kernel
theorem d_N_count_86 : decode c_N_count 86 = .ok (.iconst 0, 1) := by decide +kernel
theorem d_N_count_87 : decode c_N_count 87 = .ok (.istore 5, 2) := by decide +kernel
theorem d_N_count_89 : decode c_N_count 89 = .ok (.iconst 0, 1) := by decide +kernel
theorem d_N_count_90 : decode c_N_count 90 = .ok (.istore 6, 2) := by decide +kernel
theorem d_N_count_92 : decode c_N_count 92 = .ok (.iload 6, 2) := by decide +kernel
theorem d_N_count_94 : decode c_N_count 94 = .ok (.aload_n 0, 1) := by decide +kernel
theorem d_N_count_95 : decode c_N_count 95 = .ok (.getfield 80, 3) := by decide +kernel
theorem d_N_count_98 : decode c_N_count 98 = .ok (.if_icmp .ge 35, 3) := by decide +kernel
theorem d_N_count_101 : decode c_N_count 101 = .ok (.iload 5, 2) := by decide +kernel
theorem d_N_count_103 : decode c_N_count 103 = .ok (.aload_n 0, 1) := by decide +kernel
theorem d_N_count_104 : decode c_N_count 104 = .ok (.getfield 67, 3) := by decide +kernel
theorem d_N_count_107 : decode c_N_count 107 = .ok (.bipush 7, 2) := by decide +kernel
theorem d_N_count_109 : decode c_N_count 109 = .ok (.iload 6, 2) := by decide +kernel
theorem d_N_count_111 : decode c_N_count 111 = .ok (.imul, 1) := by decide +kernel
theorem d_N_count_112 : decode c_N_count 112 = .ok (.bipush 6, 2) := by decide +kernel
theorem d_N_count_114 : decode c_N_count 114 = .ok (.iadd, 1) := by decide +kernel
theorem d_N_count_115 : decode c_N_count 115 = .ok (.iaload, 1) := by decide +kernel
theorem d_N_count_116 : decode c_N_count 116 = .ok (.ifCond .ne 7, 3) := by decide +kernel
theorem d_N_count_119 : decode c_N_count 119 = .ok (.iconst 1, 1) := by decide +kernel
theorem d_N_count_120 : decode c_N_count 120 = .ok (.goto 4, 3) := by decide +kernel
theorem d_N_count_123 : decode c_N_count 123 = .ok (.iconst 0, 1) := by decide +kernel
theorem d_N_count_124 : decode c_N_count 124 = .ok (.iadd, 1) := by decide +kernel
theorem d_N_count_125 : decode c_N_count 125 = .ok (.istore 5, 2) := by decide +kernel
theorem d_N_count_127 : decode c_N_count 127 = .ok (.iinc 6 1, 3) := by decide +kernel
theorem d_N_count_130 : decode c_N_count 130 = .ok (.goto (-38), 3) := by decide +kernel
theorem d_N_count_133 : decode c_N_count 133 = .ok (.iload_n 1, 1) := by decide +kernel
theorem d_N_count_134 : decode c_N_count 134 = .ok (.tableswitch 76 0 7 #[46, 51, 56, 61, 66, 68, 70, 73], 46) := by decide +kernel
theorem d_N_count_180 : decode c_N_count 180 = .ok (.aload_n 0, 1) := by decide +kernel
theorem d_N_count_181 : decode c_N_count 181 = .ok (.getfield 70, 3) := by decide +kernel
theorem d_N_count_184 : decode c_N_count 184 = .ok (.ireturn, 1) := by decide +kernel
theorem d_N_count_185 : decode c_N_count 185 = .ok (.aload_n 0, 1) := by decide +kernel
theorem d_N_count_186 : decode c_N_count 186 = .ok (.getfield 77, 3) := by decide +kernel
theorem d_N_count_189 : decode c_N_count 189 = .ok (.ireturn, 1) := by decide +kernel
theorem d_N_count_190 : decode c_N_count 190 = .ok (.aload_n 0, 1) := by decide +kernel
theorem d_N_count_191 : decode c_N_count 191 = .ok (.getfield 80, 3) := by decide +kernel
theorem d_N_count_194 : decode c_N_count 194 = .ok (.ireturn, 1) := by decide +kernel
theorem d_N_count_195 : decode c_N_count 195 = .ok (.aload_n 0, 1) := by decide +kernel
theorem d_N_count_196 : decode c_N_count 196 = .ok (.getfield 87, 3) := by decide +kernel
theorem d_N_count_199 : decode c_N_count 199 = .ok (.ireturn, 1) := by decide +kernel
theorem d_N_count_200 : decode c_N_count 200 = .ok (.iload_n 2, 1) := by decide +kernel
theorem d_N_count_201 : decode c_N_count 201 = .ok (.ireturn, 1) := by decide +kernel
theorem d_N_count_202 : decode c_N_count 202 = .ok (.iload_n 3, 1) := by decide +kernel
theorem d_N_count_203 : decode c_N_count 203 = .ok (.ireturn, 1) := by decide +kernel
theorem d_N_count_204 : decode c_N_count 204 = .ok (.iload 4, 2) := by decide +kernel
theorem d_N_count_206 : decode c_N_count 206 = .ok (.ireturn, 1) := by decide +kernel
theorem d_N_count_207 : decode c_N_count 207 = .ok (.iload 5, 2) := by decide +kernel
theorem d_N_count_209 : decode c_N_count 209 = .ok (.ireturn, 1) := by decide +kernel
theorem d_N_count_210 : decode c_N_count 210 = .ok (.iconst (-1), 1) := by decide +kernel
theorem d_N_count_211 : decode c_N_count 211 = .ok (.ireturn, 1) := by decide +kernel
