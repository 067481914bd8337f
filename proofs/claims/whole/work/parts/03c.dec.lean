theorem dX12_editMap_76 : decode cX12_editMap 76 = .ok (.bipush 32, 2) := by decide +kernel
theorem dX12_editMap_78 : decode cX12_editMap 78 = .ok (.iload_n 1, 1) := by decide +kernel
theorem dX12_editMap_79 : decode cX12_editMap 79 = .ok (.imul, 1) := by decide +kernel
theorem dX12_editMap_80 : decode cX12_editMap 80 = .ok (.bipush 8, 2) := by decide +kernel
theorem dX12_editMap_82 : decode cX12_editMap 82 = .ok (.iload_n 2, 1) := by decide +kernel
theorem dX12_editMap_83 : decode cX12_editMap 83 = .ok (.imul, 1) := by decide +kernel
theorem dX12_editMap_84 : decode cX12_editMap 84 = .ok (.iadd, 1) := by decide +kernel
theorem dX12_editMap_85 : decode cX12_editMap 85 = .ok (.iload 10, 2) := by decide +kernel
theorem dX12_editMap_87 : decode cX12_editMap 87 = .ok (.iadd, 1) := by decide +kernel
theorem dX12_editMap_88 : decode cX12_editMap 88 = .ok (.istore 11, 2) := by decide +kernel
theorem dX12_editMap_90 : decode cX12_editMap 90 = .ok (.aload_n 0, 1) := by decide +kernel
theorem dX12_editMap_91 : decode cX12_editMap 91 = .ok (.getfield 112, 3) := by decide +kernel
theorem dX12_editMap_94 : decode cX12_editMap 94 = .ok (.iload 10, 2) := by decide +kernel
theorem dX12_editMap_96 : decode cX12_editMap 96 = .ok (.aload_n 0, 1) := by decide +kernel
theorem dX12_editMap_97 : decode cX12_editMap 97 = .ok (.getfield 94, 3) := by decide +kernel
theorem dX12_editMap_100 : decode cX12_editMap 100 = .ok (.iload 11, 2) := by decide +kernel
theorem dX12_editMap_102 : decode cX12_editMap 102 = .ok (.iaload, 1) := by decide +kernel
theorem dX12_editMap_103 : decode cX12_editMap 103 = .ok (.iastore, 1) := by decide +kernel
theorem dX12_editMap_104 : decode cX12_editMap 104 = .ok (.aload_n 0, 1) := by decide +kernel
theorem dX12_editMap_105 : decode cX12_editMap 105 = .ok (.iload_n 3, 1) := by decide +kernel
theorem dX12_editMap_106 : decode cX12_editMap 106 = .ok (.iconst 0, 1) := by decide +kernel
theorem dX12_editMap_107 : decode cX12_editMap 107 = .ok (.aload_n 0, 1) := by decide +kernel
theorem dX12_editMap_108 : decode cX12_editMap 108 = .ok (.getfield 82, 3) := by decide +kernel
theorem dX12_editMap_111 : decode cX12_editMap 111 = .ok (.iload_n 2, 1) := by decide +kernel
theorem dX12_editMap_112 : decode cX12_editMap 112 = .ok (.iaload, 1) := by decide +kernel
theorem dX12_editMap_113 : decode cX12_editMap 113 = .ok (.iload 10, 2) := by decide +kernel
theorem dX12_editMap_115 : decode cX12_editMap 115 = .ok (.iadd, 1) := by decide +kernel
theorem dX12_editMap_116 : decode cX12_editMap 116 = .ok (.invokevirtual 278, 3) := by decide +kernel
theorem dX12_editMap_119 : decode cX12_editMap 119 = .ok (.istore 12, 2) := by decide +kernel
theorem dX12_editMap_121 : decode cX12_editMap 121 = .ok (.iload 6, 2) := by decide +kernel
theorem dX12_editMap_123 : decode cX12_editMap 123 = .ok (.ifCond .eq 29, 3) := by decide +kernel
theorem dX12_editMap_126 : decode cX12_editMap 126 = .ok (.iload 12, 2) := by decide +kernel
theorem dX12_editMap_128 : decode cX12_editMap 128 = .ok (.bipush (-4), 2) := by decide +kernel
theorem dX12_editMap_130 : decode cX12_editMap 130 = .ok (.if_icmp .eq 22, 3) := by decide +kernel
theorem dX12_editMap_133 : decode cX12_editMap 133 = .ok (.aload_n 0, 1) := by decide +kernel
theorem dX12_editMap_134 : decode cX12_editMap 134 = .ok (.getfield 94, 3) := by decide +kernel
theorem dX12_editMap_137 : decode cX12_editMap 137 = .ok (.iload 11, 2) := by decide +kernel
theorem dX12_editMap_139 : decode cX12_editMap 139 = .ok (.aload_n 0, 1) := by decide +kernel
theorem dX12_editMap_140 : decode cX12_editMap 140 = .ok (.iload_n 3, 1) := by decide +kernel
theorem dX12_editMap_141 : decode cX12_editMap 141 = .ok (.iload 12, 2) := by decide +kernel
theorem dX12_editMap_143 : decode cX12_editMap 143 = .ok (.iload 4, 2) := by decide +kernel
theorem dX12_editMap_145 : decode cX12_editMap 145 = .ok (.invokevirtual 247, 3) := by decide +kernel
theorem dX12_editMap_148 : decode cX12_editMap 148 = .ok (.iastore, 1) := by decide +kernel
theorem dX12_editMap_149 : decode cX12_editMap 149 = .ok (.iconst 1, 1) := by decide +kernel
theorem dX12_editMap_150 : decode cX12_editMap 150 = .ok (.istore 8, 2) := by decide +kernel
theorem dX12_editMap_152 : decode cX12_editMap 152 = .ok (.iinc 10 1, 3) := by decide +kernel
theorem dX12_editMap_155 : decode cX12_editMap 155 = .ok (.goto (-90), 3) := by decide +kernel
theorem dX12_editMap_158 : decode cX12_editMap 158 = .ok (.iconst 0, 1) := by decide +kernel
theorem dX12_editMap_159 : decode cX12_editMap 159 = .ok (.istore 10, 2) := by decide +kernel
theorem dX12_editMap_161 : decode cX12_editMap 161 = .ok (.iload 10, 2) := by decide +kernel
theorem dX12_editMap_163 : decode cX12_editMap 163 = .ok (.aload_n 0, 1) := by decide +kernel
theorem dX12_editMap_164 : decode cX12_editMap 164 = .ok (.getfield 88, 3) := by decide +kernel
theorem dX12_editMap_167 : decode cX12_editMap 167 = .ok (.iload_n 2, 1) := by decide +kernel
theorem dX12_editMap_168 : decode cX12_editMap 168 = .ok (.iaload, 1) := by decide +kernel
theorem dX12_editMap_169 : decode cX12_editMap 169 = .ok (.if_icmp .ge 60, 3) := by decide +kernel
theorem dX12_editMap_172 : decode cX12_editMap 172 = .ok (.aload_n 0, 1) := by decide +kernel
theorem dX12_editMap_173 : decode cX12_editMap 173 = .ok (.iload_n 3, 1) := by decide +kernel
theorem dX12_editMap_174 : decode cX12_editMap 174 = .ok (.iconst 1, 1) := by decide +kernel
theorem dX12_editMap_175 : decode cX12_editMap 175 = .ok (.aload_n 0, 1) := by decide +kernel
theorem dX12_editMap_176 : decode cX12_editMap 176 = .ok (.getfield 82, 3) := by decide +kernel
theorem dX12_editMap_179 : decode cX12_editMap 179 = .ok (.iload_n 2, 1) := by decide +kernel
theorem dX12_editMap_180 : decode cX12_editMap 180 = .ok (.iaload, 1) := by decide +kernel
theorem dX12_editMap_181 : decode cX12_editMap 181 = .ok (.iload 10, 2) := by decide +kernel
theorem dX12_editMap_183 : decode cX12_editMap 183 = .ok (.iadd, 1) := by decide +kernel
theorem dX12_editMap_184 : decode cX12_editMap 184 = .ok (.invokevirtual 278, 3) := by decide +kernel
theorem dX12_editMap_187 : decode cX12_editMap 187 = .ok (.istore 11, 2) := by decide +kernel
theorem dX12_editMap_189 : decode cX12_editMap 189 = .ok (.iload 7, 2) := by decide +kernel
theorem dX12_editMap_191 : decode cX12_editMap 191 = .ok (.ifCond .eq 32, 3) := by decide +kernel
theorem dX12_editMap_194 : decode cX12_editMap 194 = .ok (.iload 11, 2) := by decide +kernel
theorem dX12_editMap_196 : decode cX12_editMap 196 = .ok (.bipush (-4), 2) := by decide +kernel
theorem dX12_editMap_198 : decode cX12_editMap 198 = .ok (.if_icmp .eq 25, 3) := by decide +kernel
theorem dX12_editMap_201 : decode cX12_editMap 201 = .ok (.aload_n 0, 1) := by decide +kernel
theorem dX12_editMap_202 : decode cX12_editMap 202 = .ok (.getfield 43, 3) := by decide +kernel
theorem dX12_editMap_205 : decode cX12_editMap 205 = .ok (.bipush 16, 2) := by decide +kernel
theorem dX12_editMap_207 : decode cX12_editMap 207 = .ok (.iload_n 3, 1) := by decide +kernel
theorem dX12_editMap_208 : decode cX12_editMap 208 = .ok (.imul, 1) := by decide +kernel
theorem dX12_editMap_209 : decode cX12_editMap 209 = .ok (.iload 11, 2) := by decide +kernel
theorem dX12_editMap_211 : decode cX12_editMap 211 = .ok (.iadd, 1) := by decide +kernel
theorem dX12_editMap_212 : decode cX12_editMap 212 = .ok (.aload_n 0, 1) := by decide +kernel
theorem dX12_editMap_213 : decode cX12_editMap 213 = .ok (.getfield 112, 3) := by decide +kernel
theorem dX12_editMap_216 : decode cX12_editMap 216 = .ok (.iload 10, 2) := by decide +kernel
theorem dX12_editMap_218 : decode cX12_editMap 218 = .ok (.iaload, 1) := by decide +kernel
theorem dX12_editMap_219 : decode cX12_editMap 219 = .ok (.iastore, 1) := by decide +kernel
theorem dX12_editMap_220 : decode cX12_editMap 220 = .ok (.iconst 1, 1) := by decide +kernel
theorem dX12_editMap_221 : decode cX12_editMap 221 = .ok (.istore 9, 2) := by decide +kernel
theorem dX12_editMap_223 : decode cX12_editMap 223 = .ok (.iinc 10 1, 3) := by decide +kernel
theorem dX12_editMap_226 : decode cX12_editMap 226 = .ok (.goto (-65), 3) := by decide +kernel
theorem dX12_editMap_229 : decode cX12_editMap 229 = .ok (.aload_n 0, 1) := by decide +kernel
theorem dX12_editMap_230 : decode cX12_editMap 230 = .ok (.getfield 97, 3) := by decide +kernel
theorem dX12_editMap_233 : decode cX12_editMap 233 = .ok (.iconst 4, 1) := by decide +kernel
theorem dX12_editMap_234 : decode cX12_editMap 234 = .ok (.iload_n 1, 1) := by decide +kernel
theorem dX12_editMap_235 : decode cX12_editMap 235 = .ok (.imul, 1) := by decide +kernel
theorem dX12_editMap_236 : decode cX12_editMap 236 = .ok (.iload_n 2, 1) := by decide +kernel
theorem dX12_editMap_237 : decode cX12_editMap 237 = .ok (.iadd, 1) := by decide +kernel
theorem dX12_editMap_238 : decode cX12_editMap 238 = .ok (.dup2, 1) := by decide +kernel
theorem dX12_editMap_239 : decode cX12_editMap 239 = .ok (.iaload, 1) := by decide +kernel
theorem dX12_editMap_240 : decode cX12_editMap 240 = .ok (.iload 8, 2) := by decide +kernel
theorem dX12_editMap_242 : decode cX12_editMap 242 = .ok (.ifCond .eq 7, 3) := by decide +kernel
theorem dX12_editMap_245 : decode cX12_editMap 245 = .ok (.iconst 1, 1) := by decide +kernel
theorem dX12_editMap_246 : decode cX12_editMap 246 = .ok (.goto 4, 3) := by decide +kernel
theorem dX12_editMap_249 : decode cX12_editMap 249 = .ok (.iconst 0, 1) := by decide +kernel
theorem dX12_editMap_250 : decode cX12_editMap 250 = .ok (.iload 9, 2) := by decide +kernel
theorem dX12_editMap_252 : decode cX12_editMap 252 = .ok (.ifCond .ne 7, 3) := by decide +kernel
theorem dX12_editMap_255 : decode cX12_editMap 255 = .ok (.iconst 0, 1) := by decide +kernel
theorem dX12_editMap_256 : decode cX12_editMap 256 = .ok (.goto 14, 3) := by decide +kernel
theorem dX12_editMap_259 : decode cX12_editMap 259 = .ok (.iload 5, 2) := by decide +kernel
theorem dX12_editMap_261 : decode cX12_editMap 261 = .ok (.iconst 1, 1) := by decide +kernel
theorem dX12_editMap_262 : decode cX12_editMap 262 = .ok (.if_icmp .ne 7, 3) := by decide +kernel
theorem dX12_editMap_265 : decode cX12_editMap 265 = .ok (.iconst 1, 1) := by decide +kernel
theorem dX12_editMap_266 : decode cX12_editMap 266 = .ok (.goto 4, 3) := by decide +kernel
theorem dX12_editMap_269 : decode cX12_editMap 269 = .ok (.iconst 2, 1) := by decide +kernel
theorem dX12_editMap_270 : decode cX12_editMap 270 = .ok (.iadd, 1) := by decide +kernel
theorem dX12_editMap_271 : decode cX12_editMap 271 = .ok (.iadd, 1) := by decide +kernel
theorem dX12_editMap_272 : decode cX12_editMap 272 = .ok (.iastore, 1) := by decide +kernel
theorem dX12_editMap_273 : decode cX12_editMap 273 = .ok (.return_, 1) := by decide +kernel
theorem dX12_edit_0 : decode cX12_edit 0 = .ok (.iconst 0, 1) := by decide +kernel
theorem dX12_edit_1 : decode cX12_edit 1 = .ok (.istore 5, 2) := by decide +kernel
theorem dX12_edit_3 : decode cX12_edit 3 = .ok (.iload 5, 2) := by decide +kernel
theorem dX12_edit_5 : decode cX12_edit 5 = .ok (.iconst 4, 1) := by decide +kernel
theorem dX12_edit_6 : decode cX12_edit 6 = .ok (.if_icmp .ge 135, 3) := by decide +kernel
theorem dX12_edit_9 : decode cX12_edit 9 = .ok (.aload_n 0, 1) := by decide +kernel
theorem dX12_edit_10 : decode cX12_edit 10 = .ok (.getfield 79, 3) := by decide +kernel
theorem dX12_edit_13 : decode cX12_edit 13 = .ok (.iload 5, 2) := by decide +kernel
theorem dX12_edit_15 : decode cX12_edit 15 = .ok (.iaload, 1) := by decide +kernel
theorem dX12_edit_16 : decode cX12_edit 16 = .ok (.istore 6, 2) := by decide +kernel
theorem dX12_edit_18 : decode cX12_edit 18 = .ok (.iload 6, 2) := by decide +kernel
theorem dX12_edit_20 : decode cX12_edit 20 = .ok (.i2l, 1) := by decide +kernel
theorem dX12_edit_21 : decode cX12_edit 21 = .ok (.lconst 1, 1) := by decide +kernel
theorem dX12_edit_22 : decode cX12_edit 22 = .ok (.ldc2_w 260, 3) := by decide +kernel
theorem dX12_edit_25 : decode cX12_edit 25 = .ok (.invokestatic 145, 3) := by decide +kernel
theorem dX12_edit_28 : decode cX12_edit 28 = .ok (.ifCond .eq 22, 3) := by decide +kernel
theorem dX12_edit_31 : decode cX12_edit 31 = .ok (.aload_n 0, 1) := by decide +kernel
theorem dX12_edit_32 : decode cX12_edit 32 = .ok (.getfield 82, 3) := by decide +kernel
theorem dX12_edit_35 : decode cX12_edit 35 = .ok (.iload 5, 2) := by decide +kernel
theorem dX12_edit_37 : decode cX12_edit 37 = .ok (.iaload, 1) := by decide +kernel
theorem dX12_edit_38 : decode cX12_edit 38 = .ok (.iload_n 3, 1) := by decide +kernel
theorem dX12_edit_39 : decode cX12_edit 39 = .ok (.if_icmp .ne 7, 3) := by decide +kernel
theorem dX12_edit_42 : decode cX12_edit 42 = .ok (.iconst 1, 1) := by decide +kernel
theorem dX12_edit_43 : decode cX12_edit 43 = .ok (.goto 58, 3) := by decide +kernel
theorem dX12_edit_46 : decode cX12_edit 46 = .ok (.iconst 0, 1) := by decide +kernel
theorem dX12_edit_47 : decode cX12_edit 47 = .ok (.goto 54, 3) := by decide +kernel
theorem dX12_edit_50 : decode cX12_edit 50 = .ok (.iload 6, 2) := by decide +kernel
theorem dX12_edit_52 : decode cX12_edit 52 = .ok (.i2l, 1) := by decide +kernel
theorem dX12_edit_53 : decode cX12_edit 53 = .ok (.ldc2_w 251, 3) := by decide +kernel
theorem dX12_edit_56 : decode cX12_edit 56 = .ok (.ldc2_w 281, 3) := by decide +kernel
theorem dX12_edit_59 : decode cX12_edit 59 = .ok (.invokestatic 145, 3) := by decide +kernel
theorem dX12_edit_62 : decode cX12_edit 62 = .ok (.ifCond .eq 27, 3) := by decide +kernel
theorem dX12_edit_65 : decode cX12_edit 65 = .ok (.aload_n 0, 1) := by decide +kernel
theorem dX12_edit_66 : decode cX12_edit 66 = .ok (.getfield 82, 3) := by decide +kernel
theorem dX12_edit_69 : decode cX12_edit 69 = .ok (.iload 5, 2) := by decide +kernel
theorem dX12_edit_71 : decode cX12_edit 71 = .ok (.iaload, 1) := by decide +kernel
theorem dX12_edit_72 : decode cX12_edit 72 = .ok (.aload_n 0, 1) := by decide +kernel
theorem dX12_edit_73 : decode cX12_edit 73 = .ok (.getfield 25, 3) := by decide +kernel
theorem dX12_edit_76 : decode cX12_edit 76 = .ok (.iload_n 2, 1) := by decide +kernel
theorem dX12_edit_77 : decode cX12_edit 77 = .ok (.iaload, 1) := by decide +kernel
theorem dX12_edit_78 : decode cX12_edit 78 = .ok (.if_icmp .ne 7, 3) := by decide +kernel
theorem dX12_edit_81 : decode cX12_edit 81 = .ok (.iconst 1, 1) := by decide +kernel
theorem dX12_edit_82 : decode cX12_edit 82 = .ok (.goto 19, 3) := by decide +kernel
theorem dX12_edit_85 : decode cX12_edit 85 = .ok (.iconst 0, 1) := by decide +kernel
theorem dX12_edit_86 : decode cX12_edit 86 = .ok (.goto 15, 3) := by decide +kernel
theorem dX12_edit_89 : decode cX12_edit 89 = .ok (.iload 6, 2) := by decide +kernel
theorem dX12_edit_91 : decode cX12_edit 91 = .ok (.i2l, 1) := by decide +kernel
theorem dX12_edit_92 : decode cX12_edit 92 = .ok (.ldc2_w 270, 3) := by decide +kernel
theorem dX12_edit_95 : decode cX12_edit 95 = .ok (.ldc2_w 258, 3) := by decide +kernel
theorem dX12_edit_98 : decode cX12_edit 98 = .ok (.invokestatic 145, 3) := by decide +kernel
theorem dX12_edit_101 : decode cX12_edit 101 = .ok (.istore 7, 2) := by decide +kernel
theorem dX12_edit_103 : decode cX12_edit 103 = .ok (.iload 7, 2) := by decide +kernel
theorem dX12_edit_105 : decode cX12_edit 105 = .ok (.ifCond .eq 13, 3) := by decide +kernel
theorem dX12_edit_108 : decode cX12_edit 108 = .ok (.aload_n 0, 1) := by decide +kernel
theorem dX12_edit_109 : decode cX12_edit 109 = .ok (.iload_n 1, 1) := by decide +kernel
theorem dX12_edit_110 : decode cX12_edit 110 = .ok (.iload 5, 2) := by decide +kernel
theorem dX12_edit_112 : decode cX12_edit 112 = .ok (.iload_n 2, 1) := by decide +kernel
theorem dX12_edit_113 : decode cX12_edit 113 = .ok (.iload 4, 2) := by decide +kernel
theorem dX12_edit_115 : decode cX12_edit 115 = .ok (.invokevirtual 283, 3) := by decide +kernel
theorem dX12_edit_118 : decode cX12_edit 118 = .ok (.iload 6, 2) := by decide +kernel
theorem dX12_edit_120 : decode cX12_edit 120 = .ok (.bipush 10, 2) := by decide +kernel
theorem dX12_edit_122 : decode cX12_edit 122 = .ok (.if_icmp .lt 13, 3) := by decide +kernel
theorem dX12_edit_125 : decode cX12_edit 125 = .ok (.aload_n 0, 1) := by decide +kernel
theorem dX12_edit_126 : decode cX12_edit 126 = .ok (.iload_n 1, 1) := by decide +kernel
theorem dX12_edit_127 : decode cX12_edit 127 = .ok (.iload 5, 2) := by decide +kernel
theorem dX12_edit_129 : decode cX12_edit 129 = .ok (.iload_n 2, 1) := by decide +kernel
theorem dX12_edit_130 : decode cX12_edit 130 = .ok (.iload 4, 2) := by decide +kernel
theorem dX12_edit_132 : decode cX12_edit 132 = .ok (.invokevirtual 286, 3) := by decide +kernel
theorem dX12_edit_135 : decode cX12_edit 135 = .ok (.iinc 5 1, 3) := by decide +kernel
theorem dX12_edit_138 : decode cX12_edit 138 = .ok (.goto (-135), 3) := by decide +kernel
theorem dX12_edit_141 : decode cX12_edit 141 = .ok (.return_, 1) := by decide +kernel
theorem dX12_goesOut_0 : decode cX12_goesOut 0 = .ok (.iconst 0, 1) := by decide +kernel
theorem dX12_goesOut_1 : decode cX12_goesOut 1 = .ok (.istore_n 2, 1) := by decide +kernel
theorem dX12_goesOut_2 : decode cX12_goesOut 2 = .ok (.iload_n 2, 1) := by decide +kernel
theorem dX12_goesOut_3 : decode cX12_goesOut 3 = .ok (.bipush 32, 2) := by decide +kernel
theorem dX12_goesOut_5 : decode cX12_goesOut 5 = .ok (.if_icmp .ge 26, 3) := by decide +kernel
theorem dX12_goesOut_8 : decode cX12_goesOut 8 = .ok (.aload_n 0, 1) := by decide +kernel
theorem dX12_goesOut_9 : decode cX12_goesOut 9 = .ok (.getfield 94, 3) := by decide +kernel
theorem dX12_goesOut_12 : decode cX12_goesOut 12 = .ok (.bipush 32, 2) := by decide +kernel
theorem dX12_goesOut_14 : decode cX12_goesOut 14 = .ok (.iload_n 1, 1) := by decide +kernel
theorem dX12_goesOut_15 : decode cX12_goesOut 15 = .ok (.imul, 1) := by decide +kernel
theorem dX12_goesOut_16 : decode cX12_goesOut 16 = .ok (.iload_n 2, 1) := by decide +kernel
theorem dX12_goesOut_17 : decode cX12_goesOut 17 = .ok (.iadd, 1) := by decide +kernel
theorem dX12_goesOut_18 : decode cX12_goesOut 18 = .ok (.aload_n 0, 1) := by decide +kernel
theorem dX12_goesOut_19 : decode cX12_goesOut 19 = .ok (.getfield 91, 3) := by decide +kernel
theorem dX12_goesOut_22 : decode cX12_goesOut 22 = .ok (.iload_n 2, 1) := by decide +kernel
theorem dX12_goesOut_23 : decode cX12_goesOut 23 = .ok (.iaload, 1) := by decide +kernel
theorem dX12_goesOut_24 : decode cX12_goesOut 24 = .ok (.iastore, 1) := by decide +kernel
theorem dX12_goesOut_25 : decode cX12_goesOut 25 = .ok (.iinc 2 1, 3) := by decide +kernel
theorem dX12_goesOut_28 : decode cX12_goesOut 28 = .ok (.goto (-26), 3) := by decide +kernel
theorem dX12_goesOut_31 : decode cX12_goesOut 31 = .ok (.iconst 0, 1) := by decide +kernel
theorem dX12_goesOut_32 : decode cX12_goesOut 32 = .ok (.istore_n 2, 1) := by decide +kernel
theorem dX12_goesOut_33 : decode cX12_goesOut 33 = .ok (.iload_n 2, 1) := by decide +kernel
theorem dX12_goesOut_34 : decode cX12_goesOut 34 = .ok (.iconst 4, 1) := by decide +kernel
theorem dX12_goesOut_35 : decode cX12_goesOut 35 = .ok (.if_icmp .ge 20, 3) := by decide +kernel
theorem dX12_goesOut_38 : decode cX12_goesOut 38 = .ok (.aload_n 0, 1) := by decide +kernel
theorem dX12_goesOut_39 : decode cX12_goesOut 39 = .ok (.getfield 97, 3) := by decide +kernel
theorem dX12_goesOut_42 : decode cX12_goesOut 42 = .ok (.iconst 4, 1) := by decide +kernel
theorem dX12_goesOut_43 : decode cX12_goesOut 43 = .ok (.iload_n 1, 1) := by decide +kernel
theorem dX12_goesOut_44 : decode cX12_goesOut 44 = .ok (.imul, 1) := by decide +kernel
theorem dX12_goesOut_45 : decode cX12_goesOut 45 = .ok (.iload_n 2, 1) := by decide +kernel
theorem dX12_goesOut_46 : decode cX12_goesOut 46 = .ok (.iadd, 1) := by decide +kernel
theorem dX12_goesOut_47 : decode cX12_goesOut 47 = .ok (.iconst 0, 1) := by decide +kernel
theorem dX12_goesOut_48 : decode cX12_goesOut 48 = .ok (.iastore, 1) := by decide +kernel
theorem dX12_goesOut_49 : decode cX12_goesOut 49 = .ok (.iinc 2 1, 3) := by decide +kernel
theorem dX12_goesOut_52 : decode cX12_goesOut 52 = .ok (.goto (-19), 3) := by decide +kernel
theorem dX12_goesOut_55 : decode cX12_goesOut 55 = .ok (.return_, 1) := by decide +kernel
theorem dX12_goes_0 : decode cX12_goes 0 = .ok (.aload_n 0, 1) := by decide +kernel
theorem dX12_goes_1 : decode cX12_goes 1 = .ok (.iconst 0, 1) := by decide +kernel
theorem dX12_goes_2 : decode cX12_goes 2 = .ok (.invokevirtual 289, 3) := by decide +kernel
theorem dX12_goes_5 : decode cX12_goes 5 = .ok (.aload_n 0, 1) := by decide +kernel
theorem dX12_goes_6 : decode cX12_goes 6 = .ok (.iconst 1, 1) := by decide +kernel
theorem dX12_goes_7 : decode cX12_goes 7 = .ok (.invokevirtual 289, 3) := by decide +kernel
theorem dX12_goes_10 : decode cX12_goes 10 = .ok (.iconst 0, 1) := by decide +kernel
theorem dX12_goes_11 : decode cX12_goes 11 = .ok (.istore_n 1, 1) := by decide +kernel
theorem dX12_goes_12 : decode cX12_goes 12 = .ok (.iload_n 1, 1) := by decide +kernel
theorem dX12_goes_13 : decode cX12_goes 13 = .ok (.aload_n 0, 1) := by decide +kernel
theorem dX12_goes_14 : decode cX12_goes 14 = .ok (.getfield 180, 3) := by decide +kernel
theorem dX12_goes_17 : decode cX12_goes 17 = .ok (.if_icmp .ge 47, 3) := by decide +kernel
theorem dX12_goes_20 : decode cX12_goes 20 = .ok (.aload_n 0, 1) := by decide +kernel
theorem dX12_goes_21 : decode cX12_goes 21 = .ok (.iload_n 1, 1) := by decide +kernel
theorem dX12_goes_22 : decode cX12_goes 22 = .ok (.invokevirtual 242, 3) := by decide +kernel
theorem dX12_goes_25 : decode cX12_goes 25 = .ok (.istore_n 2, 1) := by decide +kernel
theorem dX12_goes_26 : decode cX12_goes 26 = .ok (.iload_n 2, 1) := by decide +kernel
theorem dX12_goes_27 : decode cX12_goes 27 = .ok (.ifCond .le 31, 3) := by decide +kernel
theorem dX12_goes_30 : decode cX12_goes 30 = .ok (.aload_n 0, 1) := by decide +kernel
theorem dX12_goes_31 : decode cX12_goes 31 = .ok (.iload_n 2, 1) := by decide +kernel
theorem dX12_goes_32 : decode cX12_goes 32 = .ok (.iconst 1, 1) := by decide +kernel
theorem dX12_goes_33 : decode cX12_goes 33 = .ok (.isub, 1) := by decide +kernel
theorem dX12_goes_34 : decode cX12_goes 34 = .ok (.iload_n 1, 1) := by decide +kernel
theorem dX12_goes_35 : decode cX12_goes 35 = .ok (.iload_n 2, 1) := by decide +kernel
theorem dX12_goes_36 : decode cX12_goes 36 = .ok (.iconst 1, 1) := by decide +kernel
theorem dX12_goes_37 : decode cX12_goes 37 = .ok (.if_icmp .ne 7, 3) := by decide +kernel
theorem dX12_goes_40 : decode cX12_goes 40 = .ok (.iload_n 1, 1) := by decide +kernel
theorem dX12_goes_41 : decode cX12_goes 41 = .ok (.goto 9, 3) := by decide +kernel
theorem dX12_goes_44 : decode cX12_goes 44 = .ok (.iload_n 1, 1) := by decide +kernel
theorem dX12_goes_45 : decode cX12_goes 45 = .ok (.aload_n 0, 1) := by decide +kernel
theorem dX12_goes_46 : decode cX12_goes 46 = .ok (.invokevirtual 212, 3) := by decide +kernel
theorem dX12_goes_49 : decode cX12_goes 49 = .ok (.isub, 1) := by decide +kernel
theorem dX12_goes_50 : decode cX12_goes 50 = .ok (.aload_n 0, 1) := by decide +kernel
theorem dX12_goes_51 : decode cX12_goes 51 = .ok (.iload_n 1, 1) := by decide +kernel
theorem dX12_goes_52 : decode cX12_goes 52 = .ok (.invokevirtual 292, 3) := by decide +kernel
theorem dX12_goes_55 : decode cX12_goes 55 = .ok (.invokevirtual 295, 3) := by decide +kernel
theorem dX12_goes_58 : decode cX12_goes 58 = .ok (.iinc 1 1, 3) := by decide +kernel
theorem dX12_goes_61 : decode cX12_goes 61 = .ok (.goto (-49), 3) := by decide +kernel
theorem dX12_goes_64 : decode cX12_goes 64 = .ok (.return_, 1) := by decide +kernel
theorem dX12_joins_0 : decode cX12_joins 0 = .ok (.iconst 0, 1) := by decide +kernel
theorem dX12_joins_1 : decode cX12_joins 1 = .ok (.istore_n 1, 1) := by decide +kernel
theorem dX12_joins_2 : decode cX12_joins 2 = .ok (.iload_n 1, 1) := by decide +kernel
theorem dX12_joins_3 : decode cX12_joins 3 = .ok (.iconst 4, 1) := by decide +kernel
theorem dX12_joins_4 : decode cX12_joins 4 = .ok (.if_icmp .ge 170, 3) := by decide +kernel
theorem dX12_joins_7 : decode cX12_joins 7 = .ok (.aload_n 0, 1) := by decide +kernel
theorem dX12_joins_8 : decode cX12_joins 8 = .ok (.getfield 100, 3) := by decide +kernel
theorem dX12_joins_11 : decode cX12_joins 11 = .ok (.iload_n 1, 1) := by decide +kernel
theorem dX12_joins_12 : decode cX12_joins 12 = .ok (.aload_n 0, 1) := by decide +kernel
theorem dX12_joins_13 : decode cX12_joins 13 = .ok (.getfield 79, 3) := by decide +kernel
theorem dX12_joins_16 : decode cX12_joins 16 = .ok (.iload_n 1, 1) := by decide +kernel
theorem dX12_joins_17 : decode cX12_joins 17 = .ok (.iaload, 1) := by decide +kernel
theorem dX12_joins_18 : decode cX12_joins 18 = .ok (.ifCond .ne 7, 3) := by decide +kernel
theorem dX12_joins_21 : decode cX12_joins 21 = .ok (.iconst 0, 1) := by decide +kernel
theorem dX12_joins_22 : decode cX12_joins 22 = .ok (.goto 9, 3) := by decide +kernel
theorem dX12_joins_25 : decode cX12_joins 25 = .ok (.aload_n 0, 1) := by decide +kernel
theorem dX12_joins_26 : decode cX12_joins 26 = .ok (.getfield 88, 3) := by decide +kernel
theorem dX12_joins_29 : decode cX12_joins 29 = .ok (.iload_n 1, 1) := by decide +kernel
theorem dX12_joins_30 : decode cX12_joins 30 = .ok (.iaload, 1) := by decide +kernel
theorem dX12_joins_31 : decode cX12_joins 31 = .ok (.iastore, 1) := by decide +kernel
theorem dX12_joins_32 : decode cX12_joins 32 = .ok (.aload_n 0, 1) := by decide +kernel
theorem dX12_joins_33 : decode cX12_joins 33 = .ok (.getfield 103, 3) := by decide +kernel
theorem dX12_joins_36 : decode cX12_joins 36 = .ok (.iload_n 1, 1) := by decide +kernel
theorem dX12_joins_37 : decode cX12_joins 37 = .ok (.aload_n 0, 1) := by decide +kernel
theorem dX12_joins_38 : decode cX12_joins 38 = .ok (.getfield 97, 3) := by decide +kernel
theorem dX12_joins_41 : decode cX12_joins 41 = .ok (.iload_n 1, 1) := by decide +kernel
theorem dX12_joins_42 : decode cX12_joins 42 = .ok (.iaload, 1) := by decide +kernel
theorem dX12_joins_43 : decode cX12_joins 43 = .ok (.aload_n 0, 1) := by decide +kernel
theorem dX12_joins_44 : decode cX12_joins 44 = .ok (.getfield 97, 3) := by decide +kernel
theorem dX12_joins_47 : decode cX12_joins 47 = .ok (.iconst 4, 1) := by decide +kernel
theorem dX12_joins_48 : decode cX12_joins 48 = .ok (.iload_n 1, 1) := by decide +kernel
theorem dX12_joins_49 : decode cX12_joins 49 = .ok (.iadd, 1) := by decide +kernel
theorem dX12_joins_50 : decode cX12_joins 50 = .ok (.iaload, 1) := by decide +kernel
theorem dX12_joins_51 : decode cX12_joins 51 = .ok (.iadd, 1) := by decide +kernel
theorem dX12_joins_52 : decode cX12_joins 52 = .ok (.iastore, 1) := by decide +kernel
theorem dX12_joins_53 : decode cX12_joins 53 = .ok (.iconst 0, 1) := by decide +kernel
theorem dX12_joins_54 : decode cX12_joins 54 = .ok (.istore_n 2, 1) := by decide +kernel
theorem dX12_joins_55 : decode cX12_joins 55 = .ok (.iload_n 2, 1) := by decide +kernel
theorem dX12_joins_56 : decode cX12_joins 56 = .ok (.bipush 8, 2) := by decide +kernel
theorem dX12_joins_58 : decode cX12_joins 58 = .ok (.if_icmp .ge 110, 3) := by decide +kernel
theorem dX12_joins_61 : decode cX12_joins 61 = .ok (.aload_n 0, 1) := by decide +kernel
theorem dX12_joins_62 : decode cX12_joins 62 = .ok (.getfield 94, 3) := by decide +kernel
theorem dX12_joins_65 : decode cX12_joins 65 = .ok (.bipush 8, 2) := by decide +kernel
theorem dX12_joins_67 : decode cX12_joins 67 = .ok (.iload_n 1, 1) := by decide +kernel
theorem dX12_joins_68 : decode cX12_joins 68 = .ok (.imul, 1) := by decide +kernel
theorem dX12_joins_69 : decode cX12_joins 69 = .ok (.iload_n 2, 1) := by decide +kernel
theorem dX12_joins_70 : decode cX12_joins 70 = .ok (.iadd, 1) := by decide +kernel
theorem dX12_joins_71 : decode cX12_joins 71 = .ok (.iaload, 1) := by decide +kernel
theorem dX12_joins_72 : decode cX12_joins 72 = .ok (.istore_n 3, 1) := by decide +kernel
theorem dX12_joins_73 : decode cX12_joins 73 = .ok (.aload_n 0, 1) := by decide +kernel
theorem dX12_joins_74 : decode cX12_joins 74 = .ok (.getfield 94, 3) := by decide +kernel
theorem dX12_joins_77 : decode cX12_joins 77 = .ok (.bipush 32, 2) := by decide +kernel
theorem dX12_joins_79 : decode cX12_joins 79 = .ok (.bipush 8, 2) := by decide +kernel
theorem dX12_joins_81 : decode cX12_joins 81 = .ok (.iload_n 1, 1) := by decide +kernel
theorem dX12_joins_82 : decode cX12_joins 82 = .ok (.imul, 1) := by decide +kernel
theorem dX12_joins_83 : decode cX12_joins 83 = .ok (.iadd, 1) := by decide +kernel
theorem dX12_joins_84 : decode cX12_joins 84 = .ok (.iload_n 2, 1) := by decide +kernel
theorem dX12_joins_85 : decode cX12_joins 85 = .ok (.iadd, 1) := by decide +kernel
theorem dX12_joins_86 : decode cX12_joins 86 = .ok (.iaload, 1) := by decide +kernel
theorem dX12_joins_87 : decode cX12_joins 87 = .ok (.istore 4, 2) := by decide +kernel
theorem dX12_joins_89 : decode cX12_joins 89 = .ok (.aload_n 0, 1) := by decide +kernel
theorem dX12_joins_90 : decode cX12_joins 90 = .ok (.getfield 79, 3) := by decide +kernel
theorem dX12_joins_93 : decode cX12_joins 93 = .ok (.iload_n 1, 1) := by decide +kernel
theorem dX12_joins_94 : decode cX12_joins 94 = .ok (.iaload, 1) := by decide +kernel
theorem dX12_joins_95 : decode cX12_joins 95 = .ok (.bipush 7, 2) := by decide +kernel
theorem dX12_joins_97 : decode cX12_joins 97 = .ok (.if_icmp .eq 14, 3) := by decide +kernel
theorem dX12_joins_100 : decode cX12_joins 100 = .ok (.aload_n 0, 1) := by decide +kernel
theorem dX12_joins_101 : decode cX12_joins 101 = .ok (.getfield 79, 3) := by decide +kernel
theorem dX12_joins_104 : decode cX12_joins 104 = .ok (.iload_n 1, 1) := by decide +kernel
theorem dX12_joins_105 : decode cX12_joins 105 = .ok (.iaload, 1) := by decide +kernel
theorem dX12_joins_106 : decode cX12_joins 106 = .ok (.bipush 9, 2) := by decide +kernel
theorem dX12_joins_108 : decode cX12_joins 108 = .ok (.if_icmp .ne 7, 3) := by decide +kernel
theorem dX12_joins_111 : decode cX12_joins 111 = .ok (.iconst 1, 1) := by decide +kernel
theorem dX12_joins_112 : decode cX12_joins 112 = .ok (.goto 4, 3) := by decide +kernel
theorem dX12_joins_115 : decode cX12_joins 115 = .ok (.iconst 0, 1) := by decide +kernel
theorem dX12_joins_116 : decode cX12_joins 116 = .ok (.istore 5, 2) := by decide +kernel
theorem dX12_joins_118 : decode cX12_joins 118 = .ok (.aload_n 0, 1) := by decide +kernel
theorem dX12_joins_119 : decode cX12_joins 119 = .ok (.getfield 106, 3) := by decide +kernel
theorem dX12_joins_122 : decode cX12_joins 122 = .ok (.bipush 8, 2) := by decide +kernel
theorem dX12_joins_124 : decode cX12_joins 124 = .ok (.iload_n 1, 1) := by decide +kernel
theorem dX12_joins_125 : decode cX12_joins 125 = .ok (.imul, 1) := by decide +kernel
theorem dX12_joins_126 : decode cX12_joins 126 = .ok (.iload_n 2, 1) := by decide +kernel
theorem dX12_joins_127 : decode cX12_joins 127 = .ok (.iadd, 1) := by decide +kernel
theorem dX12_joins_128 : decode cX12_joins 128 = .ok (.iload 5, 2) := by decide +kernel
theorem dX12_joins_130 : decode cX12_joins 130 = .ok (.ifCond .eq 10, 3) := by decide +kernel
theorem dX12_joins_133 : decode cX12_joins 133 = .ok (.iload_n 3, 1) := by decide +kernel
theorem dX12_joins_134 : decode cX12_joins 134 = .ok (.iload 4, 2) := by decide +kernel
theorem dX12_joins_136 : decode cX12_joins 136 = .ok (.ior, 1) := by decide +kernel
theorem dX12_joins_137 : decode cX12_joins 137 = .ok (.goto 24, 3) := by decide +kernel
theorem dX12_joins_140 : decode cX12_joins 140 = .ok (.iload_n 3, 1) := by decide +kernel
theorem dX12_joins_141 : decode cX12_joins 141 = .ok (.aload_n 0, 1) := by decide +kernel
theorem dX12_joins_142 : decode cX12_joins 142 = .ok (.getfield 91, 3) := by decide +kernel
theorem dX12_joins_145 : decode cX12_joins 145 = .ok (.bipush 8, 2) := by decide +kernel
theorem dX12_joins_147 : decode cX12_joins 147 = .ok (.iload_n 1, 1) := by decide +kernel
theorem dX12_joins_148 : decode cX12_joins 148 = .ok (.imul, 1) := by decide +kernel
theorem dX12_joins_149 : decode cX12_joins 149 = .ok (.iload_n 2, 1) := by decide +kernel
theorem dX12_joins_150 : decode cX12_joins 150 = .ok (.iadd, 1) := by decide +kernel
theorem dX12_joins_151 : decode cX12_joins 151 = .ok (.iaload, 1) := by decide +kernel
theorem dX12_joins_152 : decode cX12_joins 152 = .ok (.if_icmp .eq 7, 3) := by decide +kernel
theorem dX12_joins_155 : decode cX12_joins 155 = .ok (.iload_n 3, 1) := by decide +kernel
theorem dX12_joins_156 : decode cX12_joins 156 = .ok (.goto 5, 3) := by decide +kernel
theorem dX12_joins_159 : decode cX12_joins 159 = .ok (.iload 4, 2) := by decide +kernel
theorem dX12_joins_161 : decode cX12_joins 161 = .ok (.iastore, 1) := by decide +kernel
theorem dX12_joins_162 : decode cX12_joins 162 = .ok (.iinc 2 1, 3) := by decide +kernel
theorem dX12_joins_165 : decode cX12_joins 165 = .ok (.goto (-110), 3) := by decide +kernel
theorem dX12_joins_168 : decode cX12_joins 168 = .ok (.iinc 1 1, 3) := by decide +kernel
theorem dX12_joins_171 : decode cX12_joins 171 = .ok (.goto (-169), 3) := by decide +kernel
theorem dX12_joins_174 : decode cX12_joins 174 = .ok (.aload_n 0, 1) := by decide +kernel
theorem dX12_joins_175 : decode cX12_joins 175 = .ok (.iconst 1, 1) := by decide +kernel
theorem dX12_joins_176 : decode cX12_joins 176 = .ok (.putfield 199, 3) := by decide +kernel
theorem dX12_joins_179 : decode cX12_joins 179 = .ok (.return_, 1) := by decide +kernel
theorem dX12_keptAt_0 : decode cX12_keptAt 0 = .ok (.iconst 0, 1) := by decide +kernel
theorem dX12_keptAt_1 : decode cX12_keptAt 1 = .ok (.istore_n 2, 1) := by decide +kernel
theorem dX12_keptAt_2 : decode cX12_keptAt 2 = .ok (.iload_n 2, 1) := by decide +kernel
theorem dX12_keptAt_3 : decode cX12_keptAt 3 = .ok (.aload_n 0, 1) := by decide +kernel
theorem dX12_keptAt_4 : decode cX12_keptAt 4 = .ok (.getfield 203, 3) := by decide +kernel
theorem dX12_keptAt_7 : decode cX12_keptAt 7 = .ok (.if_icmp .ge 85, 3) := by decide +kernel
theorem dX12_keptAt_10 : decode cX12_keptAt 10 = .ok (.aload_n 0, 1) := by decide +kernel
theorem dX12_keptAt_11 : decode cX12_keptAt 11 = .ok (.getfield 109, 3) := by decide +kernel
theorem dX12_keptAt_14 : decode cX12_keptAt 14 = .ok (.iconst 5, 1) := by decide +kernel
theorem dX12_keptAt_15 : decode cX12_keptAt 15 = .ok (.iload_n 2, 1) := by decide +kernel
theorem dX12_keptAt_16 : decode cX12_keptAt 16 = .ok (.imul, 1) := by decide +kernel
theorem dX12_keptAt_17 : decode cX12_keptAt 17 = .ok (.iaload, 1) := by decide +kernel
theorem dX12_keptAt_18 : decode cX12_keptAt 18 = .ok (.aload_n 0, 1) := by decide +kernel
theorem dX12_keptAt_19 : decode cX12_keptAt 19 = .ok (.getfield 79, 3) := by decide +kernel
theorem dX12_keptAt_22 : decode cX12_keptAt 22 = .ok (.iload_n 1, 1) := by decide +kernel
theorem dX12_keptAt_23 : decode cX12_keptAt 23 = .ok (.iaload, 1) := by decide +kernel
theorem dX12_keptAt_24 : decode cX12_keptAt 24 = .ok (.if_icmp .ne 62, 3) := by decide +kernel
theorem dX12_keptAt_27 : decode cX12_keptAt 27 = .ok (.aload_n 0, 1) := by decide +kernel
theorem dX12_keptAt_28 : decode cX12_keptAt 28 = .ok (.getfield 109, 3) := by decide +kernel
theorem dX12_keptAt_31 : decode cX12_keptAt 31 = .ok (.iconst 5, 1) := by decide +kernel
theorem dX12_keptAt_32 : decode cX12_keptAt 32 = .ok (.iload_n 2, 1) := by decide +kernel
theorem dX12_keptAt_33 : decode cX12_keptAt 33 = .ok (.imul, 1) := by decide +kernel
theorem dX12_keptAt_34 : decode cX12_keptAt 34 = .ok (.iconst 1, 1) := by decide +kernel
theorem dX12_keptAt_35 : decode cX12_keptAt 35 = .ok (.iadd, 1) := by decide +kernel
theorem dX12_keptAt_36 : decode cX12_keptAt 36 = .ok (.iaload, 1) := by decide +kernel
theorem dX12_keptAt_37 : decode cX12_keptAt 37 = .ok (.aload_n 0, 1) := by decide +kernel
theorem dX12_keptAt_38 : decode cX12_keptAt 38 = .ok (.getfield 82, 3) := by decide +kernel
theorem dX12_keptAt_41 : decode cX12_keptAt 41 = .ok (.iload_n 1, 1) := by decide +kernel
theorem dX12_keptAt_42 : decode cX12_keptAt 42 = .ok (.iaload, 1) := by decide +kernel
theorem dX12_keptAt_43 : decode cX12_keptAt 43 = .ok (.if_icmp .ne 43, 3) := by decide +kernel
theorem dX12_keptAt_46 : decode cX12_keptAt 46 = .ok (.aload_n 0, 1) := by decide +kernel
theorem dX12_keptAt_47 : decode cX12_keptAt 47 = .ok (.getfield 109, 3) := by decide +kernel
theorem dX12_keptAt_50 : decode cX12_keptAt 50 = .ok (.iconst 5, 1) := by decide +kernel
theorem dX12_keptAt_51 : decode cX12_keptAt 51 = .ok (.iload_n 2, 1) := by decide +kernel
theorem dX12_keptAt_52 : decode cX12_keptAt 52 = .ok (.imul, 1) := by decide +kernel
theorem dX12_keptAt_53 : decode cX12_keptAt 53 = .ok (.iconst 2, 1) := by decide +kernel
theorem dX12_keptAt_54 : decode cX12_keptAt 54 = .ok (.iadd, 1) := by decide +kernel
theorem dX12_keptAt_55 : decode cX12_keptAt 55 = .ok (.iaload, 1) := by decide +kernel
theorem dX12_keptAt_56 : decode cX12_keptAt 56 = .ok (.aload_n 0, 1) := by decide +kernel
theorem dX12_keptAt_57 : decode cX12_keptAt 57 = .ok (.getfield 85, 3) := by decide +kernel
theorem dX12_keptAt_60 : decode cX12_keptAt 60 = .ok (.iload_n 1, 1) := by decide +kernel
theorem dX12_keptAt_61 : decode cX12_keptAt 61 = .ok (.iaload, 1) := by decide +kernel
theorem dX12_keptAt_62 : decode cX12_keptAt 62 = .ok (.if_icmp .ne 24, 3) := by decide +kernel
theorem dX12_keptAt_65 : decode cX12_keptAt 65 = .ok (.aload_n 0, 1) := by decide +kernel
theorem dX12_keptAt_66 : decode cX12_keptAt 66 = .ok (.getfield 109, 3) := by decide +kernel
theorem dX12_keptAt_69 : decode cX12_keptAt 69 = .ok (.iconst 5, 1) := by decide +kernel
theorem dX12_keptAt_70 : decode cX12_keptAt 70 = .ok (.iload_n 2, 1) := by decide +kernel
theorem dX12_keptAt_71 : decode cX12_keptAt 71 = .ok (.imul, 1) := by decide +kernel
theorem dX12_keptAt_72 : decode cX12_keptAt 72 = .ok (.iconst 3, 1) := by decide +kernel
theorem dX12_keptAt_73 : decode cX12_keptAt 73 = .ok (.iadd, 1) := by decide +kernel
theorem dX12_keptAt_74 : decode cX12_keptAt 74 = .ok (.iaload, 1) := by decide +kernel
theorem dX12_keptAt_75 : decode cX12_keptAt 75 = .ok (.aload_n 0, 1) := by decide +kernel
theorem dX12_keptAt_76 : decode cX12_keptAt 76 = .ok (.getfield 88, 3) := by decide +kernel
theorem dX12_keptAt_79 : decode cX12_keptAt 79 = .ok (.iload_n 1, 1) := by decide +kernel
theorem dX12_keptAt_80 : decode cX12_keptAt 80 = .ok (.iaload, 1) := by decide +kernel
theorem dX12_keptAt_81 : decode cX12_keptAt 81 = .ok (.if_icmp .ne 5, 3) := by decide +kernel
theorem dX12_keptAt_84 : decode cX12_keptAt 84 = .ok (.iload_n 2, 1) := by decide +kernel
theorem dX12_keptAt_85 : decode cX12_keptAt 85 = .ok (.ireturn, 1) := by decide +kernel
theorem dX12_keptAt_86 : decode cX12_keptAt 86 = .ok (.iinc 2 1, 3) := by decide +kernel
theorem dX12_keptAt_89 : decode cX12_keptAt 89 = .ok (.goto (-87), 3) := by decide +kernel
theorem dX12_keptAt_92 : decode cX12_keptAt 92 = .ok (.bipush (-4), 2) := by decide +kernel
theorem dX12_keptAt_94 : decode cX12_keptAt 94 = .ok (.ireturn, 1) := by decide +kernel
theorem dX12_keeps_0 : decode cX12_keeps 0 = .ok (.aload_n 0, 1) := by decide +kernel
theorem dX12_keeps_1 : decode cX12_keeps 1 = .ok (.iload_n 1, 1) := by decide +kernel
theorem dX12_keeps_2 : decode cX12_keeps 2 = .ok (.invokevirtual 298, 3) := by decide +kernel
theorem dX12_keeps_5 : decode cX12_keeps 5 = .ok (.istore_n 2, 1) := by decide +kernel
theorem dX12_keeps_6 : decode cX12_keeps 6 = .ok (.iload_n 2, 1) := by decide +kernel
theorem dX12_keeps_7 : decode cX12_keeps 7 = .ok (.bipush (-4), 2) := by decide +kernel
theorem dX12_keeps_9 : decode cX12_keeps 9 = .ok (.if_icmp .eq 85, 3) := by decide +kernel
theorem dX12_keeps_12 : decode cX12_keeps 12 = .ok (.aload_n 0, 1) := by decide +kernel
theorem dX12_keeps_13 : decode cX12_keeps 13 = .ok (.dup, 1) := by decide +kernel
theorem dX12_keeps_14 : decode cX12_keeps 14 = .ok (.getfield 206, 3) := by decide +kernel
theorem dX12_keeps_17 : decode cX12_keeps 17 = .ok (.aload_n 0, 1) := by decide +kernel
theorem dX12_keeps_18 : decode cX12_keeps 18 = .ok (.getfield 103, 3) := by decide +kernel
theorem dX12_keeps_21 : decode cX12_keeps 21 = .ok (.iload_n 1, 1) := by decide +kernel
theorem dX12_keeps_22 : decode cX12_keeps 22 = .ok (.iaload, 1) := by decide +kernel
theorem dX12_keeps_23 : decode cX12_keeps 23 = .ok (.aload_n 0, 1) := by decide +kernel
theorem dX12_keeps_24 : decode cX12_keeps 24 = .ok (.getfield 109, 3) := by decide +kernel
theorem dX12_keeps_27 : decode cX12_keeps 27 = .ok (.iconst 5, 1) := by decide +kernel
theorem dX12_keeps_28 : decode cX12_keeps 28 = .ok (.iload_n 2, 1) := by decide +kernel
theorem dX12_keeps_29 : decode cX12_keeps 29 = .ok (.imul, 1) := by decide +kernel
theorem dX12_keeps_30 : decode cX12_keeps 30 = .ok (.iconst 4, 1) := by decide +kernel
theorem dX12_keeps_31 : decode cX12_keeps 31 = .ok (.iadd, 1) := by decide +kernel
theorem dX12_keeps_32 : decode cX12_keeps 32 = .ok (.iaload, 1) := by decide +kernel
theorem dX12_keeps_33 : decode cX12_keeps 33 = .ok (.if_icmp .ge 7, 3) := by decide +kernel
theorem dX12_keeps_36 : decode cX12_keeps 36 = .ok (.iconst 1, 1) := by decide +kernel
theorem dX12_keeps_37 : decode cX12_keeps 37 = .ok (.goto 4, 3) := by decide +kernel
theorem dX12_keeps_40 : decode cX12_keeps 40 = .ok (.iconst 0, 1) := by decide +kernel
theorem dX12_keeps_41 : decode cX12_keeps 41 = .ok (.iadd, 1) := by decide +kernel
theorem dX12_keeps_42 : decode cX12_keeps 42 = .ok (.putfield 206, 3) := by decide +kernel
theorem dX12_keeps_45 : decode cX12_keeps 45 = .ok (.aload_n 0, 1) := by decide +kernel
theorem dX12_keeps_46 : decode cX12_keeps 46 = .ok (.getfield 109, 3) := by decide +kernel
theorem dX12_keeps_49 : decode cX12_keeps 49 = .ok (.iconst 5, 1) := by decide +kernel
theorem dX12_keeps_50 : decode cX12_keeps 50 = .ok (.iload_n 2, 1) := by decide +kernel
theorem dX12_keeps_51 : decode cX12_keeps 51 = .ok (.imul, 1) := by decide +kernel
theorem dX12_keeps_52 : decode cX12_keeps 52 = .ok (.iconst 4, 1) := by decide +kernel
theorem dX12_keeps_53 : decode cX12_keeps 53 = .ok (.iadd, 1) := by decide +kernel
theorem dX12_keeps_54 : decode cX12_keeps 54 = .ok (.aload_n 0, 1) := by decide +kernel
theorem dX12_keeps_55 : decode cX12_keeps 55 = .ok (.getfield 103, 3) := by decide +kernel
theorem dX12_keeps_58 : decode cX12_keeps 58 = .ok (.iload_n 1, 1) := by decide +kernel
theorem dX12_keeps_59 : decode cX12_keeps 59 = .ok (.iaload, 1) := by decide +kernel
theorem dX12_keeps_60 : decode cX12_keeps 60 = .ok (.aload_n 0, 1) := by decide +kernel
theorem dX12_keeps_61 : decode cX12_keeps 61 = .ok (.getfield 109, 3) := by decide +kernel
theorem dX12_keeps_64 : decode cX12_keeps 64 = .ok (.iconst 5, 1) := by decide +kernel
theorem dX12_keeps_65 : decode cX12_keeps 65 = .ok (.iload_n 2, 1) := by decide +kernel
theorem dX12_keeps_66 : decode cX12_keeps 66 = .ok (.imul, 1) := by decide +kernel
theorem dX12_keeps_67 : decode cX12_keeps 67 = .ok (.iconst 4, 1) := by decide +kernel
theorem dX12_keeps_68 : decode cX12_keeps 68 = .ok (.iadd, 1) := by decide +kernel
theorem dX12_keeps_69 : decode cX12_keeps 69 = .ok (.iaload, 1) := by decide +kernel
theorem dX12_keeps_70 : decode cX12_keeps 70 = .ok (.if_icmp .le 12, 3) := by decide +kernel
theorem dX12_keeps_73 : decode cX12_keeps 73 = .ok (.aload_n 0, 1) := by decide +kernel
theorem dX12_keeps_74 : decode cX12_keeps 74 = .ok (.getfield 103, 3) := by decide +kernel
theorem dX12_keeps_77 : decode cX12_keeps 77 = .ok (.iload_n 1, 1) := by decide +kernel
theorem dX12_keeps_78 : decode cX12_keeps 78 = .ok (.iaload, 1) := by decide +kernel
theorem dX12_keeps_79 : decode cX12_keeps 79 = .ok (.goto 13, 3) := by decide +kernel
theorem dX12_keeps_82 : decode cX12_keeps 82 = .ok (.aload_n 0, 1) := by decide +kernel
theorem dX12_keeps_83 : decode cX12_keeps 83 = .ok (.getfield 109, 3) := by decide +kernel
theorem dX12_keeps_86 : decode cX12_keeps 86 = .ok (.iconst 5, 1) := by decide +kernel
theorem dX12_keeps_87 : decode cX12_keeps 87 = .ok (.iload_n 2, 1) := by decide +kernel
theorem dX12_keeps_88 : decode cX12_keeps 88 = .ok (.imul, 1) := by decide +kernel
theorem dX12_keeps_89 : decode cX12_keeps 89 = .ok (.iconst 4, 1) := by decide +kernel
theorem dX12_keeps_90 : decode cX12_keeps 90 = .ok (.iadd, 1) := by decide +kernel
theorem dX12_keeps_91 : decode cX12_keeps 91 = .ok (.iaload, 1) := by decide +kernel
theorem dX12_keeps_92 : decode cX12_keeps 92 = .ok (.iastore, 1) := by decide +kernel
theorem dX12_keeps_93 : decode cX12_keeps 93 = .ok (.return_, 1) := by decide +kernel
theorem dX12_keeps_94 : decode cX12_keeps 94 = .ok (.aload_n 0, 1) := by decide +kernel
theorem dX12_keeps_95 : decode cX12_keeps 95 = .ok (.getfield 203, 3) := by decide +kernel
theorem dX12_keeps_98 : decode cX12_keeps 98 = .ok (.bipush 6, 2) := by decide +kernel
theorem dX12_keeps_100 : decode cX12_keeps 100 = .ok (.if_icmp .ne 41, 3) := by decide +kernel
theorem dX12_keeps_103 : decode cX12_keeps 103 = .ok (.iconst 0, 1) := by decide +kernel
theorem dX12_keeps_104 : decode cX12_keeps 104 = .ok (.istore_n 3, 1) := by decide +kernel
theorem dX12_keeps_105 : decode cX12_keeps 105 = .ok (.iload_n 3, 1) := by decide +kernel
theorem dX12_keeps_106 : decode cX12_keeps 106 = .ok (.bipush 25, 2) := by decide +kernel
theorem dX12_keeps_108 : decode cX12_keeps 108 = .ok (.if_icmp .ge 23, 3) := by decide +kernel
theorem dX12_keeps_111 : decode cX12_keeps 111 = .ok (.aload_n 0, 1) := by decide +kernel
theorem dX12_keeps_112 : decode cX12_keeps 112 = .ok (.getfield 109, 3) := by decide +kernel
theorem dX12_keeps_115 : decode cX12_keeps 115 = .ok (.iload_n 3, 1) := by decide +kernel
theorem dX12_keeps_116 : decode cX12_keeps 116 = .ok (.aload_n 0, 1) := by decide +kernel
theorem dX12_keeps_117 : decode cX12_keeps 117 = .ok (.getfield 109, 3) := by decide +kernel
theorem dX12_keeps_120 : decode cX12_keeps 120 = .ok (.iload_n 3, 1) := by decide +kernel
theorem dX12_keeps_121 : decode cX12_keeps 121 = .ok (.iconst 5, 1) := by decide +kernel
theorem dX12_keeps_122 : decode cX12_keeps 122 = .ok (.iadd, 1) := by decide +kernel
theorem dX12_keeps_123 : decode cX12_keeps 123 = .ok (.iaload, 1) := by decide +kernel
theorem dX12_keeps_124 : decode cX12_keeps 124 = .ok (.iastore, 1) := by decide +kernel
theorem dX12_keeps_125 : decode cX12_keeps 125 = .ok (.iinc 3 1, 3) := by decide +kernel
theorem dX12_keeps_128 : decode cX12_keeps 128 = .ok (.goto (-23), 3) := by decide +kernel
theorem dX12_keeps_131 : decode cX12_keeps 131 = .ok (.aload_n 0, 1) := by decide +kernel
theorem dX12_keeps_132 : decode cX12_keeps 132 = .ok (.dup, 1) := by decide +kernel
theorem dX12_keeps_133 : decode cX12_keeps 133 = .ok (.getfield 203, 3) := by decide +kernel
theorem dX12_keeps_136 : decode cX12_keeps 136 = .ok (.iconst 1, 1) := by decide +kernel
theorem dX12_keeps_137 : decode cX12_keeps 137 = .ok (.isub, 1) := by decide +kernel
theorem dX12_keeps_138 : decode cX12_keeps 138 = .ok (.putfield 203, 3) := by decide +kernel
theorem dX12_keeps_141 : decode cX12_keeps 141 = .ok (.aload_n 0, 1) := by decide +kernel
theorem dX12_keeps_142 : decode cX12_keeps 142 = .ok (.getfield 109, 3) := by decide +kernel
theorem dX12_keeps_145 : decode cX12_keeps 145 = .ok (.iconst 5, 1) := by decide +kernel
theorem dX12_keeps_146 : decode cX12_keeps 146 = .ok (.aload_n 0, 1) := by decide +kernel
theorem dX12_keeps_147 : decode cX12_keeps 147 = .ok (.getfield 203, 3) := by decide +kernel
theorem dX12_keeps_150 : decode cX12_keeps 150 = .ok (.imul, 1) := by decide +kernel
theorem dX12_keeps_151 : decode cX12_keeps 151 = .ok (.aload_n 0, 1) := by decide +kernel
theorem dX12_keeps_152 : decode cX12_keeps 152 = .ok (.getfield 79, 3) := by decide +kernel
theorem dX12_keeps_155 : decode cX12_keeps 155 = .ok (.iload_n 1, 1) := by decide +kernel
theorem dX12_keeps_156 : decode cX12_keeps 156 = .ok (.iaload, 1) := by decide +kernel
theorem dX12_keeps_157 : decode cX12_keeps 157 = .ok (.iastore, 1) := by decide +kernel
theorem dX12_keeps_158 : decode cX12_keeps 158 = .ok (.aload_n 0, 1) := by decide +kernel
theorem dX12_keeps_159 : decode cX12_keeps 159 = .ok (.getfield 109, 3) := by decide +kernel
theorem dX12_keeps_162 : decode cX12_keeps 162 = .ok (.iconst 5, 1) := by decide +kernel
theorem dX12_keeps_163 : decode cX12_keeps 163 = .ok (.aload_n 0, 1) := by decide +kernel
theorem dX12_keeps_164 : decode cX12_keeps 164 = .ok (.getfield 203, 3) := by decide +kernel
theorem dX12_keeps_167 : decode cX12_keeps 167 = .ok (.imul, 1) := by decide +kernel
theorem dX12_keeps_168 : decode cX12_keeps 168 = .ok (.iconst 1, 1) := by decide +kernel
theorem dX12_keeps_169 : decode cX12_keeps 169 = .ok (.iadd, 1) := by decide +kernel
theorem dX12_keeps_170 : decode cX12_keeps 170 = .ok (.aload_n 0, 1) := by decide +kernel
theorem dX12_keeps_171 : decode cX12_keeps 171 = .ok (.getfield 82, 3) := by decide +kernel
theorem dX12_keeps_174 : decode cX12_keeps 174 = .ok (.iload_n 1, 1) := by decide +kernel
theorem dX12_keeps_175 : decode cX12_keeps 175 = .ok (.iaload, 1) := by decide +kernel
theorem dX12_keeps_176 : decode cX12_keeps 176 = .ok (.iastore, 1) := by decide +kernel
theorem dX12_keeps_177 : decode cX12_keeps 177 = .ok (.aload_n 0, 1) := by decide +kernel
theorem dX12_keeps_178 : decode cX12_keeps 178 = .ok (.getfield 109, 3) := by decide +kernel
theorem dX12_keeps_181 : decode cX12_keeps 181 = .ok (.iconst 5, 1) := by decide +kernel
theorem dX12_keeps_182 : decode cX12_keeps 182 = .ok (.aload_n 0, 1) := by decide +kernel
theorem dX12_keeps_183 : decode cX12_keeps 183 = .ok (.getfield 203, 3) := by decide +kernel
theorem dX12_keeps_186 : decode cX12_keeps 186 = .ok (.imul, 1) := by decide +kernel
theorem dX12_keeps_187 : decode cX12_keeps 187 = .ok (.iconst 2, 1) := by decide +kernel
theorem dX12_keeps_188 : decode cX12_keeps 188 = .ok (.iadd, 1) := by decide +kernel
theorem dX12_keeps_189 : decode cX12_keeps 189 = .ok (.aload_n 0, 1) := by decide +kernel
theorem dX12_keeps_190 : decode cX12_keeps 190 = .ok (.getfield 85, 3) := by decide +kernel
theorem dX12_keeps_193 : decode cX12_keeps 193 = .ok (.iload_n 1, 1) := by decide +kernel
theorem dX12_keeps_194 : decode cX12_keeps 194 = .ok (.iaload, 1) := by decide +kernel
theorem dX12_keeps_195 : decode cX12_keeps 195 = .ok (.iastore, 1) := by decide +kernel
theorem dX12_keeps_196 : decode cX12_keeps 196 = .ok (.aload_n 0, 1) := by decide +kernel
theorem dX12_keeps_197 : decode cX12_keeps 197 = .ok (.getfield 109, 3) := by decide +kernel
theorem dX12_keeps_200 : decode cX12_keeps 200 = .ok (.iconst 5, 1) := by decide +kernel
theorem dX12_keeps_201 : decode cX12_keeps 201 = .ok (.aload_n 0, 1) := by decide +kernel
theorem dX12_keeps_202 : decode cX12_keeps 202 = .ok (.getfield 203, 3) := by decide +kernel
theorem dX12_keeps_205 : decode cX12_keeps 205 = .ok (.imul, 1) := by decide +kernel
theorem dX12_keeps_206 : decode cX12_keeps 206 = .ok (.iconst 3, 1) := by decide +kernel
theorem dX12_keeps_207 : decode cX12_keeps 207 = .ok (.iadd, 1) := by decide +kernel
theorem dX12_keeps_208 : decode cX12_keeps 208 = .ok (.aload_n 0, 1) := by decide +kernel
theorem dX12_keeps_209 : decode cX12_keeps 209 = .ok (.getfield 88, 3) := by decide +kernel
theorem dX12_keeps_212 : decode cX12_keeps 212 = .ok (.iload_n 1, 1) := by decide +kernel
theorem dX12_keeps_213 : decode cX12_keeps 213 = .ok (.iaload, 1) := by decide +kernel
theorem dX12_keeps_214 : decode cX12_keeps 214 = .ok (.iastore, 1) := by decide +kernel
theorem dX12_keeps_215 : decode cX12_keeps 215 = .ok (.aload_n 0, 1) := by decide +kernel
theorem dX12_keeps_216 : decode cX12_keeps 216 = .ok (.getfield 109, 3) := by decide +kernel
theorem dX12_keeps_219 : decode cX12_keeps 219 = .ok (.iconst 5, 1) := by decide +kernel
theorem dX12_keeps_220 : decode cX12_keeps 220 = .ok (.aload_n 0, 1) := by decide +kernel
theorem dX12_keeps_221 : decode cX12_keeps 221 = .ok (.getfield 203, 3) := by decide +kernel
theorem dX12_keeps_224 : decode cX12_keeps 224 = .ok (.imul, 1) := by decide +kernel
theorem dX12_keeps_225 : decode cX12_keeps 225 = .ok (.iconst 4, 1) := by decide +kernel
theorem dX12_keeps_226 : decode cX12_keeps 226 = .ok (.iadd, 1) := by decide +kernel
theorem dX12_keeps_227 : decode cX12_keeps 227 = .ok (.aload_n 0, 1) := by decide +kernel
theorem dX12_keeps_228 : decode cX12_keeps 228 = .ok (.getfield 103, 3) := by decide +kernel
theorem dX12_keeps_231 : decode cX12_keeps 231 = .ok (.iload_n 1, 1) := by decide +kernel
theorem dX12_keeps_232 : decode cX12_keeps 232 = .ok (.iaload, 1) := by decide +kernel
theorem dX12_keeps_233 : decode cX12_keeps 233 = .ok (.iastore, 1) := by decide +kernel
theorem dX12_keeps_234 : decode cX12_keeps 234 = .ok (.aload_n 0, 1) := by decide +kernel
theorem dX12_keeps_235 : decode cX12_keeps 235 = .ok (.dup, 1) := by decide +kernel
theorem dX12_keeps_236 : decode cX12_keeps 236 = .ok (.getfield 203, 3) := by decide +kernel
theorem dX12_keeps_239 : decode cX12_keeps 239 = .ok (.iconst 1, 1) := by decide +kernel
theorem dX12_keeps_240 : decode cX12_keeps 240 = .ok (.iadd, 1) := by decide +kernel
theorem dX12_keeps_241 : decode cX12_keeps 241 = .ok (.putfield 203, 3) := by decide +kernel
theorem dX12_keeps_244 : decode cX12_keeps 244 = .ok (.return_, 1) := by decide +kernel
theorem dX12_isLost_0 : decode cX12_isLost 0 = .ok (.aload_n 0, 1) := by decide +kernel
theorem dX12_isLost_1 : decode cX12_isLost 1 = .ok (.getfield 196, 3) := by decide +kernel
theorem dX12_isLost_4 : decode cX12_isLost 4 = .ok (.ifCond .ne 5, 3) := by decide +kernel
theorem dX12_isLost_7 : decode cX12_isLost 7 = .ok (.iconst 0, 1) := by decide +kernel
theorem dX12_isLost_8 : decode cX12_isLost 8 = .ok (.ireturn, 1) := by decide +kernel
theorem dX12_isLost_9 : decode cX12_isLost 9 = .ok (.aload_n 0, 1) := by decide +kernel
theorem dX12_isLost_10 : decode cX12_isLost 10 = .ok (.dup, 1) := by decide +kernel
theorem dX12_isLost_11 : decode cX12_isLost 11 = .ok (.getfield 196, 3) := by decide +kernel
theorem dX12_isLost_14 : decode cX12_isLost 14 = .ok (.iconst 1, 1) := by decide +kernel
theorem dX12_isLost_15 : decode cX12_isLost 15 = .ok (.isub, 1) := by decide +kernel
theorem dX12_isLost_16 : decode cX12_isLost 16 = .ok (.putfield 196, 3) := by decide +kernel
theorem dX12_isLost_19 : decode cX12_isLost 19 = .ok (.iconst 1, 1) := by decide +kernel
theorem dX12_isLost_20 : decode cX12_isLost 20 = .ok (.ireturn, 1) := by decide +kernel
theorem dX12_send_0 : decode cX12_send 0 = .ok (.iconst 0, 1) := by decide +kernel
theorem dX12_send_1 : decode cX12_send 1 = .ok (.istore_n 1, 1) := by decide +kernel
theorem dX12_send_2 : decode cX12_send 2 = .ok (.iconst 0, 1) := by decide +kernel
theorem dX12_send_3 : decode cX12_send 3 = .ok (.istore_n 2, 1) := by decide +kernel
theorem dX12_send_4 : decode cX12_send 4 = .ok (.iload_n 2, 1) := by decide +kernel
theorem dX12_send_5 : decode cX12_send 5 = .ok (.iconst 4, 1) := by decide +kernel
theorem dX12_send_6 : decode cX12_send 6 = .ok (.if_icmp .ge 28, 3) := by decide +kernel
theorem dX12_send_9 : decode cX12_send 9 = .ok (.iload_n 1, 1) := by decide +kernel
theorem dX12_send_10 : decode cX12_send 10 = .ok (.ifCond .ne 12, 3) := by decide +kernel
theorem dX12_send_13 : decode cX12_send 13 = .ok (.aload_n 0, 1) := by decide +kernel
theorem dX12_send_14 : decode cX12_send 14 = .ok (.getfield 79, 3) := by decide +kernel
theorem dX12_send_17 : decode cX12_send 17 = .ok (.iload_n 2, 1) := by decide +kernel
theorem dX12_send_18 : decode cX12_send 18 = .ok (.iaload, 1) := by decide +kernel
theorem dX12_send_19 : decode cX12_send 19 = .ok (.ifCond .le 7, 3) := by decide +kernel
theorem dX12_send_22 : decode cX12_send 22 = .ok (.iconst 1, 1) := by decide +kernel
theorem dX12_send_23 : decode cX12_send 23 = .ok (.goto 4, 3) := by decide +kernel
theorem dX12_send_26 : decode cX12_send 26 = .ok (.iconst 0, 1) := by decide +kernel
theorem dX12_send_27 : decode cX12_send 27 = .ok (.istore_n 1, 1) := by decide +kernel
theorem dX12_send_28 : decode cX12_send 28 = .ok (.iinc 2 1, 3) := by decide +kernel
theorem dX12_send_31 : decode cX12_send 31 = .ok (.goto (-27), 3) := by decide +kernel
theorem dX12_send_34 : decode cX12_send 34 = .ok (.iload_n 1, 1) := by decide +kernel
theorem dX12_send_35 : decode cX12_send 35 = .ok (.ifCond .ne 6, 3) := by decide +kernel
theorem dX12_send_38 : decode cX12_send 38 = .ok (.bipush (-2), 2) := by decide +kernel
theorem dX12_send_40 : decode cX12_send 40 = .ok (.ireturn, 1) := by decide +kernel
theorem dX12_send_41 : decode cX12_send 41 = .ok (.aload_n 0, 1) := by decide +kernel
theorem dX12_send_42 : decode cX12_send 42 = .ok (.invokevirtual 301, 3) := by decide +kernel
theorem dX12_send_45 : decode cX12_send 45 = .ok (.aload_n 0, 1) := by decide +kernel
theorem dX12_send_46 : decode cX12_send 46 = .ok (.dup, 1) := by decide +kernel
theorem dX12_send_47 : decode cX12_send 47 = .ok (.getfield 193, 3) := by decide +kernel
theorem dX12_send_50 : decode cX12_send 50 = .ok (.aload_n 0, 1) := by decide +kernel
theorem dX12_send_51 : decode cX12_send 51 = .ok (.invokevirtual 304, 3) := by decide +kernel
theorem dX12_send_54 : decode cX12_send 54 = .ok (.iadd, 1) := by decide +kernel
theorem dX12_send_55 : decode cX12_send 55 = .ok (.putfield 193, 3) := by decide +kernel
theorem dX12_send_58 : decode cX12_send 58 = .ok (.aload_n 0, 1) := by decide +kernel
theorem dX12_send_59 : decode cX12_send 59 = .ok (.invokevirtual 307, 3) := by decide +kernel
theorem dX12_send_62 : decode cX12_send 62 = .ok (.ifCond .eq 6, 3) := by decide +kernel
theorem dX12_send_65 : decode cX12_send 65 = .ok (.bipush (-5), 2) := by decide +kernel
theorem dX12_send_67 : decode cX12_send 67 = .ok (.ireturn, 1) := by decide +kernel
theorem dX12_send_68 : decode cX12_send 68 = .ok (.aload_n 0, 1) := by decide +kernel
theorem dX12_send_69 : decode cX12_send 69 = .ok (.invokevirtual 310, 3) := by decide +kernel
theorem dX12_send_72 : decode cX12_send 72 = .ok (.iconst 0, 1) := by decide +kernel
theorem dX12_send_73 : decode cX12_send 73 = .ok (.istore_n 2, 1) := by decide +kernel
theorem dX12_send_74 : decode cX12_send 74 = .ok (.iconst 0, 1) := by decide +kernel
theorem dX12_send_75 : decode cX12_send 75 = .ok (.istore_n 3, 1) := by decide +kernel
theorem dX12_send_76 : decode cX12_send 76 = .ok (.iload_n 3, 1) := by decide +kernel
theorem dX12_send_77 : decode cX12_send 77 = .ok (.iconst 4, 1) := by decide +kernel
theorem dX12_send_78 : decode cX12_send 78 = .ok (.if_icmp .ge 32, 3) := by decide +kernel
theorem dX12_send_81 : decode cX12_send 81 = .ok (.aload_n 0, 1) := by decide +kernel
theorem dX12_send_82 : decode cX12_send 82 = .ok (.getfield 79, 3) := by decide +kernel
theorem dX12_send_85 : decode cX12_send 85 = .ok (.iload_n 3, 1) := by decide +kernel
theorem dX12_send_86 : decode cX12_send 86 = .ok (.iaload, 1) := by decide +kernel
theorem dX12_send_87 : decode cX12_send 87 = .ok (.ifCond .le 17, 3) := by decide +kernel
theorem dX12_send_90 : decode cX12_send 90 = .ok (.aload_n 0, 1) := by decide +kernel
theorem dX12_send_91 : decode cX12_send 91 = .ok (.iload_n 3, 1) := by decide +kernel
theorem dX12_send_92 : decode cX12_send 92 = .ok (.invokevirtual 313, 3) := by decide +kernel
theorem dX12_send_95 : decode cX12_send 95 = .ok (.iload_n 2, 1) := by decide +kernel
theorem dX12_send_96 : decode cX12_send 96 = .ok (.aload_n 0, 1) := by decide +kernel
theorem dX12_send_97 : decode cX12_send 97 = .ok (.getfield 103, 3) := by decide +kernel
theorem dX12_send_100 : decode cX12_send 100 = .ok (.iload_n 3, 1) := by decide +kernel
theorem dX12_send_101 : decode cX12_send 101 = .ok (.iaload, 1) := by decide +kernel
theorem dX12_send_102 : decode cX12_send 102 = .ok (.iadd, 1) := by decide +kernel
theorem dX12_send_103 : decode cX12_send 103 = .ok (.istore_n 2, 1) := by decide +kernel
theorem dX12_send_104 : decode cX12_send 104 = .ok (.iinc 3 1, 3) := by decide +kernel
theorem dX12_send_107 : decode cX12_send 107 = .ok (.goto (-31), 3) := by decide +kernel
theorem dX12_send_110 : decode cX12_send 110 = .ok (.iload_n 2, 1) := by decide +kernel
theorem dX12_send_111 : decode cX12_send 111 = .ok (.ireturn, 1) := by decide +kernel
theorem dX12_home_0 : decode cX12_home 0 = .ok (.iload_n 1, 1) := by decide +kernel
theorem dX12_home_1 : decode cX12_home 1 = .ok (.i2l, 1) := by decide +kernel
theorem dX12_home_2 : decode cX12_home 2 = .ok (.lconst 0, 1) := by decide +kernel
theorem dX12_home_3 : decode cX12_home 3 = .ok (.ldc2_w 260, 3) := by decide +kernel
theorem dX12_home_6 : decode cX12_home 6 = .ok (.invokestatic 145, 3) := by decide +kernel
theorem dX12_home_9 : decode cX12_home 9 = .ok (.ifCond .eq 17, 3) := by decide +kernel
theorem dX12_home_12 : decode cX12_home 12 = .ok (.iload_n 2, 1) := by decide +kernel
theorem dX12_home_13 : decode cX12_home 13 = .ok (.i2l, 1) := by decide +kernel
theorem dX12_home_14 : decode cX12_home 14 = .ok (.ldc2_w 316, 3) := by decide +kernel
theorem dX12_home_17 : decode cX12_home 17 = .ok (.ldc2_w 270, 3) := by decide +kernel
theorem dX12_home_20 : decode cX12_home 20 = .ok (.invokestatic 145, 3) := by decide +kernel
theorem dX12_home_23 : decode cX12_home 23 = .ok (.ifCond .ne 5, 3) := by decide +kernel
theorem dX12_home_26 : decode cX12_home 26 = .ok (.iconst (-1), 1) := by decide +kernel
theorem dX12_home_27 : decode cX12_home 27 = .ok (.ireturn, 1) := by decide +kernel
theorem dX12_home_28 : decode cX12_home 28 = .ok (.aload_n 0, 1) := by decide +kernel
theorem dX12_home_29 : decode cX12_home 29 = .ok (.getfield 199, 3) := by decide +kernel
theorem dX12_home_32 : decode cX12_home 32 = .ok (.ifCond .eq 22, 3) := by decide +kernel
theorem dX12_home_35 : decode cX12_home 35 = .ok (.aload_n 0, 1) := by decide +kernel
theorem dX12_home_36 : decode cX12_home 36 = .ok (.getfield 100, 3) := by decide +kernel
theorem dX12_home_39 : decode cX12_home 39 = .ok (.iload_n 1, 1) := by decide +kernel
theorem dX12_home_40 : decode cX12_home 40 = .ok (.iaload, 1) := by decide +kernel
theorem dX12_home_41 : decode cX12_home 41 = .ok (.ifCond .eq 13, 3) := by decide +kernel
theorem dX12_home_44 : decode cX12_home 44 = .ok (.iload_n 2, 1) := by decide +kernel
theorem dX12_home_45 : decode cX12_home 45 = .ok (.aload_n 0, 1) := by decide +kernel
theorem dX12_home_46 : decode cX12_home 46 = .ok (.getfield 100, 3) := by decide +kernel
theorem dX12_home_49 : decode cX12_home 49 = .ok (.iload_n 1, 1) := by decide +kernel
theorem dX12_home_50 : decode cX12_home 50 = .ok (.iaload, 1) := by decide +kernel
theorem dX12_home_51 : decode cX12_home 51 = .ok (.if_icmp .lt 6, 3) := by decide +kernel
theorem dX12_home_54 : decode cX12_home 54 = .ok (.bipush (-4), 2) := by decide +kernel
theorem dX12_home_56 : decode cX12_home 56 = .ok (.ireturn, 1) := by decide +kernel
theorem dX12_home_57 : decode cX12_home 57 = .ok (.iload_n 2, 1) := by decide +kernel
theorem dX12_home_58 : decode cX12_home 58 = .ok (.ifCond .ge 12, 3) := by decide +kernel
theorem dX12_home_61 : decode cX12_home 61 = .ok (.aload_n 0, 1) := by decide +kernel
theorem dX12_home_62 : decode cX12_home 62 = .ok (.getfield 103, 3) := by decide +kernel
theorem dX12_home_65 : decode cX12_home 65 = .ok (.iload_n 1, 1) := by decide +kernel
theorem dX12_home_66 : decode cX12_home 66 = .ok (.iaload, 1) := by decide +kernel
theorem dX12_home_67 : decode cX12_home 67 = .ok (.goto 14, 3) := by decide +kernel
theorem dX12_home_70 : decode cX12_home 70 = .ok (.aload_n 0, 1) := by decide +kernel
theorem dX12_home_71 : decode cX12_home 71 = .ok (.getfield 106, 3) := by decide +kernel
theorem dX12_home_74 : decode cX12_home 74 = .ok (.bipush 8, 2) := by decide +kernel
theorem dX12_home_76 : decode cX12_home 76 = .ok (.iload_n 1, 1) := by decide +kernel
theorem dX12_home_77 : decode cX12_home 77 = .ok (.imul, 1) := by decide +kernel
theorem dX12_home_78 : decode cX12_home 78 = .ok (.iload_n 2, 1) := by decide +kernel
theorem dX12_home_79 : decode cX12_home 79 = .ok (.iadd, 1) := by decide +kernel
theorem dX12_home_80 : decode cX12_home 80 = .ok (.iaload, 1) := by decide +kernel
theorem dX12_home_81 : decode cX12_home 81 = .ok (.ireturn, 1) := by decide +kernel
theorem dX12_expected_0 : decode cX12_expected 0 = .ok (.iload_n 1, 1) := by decide +kernel
theorem dX12_expected_1 : decode cX12_expected 1 = .ok (.i2l, 1) := by decide +kernel
theorem dX12_expected_2 : decode cX12_expected 2 = .ok (.lconst 0, 1) := by decide +kernel
theorem dX12_expected_3 : decode cX12_expected 3 = .ok (.ldc2_w 260, 3) := by decide +kernel
theorem dX12_expected_6 : decode cX12_expected 6 = .ok (.invokestatic 145, 3) := by decide +kernel
theorem dX12_expected_9 : decode cX12_expected 9 = .ok (.ifCond .ne 5, 3) := by decide +kernel
theorem dX12_expected_12 : decode cX12_expected 12 = .ok (.iconst (-1), 1) := by decide +kernel
theorem dX12_expected_13 : decode cX12_expected 13 = .ok (.ireturn, 1) := by decide +kernel
theorem dX12_expected_14 : decode cX12_expected 14 = .ok (.aload_n 0, 1) := by decide +kernel
theorem dX12_expected_15 : decode cX12_expected 15 = .ok (.getfield 79, 3) := by decide +kernel
theorem dX12_expected_18 : decode cX12_expected 18 = .ok (.iload_n 1, 1) := by decide +kernel
theorem dX12_expected_19 : decode cX12_expected 19 = .ok (.iaload, 1) := by decide +kernel
theorem dX12_expected_20 : decode cX12_expected 20 = .ok (.ifCond .ne 8, 3) := by decide +kernel
theorem dX12_expected_23 : decode cX12_expected 23 = .ok (.bipush (-4), 2) := by decide +kernel
theorem dX12_expected_25 : decode cX12_expected 25 = .ok (.goto 8, 3) := by decide +kernel
theorem dX12_expected_28 : decode cX12_expected 28 = .ok (.aload_n 0, 1) := by decide +kernel
theorem dX12_expected_29 : decode cX12_expected 29 = .ok (.iload_n 1, 1) := by decide +kernel
theorem dX12_expected_30 : decode cX12_expected 30 = .ok (.invokevirtual 298, 3) := by decide +kernel
theorem dX12_expected_33 : decode cX12_expected 33 = .ok (.istore_n 2, 1) := by decide +kernel
theorem dX12_expected_34 : decode cX12_expected 34 = .ok (.iload_n 2, 1) := by decide +kernel
theorem dX12_expected_35 : decode cX12_expected 35 = .ok (.bipush (-4), 2) := by decide +kernel
theorem dX12_expected_37 : decode cX12_expected 37 = .ok (.if_icmp .ne 8, 3) := by decide +kernel
theorem dX12_expected_40 : decode cX12_expected 40 = .ok (.bipush (-4), 2) := by decide +kernel
theorem dX12_expected_42 : decode cX12_expected 42 = .ok (.goto 13, 3) := by decide +kernel
theorem dX12_expected_45 : decode cX12_expected 45 = .ok (.aload_n 0, 1) := by decide +kernel
theorem dX12_expected_46 : decode cX12_expected 46 = .ok (.getfield 109, 3) := by decide +kernel
theorem dX12_expected_49 : decode cX12_expected 49 = .ok (.iconst 5, 1) := by decide +kernel
theorem dX12_expected_50 : decode cX12_expected 50 = .ok (.iload_n 2, 1) := by decide +kernel
theorem dX12_expected_51 : decode cX12_expected 51 = .ok (.imul, 1) := by decide +kernel
theorem dX12_expected_52 : decode cX12_expected 52 = .ok (.iconst 4, 1) := by decide +kernel
theorem dX12_expected_53 : decode cX12_expected 53 = .ok (.iadd, 1) := by decide +kernel
theorem dX12_expected_54 : decode cX12_expected 54 = .ok (.iaload, 1) := by decide +kernel
theorem dX12_expected_55 : decode cX12_expected 55 = .ok (.ireturn, 1) := by decide +kernel
theorem dX12_isTalkedTo_0 : decode cX12_isTalkedTo 0 = .ok (.aload_n 0, 1) := by decide +kernel
theorem dX12_isTalkedTo_1 : decode cX12_isTalkedTo 1 = .ok (.iload_n 1, 1) := by decide +kernel
theorem dX12_isTalkedTo_2 : decode cX12_isTalkedTo 2 = .ok (.invokevirtual 242, 3) := by decide +kernel
theorem dX12_isTalkedTo_5 : decode cX12_isTalkedTo 5 = .ok (.ifCond .le 16, 3) := by decide +kernel
theorem dX12_isTalkedTo_8 : decode cX12_isTalkedTo 8 = .ok (.aload_n 0, 1) := by decide +kernel
theorem dX12_isTalkedTo_9 : decode cX12_isTalkedTo 9 = .ok (.getfield 40, 3) := by decide +kernel
theorem dX12_isTalkedTo_12 : decode cX12_isTalkedTo 12 = .ok (.iload_n 1, 1) := by decide +kernel
theorem dX12_isTalkedTo_13 : decode cX12_isTalkedTo 13 = .ok (.iaload, 1) := by decide +kernel
theorem dX12_isTalkedTo_14 : decode cX12_isTalkedTo 14 = .ok (.ifCond .le 7, 3) := by decide +kernel
theorem dX12_isTalkedTo_17 : decode cX12_isTalkedTo 17 = .ok (.iconst 1, 1) := by decide +kernel
theorem dX12_isTalkedTo_18 : decode cX12_isTalkedTo 18 = .ok (.goto 4, 3) := by decide +kernel
theorem dX12_isTalkedTo_21 : decode cX12_isTalkedTo 21 = .ok (.iconst 0, 1) := by decide +kernel
theorem dX12_isTalkedTo_22 : decode cX12_isTalkedTo 22 = .ok (.ireturn, 1) := by decide +kernel
theorem dX12_tell_0 : decode cX12_tell 0 = .ok (.aload_n 0, 1) := by decide +kernel
theorem dX12_tell_1 : decode cX12_tell 1 = .ok (.iload_n 1, 1) := by decide +kernel
theorem dX12_tell_2 : decode cX12_tell 2 = .ok (.invokevirtual 236, 3) := by decide +kernel
theorem dX12_tell_5 : decode cX12_tell 5 = .ok (.ifCond .eq 15, 3) := by decide +kernel
theorem dX12_tell_8 : decode cX12_tell 8 = .ok (.iload_n 2, 1) := by decide +kernel
theorem dX12_tell_9 : decode cX12_tell 9 = .ok (.i2l, 1) := by decide +kernel
theorem dX12_tell_10 : decode cX12_tell 10 = .ok (.lconst 1, 1) := by decide +kernel
theorem dX12_tell_11 : decode cX12_tell 11 = .ok (.ldc2_w 253, 3) := by decide +kernel
theorem dX12_tell_14 : decode cX12_tell 14 = .ok (.invokestatic 145, 3) := by decide +kernel
theorem dX12_tell_17 : decode cX12_tell 17 = .ok (.ifCond .ne 5, 3) := by decide +kernel
theorem dX12_tell_20 : decode cX12_tell 20 = .ok (.iconst (-1), 1) := by decide +kernel
theorem dX12_tell_21 : decode cX12_tell 21 = .ok (.ireturn, 1) := by decide +kernel
theorem dX12_tell_22 : decode cX12_tell 22 = .ok (.iconst 2, 1) := by decide +kernel
theorem dX12_tell_23 : decode cX12_tell 23 = .ok (.iload_n 1, 1) := by decide +kernel
theorem dX12_tell_24 : decode cX12_tell 24 = .ok (.imul, 1) := by decide +kernel
theorem dX12_tell_25 : decode cX12_tell 25 = .ok (.istore_n 3, 1) := by decide +kernel
theorem dX12_tell_26 : decode cX12_tell 26 = .ok (.aload_n 0, 1) := by decide +kernel
theorem dX12_tell_27 : decode cX12_tell 27 = .ok (.getfield 64, 3) := by decide +kernel
theorem dX12_tell_30 : decode cX12_tell 30 = .ok (.iload_n 3, 1) := by decide +kernel
theorem dX12_tell_31 : decode cX12_tell 31 = .ok (.iaload, 1) := by decide +kernel
theorem dX12_tell_32 : decode cX12_tell 32 = .ok (.iconst 4, 1) := by decide +kernel
theorem dX12_tell_33 : decode cX12_tell 33 = .ok (.if_icmp .ne 6, 3) := by decide +kernel
theorem dX12_tell_36 : decode cX12_tell 36 = .ok (.bipush (-3), 2) := by decide +kernel
theorem dX12_tell_38 : decode cX12_tell 38 = .ok (.ireturn, 1) := by decide +kernel
theorem dX12_tell_39 : decode cX12_tell 39 = .ok (.aload_n 0, 1) := by decide +kernel
theorem dX12_tell_40 : decode cX12_tell 40 = .ok (.getfield 61, 3) := by decide +kernel
theorem dX12_tell_43 : decode cX12_tell 43 = .ok (.iconst 4, 1) := by decide +kernel
theorem dX12_tell_44 : decode cX12_tell 44 = .ok (.iload_n 3, 1) := by decide +kernel
theorem dX12_tell_45 : decode cX12_tell 45 = .ok (.imul, 1) := by decide +kernel
theorem dX12_tell_46 : decode cX12_tell 46 = .ok (.aload_n 0, 1) := by decide +kernel
theorem dX12_tell_47 : decode cX12_tell 47 = .ok (.getfield 64, 3) := by decide +kernel
theorem dX12_tell_50 : decode cX12_tell 50 = .ok (.iload_n 3, 1) := by decide +kernel
theorem dX12_tell_51 : decode cX12_tell 51 = .ok (.iaload, 1) := by decide +kernel
theorem dX12_tell_52 : decode cX12_tell 52 = .ok (.iadd, 1) := by decide +kernel
theorem dX12_tell_53 : decode cX12_tell 53 = .ok (.iload_n 2, 1) := by decide +kernel
theorem dX12_tell_54 : decode cX12_tell 54 = .ok (.iastore, 1) := by decide +kernel
theorem dX12_tell_55 : decode cX12_tell 55 = .ok (.aload_n 0, 1) := by decide +kernel
theorem dX12_tell_56 : decode cX12_tell 56 = .ok (.getfield 64, 3) := by decide +kernel
theorem dX12_tell_59 : decode cX12_tell 59 = .ok (.iload_n 3, 1) := by decide +kernel
theorem dX12_tell_60 : decode cX12_tell 60 = .ok (.dup2, 1) := by decide +kernel
theorem dX12_tell_61 : decode cX12_tell 61 = .ok (.iaload, 1) := by decide +kernel
theorem dX12_tell_62 : decode cX12_tell 62 = .ok (.iconst 1, 1) := by decide +kernel
theorem dX12_tell_63 : decode cX12_tell 63 = .ok (.iadd, 1) := by decide +kernel
theorem dX12_tell_64 : decode cX12_tell 64 = .ok (.iastore, 1) := by decide +kernel
theorem dX12_tell_65 : decode cX12_tell 65 = .ok (.aload_n 0, 1) := by decide +kernel
theorem dX12_tell_66 : decode cX12_tell 66 = .ok (.getfield 64, 3) := by decide +kernel
theorem dX12_tell_69 : decode cX12_tell 69 = .ok (.iload_n 3, 1) := by decide +kernel
theorem dX12_tell_70 : decode cX12_tell 70 = .ok (.iaload, 1) := by decide +kernel
theorem dX12_tell_71 : decode cX12_tell 71 = .ok (.ireturn, 1) := by decide +kernel
theorem dX12_takesOff_0 : decode cX12_takesOff 0 = .ok (.aload_n 0, 1) := by decide +kernel
theorem dX12_takesOff_1 : decode cX12_takesOff 1 = .ok (.getfield 61, 3) := by decide +kernel
theorem dX12_takesOff_4 : decode cX12_takesOff 4 = .ok (.iconst 4, 1) := by decide +kernel
theorem dX12_takesOff_5 : decode cX12_takesOff 5 = .ok (.iload_n 1, 1) := by decide +kernel
theorem dX12_takesOff_6 : decode cX12_takesOff 6 = .ok (.imul, 1) := by decide +kernel
theorem dX12_takesOff_7 : decode cX12_takesOff 7 = .ok (.iaload, 1) := by decide +kernel
theorem dX12_takesOff_8 : decode cX12_takesOff 8 = .ok (.istore_n 2, 1) := by decide +kernel
theorem dX12_takesOff_9 : decode cX12_takesOff 9 = .ok (.aload_n 0, 1) := by decide +kernel
theorem dX12_takesOff_10 : decode cX12_takesOff 10 = .ok (.getfield 64, 3) := by decide +kernel
theorem dX12_takesOff_13 : decode cX12_takesOff 13 = .ok (.iload_n 1, 1) := by decide +kernel
theorem dX12_takesOff_14 : decode cX12_takesOff 14 = .ok (.dup2, 1) := by decide +kernel
theorem dX12_takesOff_15 : decode cX12_takesOff 15 = .ok (.iaload, 1) := by decide +kernel
theorem dX12_takesOff_16 : decode cX12_takesOff 16 = .ok (.iconst 1, 1) := by decide +kernel
theorem dX12_takesOff_17 : decode cX12_takesOff 17 = .ok (.isub, 1) := by decide +kernel
theorem dX12_takesOff_18 : decode cX12_takesOff 18 = .ok (.iastore, 1) := by decide +kernel
theorem dX12_takesOff_19 : decode cX12_takesOff 19 = .ok (.iconst 0, 1) := by decide +kernel
theorem dX12_takesOff_20 : decode cX12_takesOff 20 = .ok (.istore_n 3, 1) := by decide +kernel
theorem dX12_takesOff_21 : decode cX12_takesOff 21 = .ok (.iload_n 3, 1) := by decide +kernel
theorem dX12_takesOff_22 : decode cX12_takesOff 22 = .ok (.aload_n 0, 1) := by decide +kernel
theorem dX12_takesOff_23 : decode cX12_takesOff 23 = .ok (.getfield 64, 3) := by decide +kernel
theorem dX12_takesOff_26 : decode cX12_takesOff 26 = .ok (.iload_n 1, 1) := by decide +kernel
theorem dX12_takesOff_27 : decode cX12_takesOff 27 = .ok (.iaload, 1) := by decide +kernel
theorem dX12_takesOff_28 : decode cX12_takesOff 28 = .ok (.if_icmp .ge 31, 3) := by decide +kernel
theorem dX12_takesOff_31 : decode cX12_takesOff 31 = .ok (.aload_n 0, 1) := by decide +kernel
theorem dX12_takesOff_32 : decode cX12_takesOff 32 = .ok (.getfield 61, 3) := by decide +kernel
theorem dX12_takesOff_35 : decode cX12_takesOff 35 = .ok (.iconst 4, 1) := by decide +kernel
theorem dX12_takesOff_36 : decode cX12_takesOff 36 = .ok (.iload_n 1, 1) := by decide +kernel
theorem dX12_takesOff_37 : decode cX12_takesOff 37 = .ok (.imul, 1) := by decide +kernel
theorem dX12_takesOff_38 : decode cX12_takesOff 38 = .ok (.iload_n 3, 1) := by decide +kernel
theorem dX12_takesOff_39 : decode cX12_takesOff 39 = .ok (.iadd, 1) := by decide +kernel
theorem dX12_takesOff_40 : decode cX12_takesOff 40 = .ok (.aload_n 0, 1) := by decide +kernel
theorem dX12_takesOff_41 : decode cX12_takesOff 41 = .ok (.getfield 61, 3) := by decide +kernel
theorem dX12_takesOff_44 : decode cX12_takesOff 44 = .ok (.iconst 4, 1) := by decide +kernel
theorem dX12_takesOff_45 : decode cX12_takesOff 45 = .ok (.iload_n 1, 1) := by decide +kernel
theorem dX12_takesOff_46 : decode cX12_takesOff 46 = .ok (.imul, 1) := by decide +kernel
theorem dX12_takesOff_47 : decode cX12_takesOff 47 = .ok (.iload_n 3, 1) := by decide +kernel
theorem dX12_takesOff_48 : decode cX12_takesOff 48 = .ok (.iadd, 1) := by decide +kernel
theorem dX12_takesOff_49 : decode cX12_takesOff 49 = .ok (.iconst 1, 1) := by decide +kernel
theorem dX12_takesOff_50 : decode cX12_takesOff 50 = .ok (.iadd, 1) := by decide +kernel
theorem dX12_takesOff_51 : decode cX12_takesOff 51 = .ok (.iaload, 1) := by decide +kernel
theorem dX12_takesOff_52 : decode cX12_takesOff 52 = .ok (.iastore, 1) := by decide +kernel
theorem dX12_takesOff_53 : decode cX12_takesOff 53 = .ok (.iinc 3 1, 3) := by decide +kernel
theorem dX12_takesOff_56 : decode cX12_takesOff 56 = .ok (.goto (-35), 3) := by decide +kernel
theorem dX12_takesOff_59 : decode cX12_takesOff 59 = .ok (.iload_n 2, 1) := by decide +kernel
theorem dX12_takesOff_60 : decode cX12_takesOff 60 = .ok (.ireturn, 1) := by decide +kernel
theorem dX12_take_0 : decode cX12_take 0 = .ok (.aload_n 0, 1) := by decide +kernel
theorem dX12_take_1 : decode cX12_take 1 = .ok (.iload_n 1, 1) := by decide +kernel
theorem dX12_take_2 : decode cX12_take 2 = .ok (.invokevirtual 236, 3) := by decide +kernel
theorem dX12_take_5 : decode cX12_take 5 = .ok (.ifCond .ne 5, 3) := by decide +kernel
theorem dX12_take_8 : decode cX12_take 8 = .ok (.iconst (-1), 1) := by decide +kernel
theorem dX12_take_9 : decode cX12_take 9 = .ok (.ireturn, 1) := by decide +kernel
theorem dX12_take_10 : decode cX12_take 10 = .ok (.aload_n 0, 1) := by decide +kernel
theorem dX12_take_11 : decode cX12_take 11 = .ok (.getfield 64, 3) := by decide +kernel
theorem dX12_take_14 : decode cX12_take 14 = .ok (.iconst 2, 1) := by decide +kernel
theorem dX12_take_15 : decode cX12_take 15 = .ok (.iload_n 1, 1) := by decide +kernel
theorem dX12_take_16 : decode cX12_take 16 = .ok (.imul, 1) := by decide +kernel
theorem dX12_take_17 : decode cX12_take 17 = .ok (.iconst 1, 1) := by decide +kernel
theorem dX12_take_18 : decode cX12_take 18 = .ok (.iadd, 1) := by decide +kernel
theorem dX12_take_19 : decode cX12_take 19 = .ok (.iaload, 1) := by decide +kernel
theorem dX12_take_20 : decode cX12_take 20 = .ok (.ifCond .ne 8, 3) := by decide +kernel
theorem dX12_take_23 : decode cX12_take 23 = .ok (.bipush (-4), 2) := by decide +kernel
theorem dX12_take_25 : decode cX12_take 25 = .ok (.goto 12, 3) := by decide +kernel
theorem dX12_take_28 : decode cX12_take 28 = .ok (.aload_n 0, 1) := by decide +kernel
theorem dX12_take_29 : decode cX12_take 29 = .ok (.iconst 2, 1) := by decide +kernel
theorem dX12_take_30 : decode cX12_take 30 = .ok (.iload_n 1, 1) := by decide +kernel
theorem dX12_take_31 : decode cX12_take 31 = .ok (.imul, 1) := by decide +kernel
theorem dX12_take_32 : decode cX12_take 32 = .ok (.iconst 1, 1) := by decide +kernel
theorem dX12_take_33 : decode cX12_take 33 = .ok (.iadd, 1) := by decide +kernel
theorem dX12_take_34 : decode cX12_take 34 = .ok (.invokevirtual 318, 3) := by decide +kernel
theorem dX12_take_37 : decode cX12_take 37 = .ok (.ireturn, 1) := by decide +kernel
theorem dX12_fetch_0 : decode cX12_fetch 0 = .ok (.aload_n 0, 1) := by decide +kernel
theorem dX12_fetch_1 : decode cX12_fetch 1 = .ok (.iload_n 1, 1) := by decide +kernel
theorem dX12_fetch_2 : decode cX12_fetch 2 = .ok (.invokevirtual 236, 3) := by decide +kernel
theorem dX12_fetch_5 : decode cX12_fetch 5 = .ok (.ifCond .ne 5, 3) := by decide +kernel
theorem dX12_fetch_8 : decode cX12_fetch 8 = .ok (.iconst (-1), 1) := by decide +kernel
theorem dX12_fetch_9 : decode cX12_fetch 9 = .ok (.ireturn, 1) := by decide +kernel
theorem dX12_fetch_10 : decode cX12_fetch 10 = .ok (.aload_n 0, 1) := by decide +kernel
theorem dX12_fetch_11 : decode cX12_fetch 11 = .ok (.iload_n 1, 1) := by decide +kernel
theorem dX12_fetch_12 : decode cX12_fetch 12 = .ok (.invokevirtual 321, 3) := by decide +kernel
theorem dX12_fetch_15 : decode cX12_fetch 15 = .ok (.ifCond .ne 6, 3) := by decide +kernel
theorem dX12_fetch_18 : decode cX12_fetch 18 = .ok (.bipush (-2), 2) := by decide +kernel
theorem dX12_fetch_20 : decode cX12_fetch 20 = .ok (.ireturn, 1) := by decide +kernel
theorem dX12_fetch_21 : decode cX12_fetch 21 = .ok (.iconst 2, 1) := by decide +kernel
theorem dX12_fetch_22 : decode cX12_fetch 22 = .ok (.iload_n 1, 1) := by decide +kernel
theorem dX12_fetch_23 : decode cX12_fetch 23 = .ok (.imul, 1) := by decide +kernel
theorem dX12_fetch_24 : decode cX12_fetch 24 = .ok (.istore_n 2, 1) := by decide +kernel
theorem dX12_fetch_25 : decode cX12_fetch 25 = .ok (.aload_n 0, 1) := by decide +kernel
theorem dX12_fetch_26 : decode cX12_fetch 26 = .ok (.getfield 73, 3) := by decide +kernel
theorem dX12_fetch_29 : decode cX12_fetch 29 = .ok (.iload_n 1, 1) := by decide +kernel
theorem dX12_fetch_30 : decode cX12_fetch 30 = .ok (.iaload, 1) := by decide +kernel
theorem dX12_fetch_31 : decode cX12_fetch 31 = .ok (.istore_n 3, 1) := by decide +kernel
theorem dX12_fetch_32 : decode cX12_fetch 32 = .ok (.aload_n 0, 1) := by decide +kernel
theorem dX12_fetch_33 : decode cX12_fetch 33 = .ok (.getfield 70, 3) := by decide +kernel
theorem dX12_fetch_36 : decode cX12_fetch 36 = .ok (.iload_n 2, 1) := by decide +kernel
theorem dX12_fetch_37 : decode cX12_fetch 37 = .ok (.iaload, 1) := by decide +kernel
theorem dX12_fetch_38 : decode cX12_fetch 38 = .ok (.aload_n 0, 1) := by decide +kernel
theorem dX12_fetch_39 : decode cX12_fetch 39 = .ok (.getfield 67, 3) := by decide +kernel
theorem dX12_fetch_42 : decode cX12_fetch 42 = .ok (.iload_n 2, 1) := by decide +kernel
theorem dX12_fetch_43 : decode cX12_fetch 43 = .ok (.iaload, 1) := by decide +kernel
theorem dX12_fetch_44 : decode cX12_fetch 44 = .ok (.if_icmp .eq 40, 3) := by decide +kernel
theorem dX12_fetch_47 : decode cX12_fetch 47 = .ok (.bipush (-4), 2) := by decide +kernel
theorem dX12_fetch_49 : decode cX12_fetch 49 = .ok (.istore_n 3, 1) := by decide +kernel
theorem dX12_fetch_50 : decode cX12_fetch 50 = .ok (.aload_n 0, 1) := by decide +kernel
theorem dX12_fetch_51 : decode cX12_fetch 51 = .ok (.getfield 64, 3) := by decide +kernel
theorem dX12_fetch_54 : decode cX12_fetch 54 = .ok (.iload_n 2, 1) := by decide +kernel
theorem dX12_fetch_55 : decode cX12_fetch 55 = .ok (.iaload, 1) := by decide +kernel
theorem dX12_fetch_56 : decode cX12_fetch 56 = .ok (.ifCond .le 28, 3) := by decide +kernel
theorem dX12_fetch_59 : decode cX12_fetch 59 = .ok (.aload_n 0, 1) := by decide +kernel
theorem dX12_fetch_60 : decode cX12_fetch 60 = .ok (.iload_n 2, 1) := by decide +kernel
theorem dX12_fetch_61 : decode cX12_fetch 61 = .ok (.invokevirtual 318, 3) := by decide +kernel
theorem dX12_fetch_64 : decode cX12_fetch 64 = .ok (.istore_n 3, 1) := by decide +kernel
theorem dX12_fetch_65 : decode cX12_fetch 65 = .ok (.aload_n 0, 1) := by decide +kernel
theorem dX12_fetch_66 : decode cX12_fetch 66 = .ok (.getfield 73, 3) := by decide +kernel
theorem dX12_fetch_69 : decode cX12_fetch 69 = .ok (.iload_n 1, 1) := by decide +kernel
theorem dX12_fetch_70 : decode cX12_fetch 70 = .ok (.iload_n 3, 1) := by decide +kernel
theorem dX12_fetch_71 : decode cX12_fetch 71 = .ok (.iastore, 1) := by decide +kernel
theorem dX12_fetch_72 : decode cX12_fetch 72 = .ok (.aload_n 0, 1) := by decide +kernel
theorem dX12_fetch_73 : decode cX12_fetch 73 = .ok (.getfield 67, 3) := by decide +kernel
theorem dX12_fetch_76 : decode cX12_fetch 76 = .ok (.iload_n 2, 1) := by decide +kernel
theorem dX12_fetch_77 : decode cX12_fetch 77 = .ok (.aload_n 0, 1) := by decide +kernel
theorem dX12_fetch_78 : decode cX12_fetch 78 = .ok (.getfield 70, 3) := by decide +kernel
theorem dX12_fetch_81 : decode cX12_fetch 81 = .ok (.iload_n 2, 1) := by decide +kernel
theorem dX12_fetch_82 : decode cX12_fetch 82 = .ok (.iaload, 1) := by decide +kernel
theorem dX12_fetch_83 : decode cX12_fetch 83 = .ok (.iastore, 1) := by decide +kernel
theorem dX12_fetch_84 : decode cX12_fetch 84 = .ok (.aload_n 0, 1) := by decide +kernel
theorem dX12_fetch_85 : decode cX12_fetch 85 = .ok (.dup, 1) := by decide +kernel
theorem dX12_fetch_86 : decode cX12_fetch 86 = .ok (.getfield 193, 3) := by decide +kernel
theorem dX12_fetch_89 : decode cX12_fetch 89 = .ok (.aload_n 0, 1) := by decide +kernel
theorem dX12_fetch_90 : decode cX12_fetch 90 = .ok (.invokevirtual 304, 3) := by decide +kernel
theorem dX12_fetch_93 : decode cX12_fetch 93 = .ok (.iadd, 1) := by decide +kernel
theorem dX12_fetch_94 : decode cX12_fetch 94 = .ok (.putfield 193, 3) := by decide +kernel
theorem dX12_fetch_97 : decode cX12_fetch 97 = .ok (.aload_n 0, 1) := by decide +kernel
theorem dX12_fetch_98 : decode cX12_fetch 98 = .ok (.invokevirtual 307, 3) := by decide +kernel
theorem dX12_fetch_101 : decode cX12_fetch 101 = .ok (.ifCond .eq 6, 3) := by decide +kernel
theorem dX12_fetch_104 : decode cX12_fetch 104 = .ok (.bipush (-5), 2) := by decide +kernel
theorem dX12_fetch_106 : decode cX12_fetch 106 = .ok (.ireturn, 1) := by decide +kernel
theorem dX12_fetch_107 : decode cX12_fetch 107 = .ok (.aload_n 0, 1) := by decide +kernel
theorem dX12_fetch_108 : decode cX12_fetch 108 = .ok (.getfield 70, 3) := by decide +kernel
theorem dX12_fetch_111 : decode cX12_fetch 111 = .ok (.iload_n 2, 1) := by decide +kernel
theorem dX12_fetch_112 : decode cX12_fetch 112 = .ok (.iload_n 3, 1) := by decide +kernel
theorem dX12_fetch_113 : decode cX12_fetch 113 = .ok (.bipush (-4), 2) := by decide +kernel
theorem dX12_fetch_115 : decode cX12_fetch 115 = .ok (.if_icmp .ne 12, 3) := by decide +kernel
theorem dX12_fetch_118 : decode cX12_fetch 118 = .ok (.aload_n 0, 1) := by decide +kernel
theorem dX12_fetch_119 : decode cX12_fetch 119 = .ok (.getfield 70, 3) := by decide +kernel
theorem dX12_fetch_122 : decode cX12_fetch 122 = .ok (.iload_n 2, 1) := by decide +kernel
theorem dX12_fetch_123 : decode cX12_fetch 123 = .ok (.iaload, 1) := by decide +kernel
theorem dX12_fetch_124 : decode cX12_fetch 124 = .ok (.goto 11, 3) := by decide +kernel
theorem dX12_fetch_127 : decode cX12_fetch 127 = .ok (.iconst 1, 1) := by decide +kernel
theorem dX12_fetch_128 : decode cX12_fetch 128 = .ok (.aload_n 0, 1) := by decide +kernel
theorem dX12_fetch_129 : decode cX12_fetch 129 = .ok (.getfield 70, 3) := by decide +kernel
theorem dX12_fetch_132 : decode cX12_fetch 132 = .ok (.iload_n 2, 1) := by decide +kernel
theorem dX12_fetch_133 : decode cX12_fetch 133 = .ok (.iaload, 1) := by decide +kernel
theorem dX12_fetch_134 : decode cX12_fetch 134 = .ok (.isub, 1) := by decide +kernel
theorem dX12_fetch_135 : decode cX12_fetch 135 = .ok (.iastore, 1) := by decide +kernel
theorem dX12_fetch_136 : decode cX12_fetch 136 = .ok (.iload_n 3, 1) := by decide +kernel
theorem dX12_fetch_137 : decode cX12_fetch 137 = .ok (.ireturn, 1) := by decide +kernel
theorem dX12_pushes_0 : decode cX12_pushes 0 = .ok (.iconst 2, 1) := by decide +kernel
theorem dX12_pushes_1 : decode cX12_pushes 1 = .ok (.iload_n 1, 1) := by decide +kernel
theorem dX12_pushes_2 : decode cX12_pushes 2 = .ok (.imul, 1) := by decide +kernel
theorem dX12_pushes_3 : decode cX12_pushes 3 = .ok (.iconst 1, 1) := by decide +kernel
theorem dX12_pushes_4 : decode cX12_pushes 4 = .ok (.iadd, 1) := by decide +kernel
theorem dX12_pushes_5 : decode cX12_pushes 5 = .ok (.istore_n 2, 1) := by decide +kernel
theorem dX12_pushes_6 : decode cX12_pushes 6 = .ok (.aload_n 0, 1) := by decide +kernel
theorem dX12_pushes_7 : decode cX12_pushes 7 = .ok (.getfield 70, 3) := by decide +kernel
theorem dX12_pushes_10 : decode cX12_pushes 10 = .ok (.iload_n 2, 1) := by decide +kernel
theorem dX12_pushes_11 : decode cX12_pushes 11 = .ok (.iaload, 1) := by decide +kernel
theorem dX12_pushes_12 : decode cX12_pushes 12 = .ok (.aload_n 0, 1) := by decide +kernel
theorem dX12_pushes_13 : decode cX12_pushes 13 = .ok (.getfield 67, 3) := by decide +kernel
theorem dX12_pushes_16 : decode cX12_pushes 16 = .ok (.iload_n 2, 1) := by decide +kernel
theorem dX12_pushes_17 : decode cX12_pushes 17 = .ok (.iaload, 1) := by decide +kernel
theorem dX12_pushes_18 : decode cX12_pushes 18 = .ok (.if_icmp .ne 7, 3) := by decide +kernel
theorem dX12_pushes_21 : decode cX12_pushes 21 = .ok (.iconst 1, 1) := by decide +kernel
theorem dX12_pushes_22 : decode cX12_pushes 22 = .ok (.goto 4, 3) := by decide +kernel
theorem dX12_pushes_25 : decode cX12_pushes 25 = .ok (.iconst 0, 1) := by decide +kernel
theorem dX12_pushes_26 : decode cX12_pushes 26 = .ok (.istore_n 3, 1) := by decide +kernel
theorem dX12_pushes_27 : decode cX12_pushes 27 = .ok (.iload_n 3, 1) := by decide +kernel
theorem dX12_pushes_28 : decode cX12_pushes 28 = .ok (.ifCond .ne 58, 3) := by decide +kernel
theorem dX12_pushes_31 : decode cX12_pushes 31 = .ok (.aload_n 0, 1) := by decide +kernel
theorem dX12_pushes_32 : decode cX12_pushes 32 = .ok (.getfield 64, 3) := by decide +kernel
theorem dX12_pushes_35 : decode cX12_pushes 35 = .ok (.iload_n 2, 1) := by decide +kernel
theorem dX12_pushes_36 : decode cX12_pushes 36 = .ok (.iaload, 1) := by decide +kernel
theorem dX12_pushes_37 : decode cX12_pushes 37 = .ok (.iconst 4, 1) := by decide +kernel
theorem dX12_pushes_38 : decode cX12_pushes 38 = .ok (.if_icmp .ge 48, 3) := by decide +kernel
theorem dX12_pushes_41 : decode cX12_pushes 41 = .ok (.aload_n 0, 1) := by decide +kernel
theorem dX12_pushes_42 : decode cX12_pushes 42 = .ok (.getfield 61, 3) := by decide +kernel
theorem dX12_pushes_45 : decode cX12_pushes 45 = .ok (.iconst 4, 1) := by decide +kernel
theorem dX12_pushes_46 : decode cX12_pushes 46 = .ok (.iload_n 2, 1) := by decide +kernel
theorem dX12_pushes_47 : decode cX12_pushes 47 = .ok (.imul, 1) := by decide +kernel
theorem dX12_pushes_48 : decode cX12_pushes 48 = .ok (.aload_n 0, 1) := by decide +kernel
theorem dX12_pushes_49 : decode cX12_pushes 49 = .ok (.getfield 64, 3) := by decide +kernel
theorem dX12_pushes_52 : decode cX12_pushes 52 = .ok (.iload_n 2, 1) := by decide +kernel
theorem dX12_pushes_53 : decode cX12_pushes 53 = .ok (.iaload, 1) := by decide +kernel
theorem dX12_pushes_54 : decode cX12_pushes 54 = .ok (.iadd, 1) := by decide +kernel
theorem dX12_pushes_55 : decode cX12_pushes 55 = .ok (.aload_n 0, 1) := by decide +kernel
theorem dX12_pushes_56 : decode cX12_pushes 56 = .ok (.getfield 76, 3) := by decide +kernel
theorem dX12_pushes_59 : decode cX12_pushes 59 = .ok (.iload_n 1, 1) := by decide +kernel
theorem dX12_pushes_60 : decode cX12_pushes 60 = .ok (.iaload, 1) := by decide +kernel
theorem dX12_pushes_61 : decode cX12_pushes 61 = .ok (.iastore, 1) := by decide +kernel
theorem dX12_pushes_62 : decode cX12_pushes 62 = .ok (.aload_n 0, 1) := by decide +kernel
theorem dX12_pushes_63 : decode cX12_pushes 63 = .ok (.getfield 64, 3) := by decide +kernel
theorem dX12_pushes_66 : decode cX12_pushes 66 = .ok (.iload_n 2, 1) := by decide +kernel
theorem dX12_pushes_67 : decode cX12_pushes 67 = .ok (.dup2, 1) := by decide +kernel
theorem dX12_pushes_68 : decode cX12_pushes 68 = .ok (.iaload, 1) := by decide +kernel
theorem dX12_pushes_69 : decode cX12_pushes 69 = .ok (.iconst 1, 1) := by decide +kernel
theorem dX12_pushes_70 : decode cX12_pushes 70 = .ok (.iadd, 1) := by decide +kernel
theorem dX12_pushes_71 : decode cX12_pushes 71 = .ok (.iastore, 1) := by decide +kernel
theorem dX12_pushes_72 : decode cX12_pushes 72 = .ok (.aload_n 0, 1) := by decide +kernel
theorem dX12_pushes_73 : decode cX12_pushes 73 = .ok (.getfield 67, 3) := by decide +kernel
theorem dX12_pushes_76 : decode cX12_pushes 76 = .ok (.iload_n 2, 1) := by decide +kernel
theorem dX12_pushes_77 : decode cX12_pushes 77 = .ok (.aload_n 0, 1) := by decide +kernel
theorem dX12_pushes_78 : decode cX12_pushes 78 = .ok (.getfield 70, 3) := by decide +kernel
theorem dX12_pushes_81 : decode cX12_pushes 81 = .ok (.iload_n 2, 1) := by decide +kernel
theorem dX12_pushes_82 : decode cX12_pushes 82 = .ok (.iaload, 1) := by decide +kernel
theorem dX12_pushes_83 : decode cX12_pushes 83 = .ok (.iastore, 1) := by decide +kernel
theorem dX12_pushes_84 : decode cX12_pushes 84 = .ok (.iconst 1, 1) := by decide +kernel
theorem dX12_pushes_85 : decode cX12_pushes 85 = .ok (.istore_n 3, 1) := by decide +kernel
theorem dX12_pushes_86 : decode cX12_pushes 86 = .ok (.aload_n 0, 1) := by decide +kernel
theorem dX12_pushes_87 : decode cX12_pushes 87 = .ok (.dup, 1) := by decide +kernel
theorem dX12_pushes_88 : decode cX12_pushes 88 = .ok (.getfield 193, 3) := by decide +kernel
theorem dX12_pushes_91 : decode cX12_pushes 91 = .ok (.aload_n 0, 1) := by decide +kernel
theorem dX12_pushes_92 : decode cX12_pushes 92 = .ok (.invokevirtual 304, 3) := by decide +kernel
theorem dX12_pushes_95 : decode cX12_pushes 95 = .ok (.iadd, 1) := by decide +kernel
theorem dX12_pushes_96 : decode cX12_pushes 96 = .ok (.putfield 193, 3) := by decide +kernel
theorem dX12_pushes_99 : decode cX12_pushes 99 = .ok (.aload_n 0, 1) := by decide +kernel
theorem dX12_pushes_100 : decode cX12_pushes 100 = .ok (.invokevirtual 307, 3) := by decide +kernel
theorem dX12_pushes_103 : decode cX12_pushes 103 = .ok (.ifCond .eq 6, 3) := by decide +kernel
theorem dX12_pushes_106 : decode cX12_pushes 106 = .ok (.bipush (-5), 2) := by decide +kernel
theorem dX12_pushes_108 : decode cX12_pushes 108 = .ok (.ireturn, 1) := by decide +kernel
theorem dX12_pushes_109 : decode cX12_pushes 109 = .ok (.iload_n 3, 1) := by decide +kernel
theorem dX12_pushes_110 : decode cX12_pushes 110 = .ok (.ifCond .ne 6, 3) := by decide +kernel
theorem dX12_pushes_113 : decode cX12_pushes 113 = .ok (.bipush (-3), 2) := by decide +kernel
theorem dX12_pushes_115 : decode cX12_pushes 115 = .ok (.ireturn, 1) := by decide +kernel
theorem dX12_pushes_116 : decode cX12_pushes 116 = .ok (.aload_n 0, 1) := by decide +kernel
theorem dX12_pushes_117 : decode cX12_pushes 117 = .ok (.getfield 70, 3) := by decide +kernel
theorem dX12_pushes_120 : decode cX12_pushes 120 = .ok (.iload_n 2, 1) := by decide +kernel
theorem dX12_pushes_121 : decode cX12_pushes 121 = .ok (.iconst 1, 1) := by decide +kernel
theorem dX12_pushes_122 : decode cX12_pushes 122 = .ok (.aload_n 0, 1) := by decide +kernel
theorem dX12_pushes_123 : decode cX12_pushes 123 = .ok (.getfield 70, 3) := by decide +kernel
theorem dX12_pushes_126 : decode cX12_pushes 126 = .ok (.iload_n 2, 1) := by decide +kernel
theorem dX12_pushes_127 : decode cX12_pushes 127 = .ok (.iaload, 1) := by decide +kernel
theorem dX12_pushes_128 : decode cX12_pushes 128 = .ok (.isub, 1) := by decide +kernel
theorem dX12_pushes_129 : decode cX12_pushes 129 = .ok (.iastore, 1) := by decide +kernel
theorem dX12_pushes_130 : decode cX12_pushes 130 = .ok (.aload_n 0, 1) := by decide +kernel
theorem dX12_pushes_131 : decode cX12_pushes 131 = .ok (.getfield 76, 3) := by decide +kernel
theorem dX12_pushes_134 : decode cX12_pushes 134 = .ok (.iload_n 1, 1) := by decide +kernel
theorem dX12_pushes_135 : decode cX12_pushes 135 = .ok (.bipush (-4), 2) := by decide +kernel
theorem dX12_pushes_137 : decode cX12_pushes 137 = .ok (.iastore, 1) := by decide +kernel
theorem dX12_pushes_138 : decode cX12_pushes 138 = .ok (.aload_n 0, 1) := by decide +kernel
theorem dX12_pushes_139 : decode cX12_pushes 139 = .ok (.getfield 64, 3) := by decide +kernel
theorem dX12_pushes_142 : decode cX12_pushes 142 = .ok (.iload_n 2, 1) := by decide +kernel
theorem dX12_pushes_143 : decode cX12_pushes 143 = .ok (.iaload, 1) := by decide +kernel
theorem dX12_pushes_144 : decode cX12_pushes 144 = .ok (.ireturn, 1) := by decide +kernel
theorem dX12_push_0 : decode cX12_push 0 = .ok (.aload_n 0, 1) := by decide +kernel
theorem dX12_push_1 : decode cX12_push 1 = .ok (.iload_n 1, 1) := by decide +kernel
theorem dX12_push_2 : decode cX12_push 2 = .ok (.invokevirtual 236, 3) := by decide +kernel
theorem dX12_push_5 : decode cX12_push 5 = .ok (.ifCond .eq 15, 3) := by decide +kernel
theorem dX12_push_8 : decode cX12_push 8 = .ok (.iload_n 2, 1) := by decide +kernel
theorem dX12_push_9 : decode cX12_push 9 = .ok (.i2l, 1) := by decide +kernel
theorem dX12_push_10 : decode cX12_push 10 = .ok (.lconst 1, 1) := by decide +kernel
theorem dX12_push_11 : decode cX12_push 11 = .ok (.ldc2_w 253, 3) := by decide +kernel
theorem dX12_push_14 : decode cX12_push 14 = .ok (.invokestatic 145, 3) := by decide +kernel
theorem dX12_push_17 : decode cX12_push 17 = .ok (.ifCond .ne 5, 3) := by decide +kernel
theorem dX12_push_20 : decode cX12_push 20 = .ok (.iconst (-1), 1) := by decide +kernel
theorem dX12_push_21 : decode cX12_push 21 = .ok (.ireturn, 1) := by decide +kernel
theorem dX12_push_22 : decode cX12_push 22 = .ok (.aload_n 0, 1) := by decide +kernel
theorem dX12_push_23 : decode cX12_push 23 = .ok (.iload_n 1, 1) := by decide +kernel
theorem dX12_push_24 : decode cX12_push 24 = .ok (.invokevirtual 321, 3) := by decide +kernel
theorem dX12_push_27 : decode cX12_push 27 = .ok (.ifCond .eq 14, 3) := by decide +kernel
theorem dX12_push_30 : decode cX12_push 30 = .ok (.aload_n 0, 1) := by decide +kernel
theorem dX12_push_31 : decode cX12_push 31 = .ok (.getfield 76, 3) := by decide +kernel
theorem dX12_push_34 : decode cX12_push 34 = .ok (.iload_n 1, 1) := by decide +kernel
theorem dX12_push_35 : decode cX12_push 35 = .ok (.iaload, 1) := by decide +kernel
theorem dX12_push_36 : decode cX12_push 36 = .ok (.bipush (-4), 2) := by decide +kernel
theorem dX12_push_38 : decode cX12_push 38 = .ok (.if_icmp .eq 6, 3) := by decide +kernel
theorem dX12_push_41 : decode cX12_push 41 = .ok (.bipush (-2), 2) := by decide +kernel
theorem dX12_push_43 : decode cX12_push 43 = .ok (.ireturn, 1) := by decide +kernel
theorem dX12_push_44 : decode cX12_push 44 = .ok (.aload_n 0, 1) := by decide +kernel
theorem dX12_push_45 : decode cX12_push 45 = .ok (.getfield 76, 3) := by decide +kernel
theorem dX12_push_48 : decode cX12_push 48 = .ok (.iload_n 1, 1) := by decide +kernel
theorem dX12_push_49 : decode cX12_push 49 = .ok (.iload_n 2, 1) := by decide +kernel
theorem dX12_push_50 : decode cX12_push 50 = .ok (.iastore, 1) := by decide +kernel
theorem dX12_push_51 : decode cX12_push 51 = .ok (.aload_n 0, 1) := by decide +kernel
theorem dX12_push_52 : decode cX12_push 52 = .ok (.iload_n 1, 1) := by decide +kernel
theorem dX12_push_53 : decode cX12_push 53 = .ok (.invokevirtual 324, 3) := by decide +kernel
theorem dX12_push_56 : decode cX12_push 56 = .ok (.istore_n 3, 1) := by decide +kernel
theorem dX12_push_57 : decode cX12_push 57 = .ok (.iload_n 3, 1) := by decide +kernel
theorem dX12_push_58 : decode cX12_push 58 = .ok (.bipush (-3), 2) := by decide +kernel
theorem dX12_push_60 : decode cX12_push 60 = .ok (.if_icmp .ne 11, 3) := by decide +kernel
theorem dX12_push_63 : decode cX12_push 63 = .ok (.aload_n 0, 1) := by decide +kernel
theorem dX12_push_64 : decode cX12_push 64 = .ok (.getfield 76, 3) := by decide +kernel
theorem dX12_push_67 : decode cX12_push 67 = .ok (.iload_n 1, 1) := by decide +kernel
theorem dX12_push_68 : decode cX12_push 68 = .ok (.bipush (-4), 2) := by decide +kernel
theorem dX12_push_70 : decode cX12_push 70 = .ok (.iastore, 1) := by decide +kernel
theorem dX12_push_71 : decode cX12_push 71 = .ok (.iload_n 3, 1) := by decide +kernel
theorem dX12_push_72 : decode cX12_push 72 = .ok (.ireturn, 1) := by decide +kernel
theorem dX12_again_0 : decode cX12_again 0 = .ok (.aload_n 0, 1) := by decide +kernel
theorem dX12_again_1 : decode cX12_again 1 = .ok (.iload_n 1, 1) := by decide +kernel
theorem dX12_again_2 : decode cX12_again 2 = .ok (.invokevirtual 236, 3) := by decide +kernel
theorem dX12_again_5 : decode cX12_again 5 = .ok (.ifCond .ne 5, 3) := by decide +kernel
theorem dX12_again_8 : decode cX12_again 8 = .ok (.iconst (-1), 1) := by decide +kernel
theorem dX12_again_9 : decode cX12_again 9 = .ok (.ireturn, 1) := by decide +kernel
theorem dX12_again_10 : decode cX12_again 10 = .ok (.aload_n 0, 1) := by decide +kernel
theorem dX12_again_11 : decode cX12_again 11 = .ok (.iload_n 1, 1) := by decide +kernel
theorem dX12_again_12 : decode cX12_again 12 = .ok (.invokevirtual 321, 3) := by decide +kernel
theorem dX12_again_15 : decode cX12_again 15 = .ok (.ifCond .eq 22, 3) := by decide +kernel
theorem dX12_again_18 : decode cX12_again 18 = .ok (.aload_n 0, 1) := by decide +kernel
theorem dX12_again_19 : decode cX12_again 19 = .ok (.getfield 76, 3) := by decide +kernel
theorem dX12_again_22 : decode cX12_again 22 = .ok (.iload_n 1, 1) := by decide +kernel
theorem dX12_again_23 : decode cX12_again 23 = .ok (.iaload, 1) := by decide +kernel
theorem dX12_again_24 : decode cX12_again 24 = .ok (.bipush (-4), 2) := by decide +kernel
theorem dX12_again_26 : decode cX12_again 26 = .ok (.if_icmp .eq 11, 3) := by decide +kernel
theorem dX12_again_29 : decode cX12_again 29 = .ok (.aload_n 0, 1) := by decide +kernel
theorem dX12_again_30 : decode cX12_again 30 = .ok (.iload_n 1, 1) := by decide +kernel
theorem dX12_again_31 : decode cX12_again 31 = .ok (.invokevirtual 324, 3) := by decide +kernel
theorem dX12_again_34 : decode cX12_again 34 = .ok (.goto 5, 3) := by decide +kernel
theorem dX12_again_37 : decode cX12_again 37 = .ok (.bipush (-2), 2) := by decide +kernel
theorem dX12_again_39 : decode cX12_again 39 = .ok (.ireturn, 1) := by decide +kernel
theorem dX12_box_0 : decode cX12_box 0 = .ok (.aload_n 0, 1) := by decide +kernel
theorem dX12_box_1 : decode cX12_box 1 = .ok (.iload_n 1, 1) := by decide +kernel
theorem dX12_box_2 : decode cX12_box 2 = .ok (.invokevirtual 236, 3) := by decide +kernel
theorem dX12_box_5 : decode cX12_box 5 = .ok (.ifCond .eq 15, 3) := by decide +kernel
theorem dX12_box_8 : decode cX12_box 8 = .ok (.iload_n 2, 1) := by decide +kernel
theorem dX12_box_9 : decode cX12_box 9 = .ok (.i2l, 1) := by decide +kernel
theorem dX12_box_10 : decode cX12_box 10 = .ok (.lconst 0, 1) := by decide +kernel
theorem dX12_box_11 : decode cX12_box 11 = .ok (.ldc2_w 270, 3) := by decide +kernel
theorem dX12_box_14 : decode cX12_box 14 = .ok (.invokestatic 145, 3) := by decide +kernel
theorem dX12_box_17 : decode cX12_box 17 = .ok (.ifCond .ne 5, 3) := by decide +kernel
theorem dX12_box_20 : decode cX12_box 20 = .ok (.iconst (-1), 1) := by decide +kernel
theorem dX12_box_21 : decode cX12_box 21 = .ok (.ireturn, 1) := by decide +kernel
theorem dX12_box_22 : decode cX12_box 22 = .ok (.iload_n 2, 1) := by decide +kernel
theorem dX12_box_23 : decode cX12_box 23 = .ok (.tableswitch 85 0 6 #[41, 41, 52, 52, 65, 65, 78], 41) := by decide +kernel
theorem dX12_box_64 : decode cX12_box 64 = .ok (.aload_n 0, 1) := by decide +kernel
theorem dX12_box_65 : decode cX12_box 65 = .ok (.getfield 64, 3) := by decide +kernel
theorem dX12_box_68 : decode cX12_box 68 = .ok (.iconst 2, 1) := by decide +kernel
theorem dX12_box_69 : decode cX12_box 69 = .ok (.iload_n 1, 1) := by decide +kernel
theorem dX12_box_70 : decode cX12_box 70 = .ok (.imul, 1) := by decide +kernel
theorem dX12_box_71 : decode cX12_box 71 = .ok (.iload_n 2, 1) := by decide +kernel
theorem dX12_box_72 : decode cX12_box 72 = .ok (.iadd, 1) := by decide +kernel
theorem dX12_box_73 : decode cX12_box 73 = .ok (.iaload, 1) := by decide +kernel
theorem dX12_box_74 : decode cX12_box 74 = .ok (.ireturn, 1) := by decide +kernel
theorem dX12_box_75 : decode cX12_box 75 = .ok (.aload_n 0, 1) := by decide +kernel
theorem dX12_box_76 : decode cX12_box 76 = .ok (.getfield 67, 3) := by decide +kernel
theorem dX12_box_79 : decode cX12_box 79 = .ok (.iconst 2, 1) := by decide +kernel
theorem dX12_box_80 : decode cX12_box 80 = .ok (.iload_n 1, 1) := by decide +kernel
theorem dX12_box_81 : decode cX12_box 81 = .ok (.imul, 1) := by decide +kernel
theorem dX12_box_82 : decode cX12_box 82 = .ok (.iload_n 2, 1) := by decide +kernel
theorem dX12_box_83 : decode cX12_box 83 = .ok (.iadd, 1) := by decide +kernel
theorem dX12_box_84 : decode cX12_box 84 = .ok (.iconst 2, 1) := by decide +kernel
theorem dX12_box_85 : decode cX12_box 85 = .ok (.isub, 1) := by decide +kernel
theorem dX12_box_86 : decode cX12_box 86 = .ok (.iaload, 1) := by decide +kernel
theorem dX12_box_87 : decode cX12_box 87 = .ok (.ireturn, 1) := by decide +kernel
theorem dX12_box_88 : decode cX12_box 88 = .ok (.aload_n 0, 1) := by decide +kernel
theorem dX12_box_89 : decode cX12_box 89 = .ok (.getfield 70, 3) := by decide +kernel
theorem dX12_box_92 : decode cX12_box 92 = .ok (.iconst 2, 1) := by decide +kernel
theorem dX12_box_93 : decode cX12_box 93 = .ok (.iload_n 1, 1) := by decide +kernel
theorem dX12_box_94 : decode cX12_box 94 = .ok (.imul, 1) := by decide +kernel
theorem dX12_box_95 : decode cX12_box 95 = .ok (.iload_n 2, 1) := by decide +kernel
theorem dX12_box_96 : decode cX12_box 96 = .ok (.iadd, 1) := by decide +kernel
theorem dX12_box_97 : decode cX12_box 97 = .ok (.iconst 4, 1) := by decide +kernel
theorem dX12_box_98 : decode cX12_box 98 = .ok (.isub, 1) := by decide +kernel
theorem dX12_box_99 : decode cX12_box 99 = .ok (.iaload, 1) := by decide +kernel
theorem dX12_box_100 : decode cX12_box 100 = .ok (.ireturn, 1) := by decide +kernel
theorem dX12_box_101 : decode cX12_box 101 = .ok (.aload_n 0, 1) := by decide +kernel
theorem dX12_box_102 : decode cX12_box 102 = .ok (.getfield 73, 3) := by decide +kernel
theorem dX12_box_105 : decode cX12_box 105 = .ok (.iload_n 1, 1) := by decide +kernel
theorem dX12_box_106 : decode cX12_box 106 = .ok (.iaload, 1) := by decide +kernel
theorem dX12_box_107 : decode cX12_box 107 = .ok (.ireturn, 1) := by decide +kernel
theorem dX12_box_108 : decode cX12_box 108 = .ok (.aload_n 0, 1) := by decide +kernel
theorem dX12_box_109 : decode cX12_box 109 = .ok (.getfield 76, 3) := by decide +kernel
theorem dX12_box_112 : decode cX12_box 112 = .ok (.iload_n 1, 1) := by decide +kernel
theorem dX12_box_113 : decode cX12_box 113 = .ok (.iaload, 1) := by decide +kernel
theorem dX12_box_114 : decode cX12_box 114 = .ok (.ireturn, 1) := by decide +kernel
theorem dX12_later_0 : decode cX12_later 0 = .ok (.iload_n 1, 1) := by decide +kernel
theorem dX12_later_1 : decode cX12_later 1 = .ok (.i2l, 1) := by decide +kernel
theorem dX12_later_2 : decode cX12_later 2 = .ok (.lconst 1, 1) := by decide +kernel
theorem dX12_later_3 : decode cX12_later 3 = .ok (.ldc2_w 327, 3) := by decide +kernel
theorem dX12_later_6 : decode cX12_later 6 = .ok (.invokestatic 145, 3) := by decide +kernel
theorem dX12_later_9 : decode cX12_later 9 = .ok (.ifCond .ne 5, 3) := by decide +kernel
theorem dX12_later_12 : decode cX12_later 12 = .ok (.iconst (-1), 1) := by decide +kernel
theorem dX12_later_13 : decode cX12_later 13 = .ok (.ireturn, 1) := by decide +kernel
theorem dX12_later_14 : decode cX12_later 14 = .ok (.aload_n 0, 1) := by decide +kernel
theorem dX12_later_15 : decode cX12_later 15 = .ok (.dup, 1) := by decide +kernel
theorem dX12_later_16 : decode cX12_later 16 = .ok (.getfield 193, 3) := by decide +kernel
theorem dX12_later_19 : decode cX12_later 19 = .ok (.iload_n 1, 1) := by decide +kernel
theorem dX12_later_20 : decode cX12_later 20 = .ok (.iadd, 1) := by decide +kernel
theorem dX12_later_21 : decode cX12_later 21 = .ok (.putfield 193, 3) := by decide +kernel
theorem dX12_later_24 : decode cX12_later 24 = .ok (.aload_n 0, 1) := by decide +kernel
theorem dX12_later_25 : decode cX12_later 25 = .ok (.getfield 193, 3) := by decide +kernel
theorem dX12_later_28 : decode cX12_later 28 = .ok (.ireturn, 1) := by decide +kernel
theorem dX12_gone_0 : decode cX12_gone 0 = .ok (.aload_n 0, 1) := by decide +kernel
theorem dX12_gone_1 : decode cX12_gone 1 = .ok (.iload_n 1, 1) := by decide +kernel
theorem dX12_gone_2 : decode cX12_gone 2 = .ok (.aload_n 0, 1) := by decide +kernel
theorem dX12_gone_3 : decode cX12_gone 3 = .ok (.getfield 118, 3) := by decide +kernel
theorem dX12_gone_6 : decode cX12_gone 6 = .ok (.iload_n 1, 1) := by decide +kernel
theorem dX12_gone_7 : decode cX12_gone 7 = .ok (.iaload, 1) := by decide +kernel
theorem dX12_gone_8 : decode cX12_gone 8 = .ok (.invokevirtual 227, 3) := by decide +kernel
theorem dX12_gone_11 : decode cX12_gone 11 = .ok (.aload_n 0, 1) := by decide +kernel
theorem dX12_gone_12 : decode cX12_gone 12 = .ok (.iload_n 1, 1) := by decide +kernel
theorem dX12_gone_13 : decode cX12_gone 13 = .ok (.aload_n 0, 1) := by decide +kernel
theorem dX12_gone_14 : decode cX12_gone 14 = .ok (.getfield 115, 3) := by decide +kernel
theorem dX12_gone_17 : decode cX12_gone 17 = .ok (.iload_n 1, 1) := by decide +kernel
theorem dX12_gone_18 : decode cX12_gone 18 = .ok (.iaload, 1) := by decide +kernel
theorem dX12_gone_19 : decode cX12_gone 19 = .ok (.invokevirtual 227, 3) := by decide +kernel
theorem dX12_gone_22 : decode cX12_gone 22 = .ok (.lsub, 1) := by decide +kernel
theorem dX12_gone_23 : decode cX12_gone 23 = .ok (.lreturn, 1) := by decide +kernel
theorem dX12_level_0 : decode cX12_level 0 = .ok (.aload_n 0, 1) := by decide +kernel
theorem dX12_level_1 : decode cX12_level 1 = .ok (.invokevirtual 209, 3) := by decide +kernel
theorem dX12_level_4 : decode cX12_level 4 = .ok (.istore_n 1, 1) := by decide +kernel
theorem dX12_level_5 : decode cX12_level 5 = .ok (.iload_n 1, 1) := by decide +kernel
theorem dX12_level_6 : decode cX12_level 6 = .ok (.ifCond .ne 6, 3) := by decide +kernel
theorem dX12_level_9 : decode cX12_level 9 = .ok (.bipush (-2), 2) := by decide +kernel
theorem dX12_level_11 : decode cX12_level 11 = .ok (.ireturn, 1) := by decide +kernel
theorem dX12_level_12 : decode cX12_level 12 = .ok (.iconst 0, 1) := by decide +kernel
theorem dX12_level_13 : decode cX12_level 13 = .ok (.istore_n 2, 1) := by decide +kernel
theorem dX12_level_14 : decode cX12_level 14 = .ok (.iload_n 2, 1) := by decide +kernel
theorem dX12_level_15 : decode cX12_level 15 = .ok (.iload_n 1, 1) := by decide +kernel
theorem dX12_level_16 : decode cX12_level 16 = .ok (.if_icmp .ge 20, 3) := by decide +kernel
theorem dX12_level_19 : decode cX12_level 19 = .ok (.aload_n 0, 1) := by decide +kernel
theorem dX12_level_20 : decode cX12_level 20 = .ok (.getfield 115, 3) := by decide +kernel
theorem dX12_level_23 : decode cX12_level 23 = .ok (.iload_n 2, 1) := by decide +kernel
theorem dX12_level_24 : decode cX12_level 24 = .ok (.aload_n 0, 1) := by decide +kernel
theorem dX12_level_25 : decode cX12_level 25 = .ok (.iload_n 2, 1) := by decide +kernel
theorem dX12_level_26 : decode cX12_level 26 = .ok (.invokevirtual 292, 3) := by decide +kernel
theorem dX12_level_29 : decode cX12_level 29 = .ok (.iastore, 1) := by decide +kernel
theorem dX12_level_30 : decode cX12_level 30 = .ok (.iinc 2 1, 3) := by decide +kernel
theorem dX12_level_33 : decode cX12_level 33 = .ok (.goto (-19), 3) := by decide +kernel
theorem dX12_level_36 : decode cX12_level 36 = .ok (.iload_n 1, 1) := by decide +kernel
theorem dX12_level_37 : decode cX12_level 37 = .ok (.iconst 1, 1) := by decide +kernel
theorem dX12_level_38 : decode cX12_level 38 = .ok (.isub, 1) := by decide +kernel
theorem dX12_level_39 : decode cX12_level 39 = .ok (.istore_n 2, 1) := by decide +kernel
theorem dX12_level_40 : decode cX12_level 40 = .ok (.iload_n 2, 1) := by decide +kernel
theorem dX12_level_41 : decode cX12_level 41 = .ok (.ifCond .lt 71, 3) := by decide +kernel
theorem dX12_level_44 : decode cX12_level 44 = .ok (.aload_n 0, 1) := by decide +kernel
theorem dX12_level_45 : decode cX12_level 45 = .ok (.getfield 118, 3) := by decide +kernel
theorem dX12_level_48 : decode cX12_level 48 = .ok (.iload_n 2, 1) := by decide +kernel
theorem dX12_level_49 : decode cX12_level 49 = .ok (.iload_n 2, 1) := by decide +kernel
theorem dX12_level_50 : decode cX12_level 50 = .ok (.iload_n 1, 1) := by decide +kernel
theorem dX12_level_51 : decode cX12_level 51 = .ok (.iconst 1, 1) := by decide +kernel
theorem dX12_level_52 : decode cX12_level 52 = .ok (.isub, 1) := by decide +kernel
theorem dX12_level_53 : decode cX12_level 53 = .ok (.if_icmp .ne 17, 3) := by decide +kernel
theorem dX12_level_56 : decode cX12_level 56 = .ok (.aload_n 0, 1) := by decide +kernel
theorem dX12_level_57 : decode cX12_level 57 = .ok (.getfield 115, 3) := by decide +kernel
theorem dX12_level_60 : decode cX12_level 60 = .ok (.iload_n 2, 1) := by decide +kernel
theorem dX12_level_61 : decode cX12_level 61 = .ok (.iaload, 1) := by decide +kernel
theorem dX12_level_62 : decode cX12_level 62 = .ok (.aload_n 0, 1) := by decide +kernel
theorem dX12_level_63 : decode cX12_level 63 = .ok (.getfield 183, 3) := by decide +kernel
theorem dX12_level_66 : decode cX12_level 66 = .ok (.iadd, 1) := by decide +kernel
theorem dX12_level_67 : decode cX12_level 67 = .ok (.goto 38, 3) := by decide +kernel
theorem dX12_level_70 : decode cX12_level 70 = .ok (.aload_n 0, 1) := by decide +kernel
theorem dX12_level_71 : decode cX12_level 71 = .ok (.getfield 118, 3) := by decide +kernel
theorem dX12_level_74 : decode cX12_level 74 = .ok (.iload_n 2, 1) := by decide +kernel
theorem dX12_level_75 : decode cX12_level 75 = .ok (.iconst 1, 1) := by decide +kernel
theorem dX12_level_76 : decode cX12_level 76 = .ok (.iadd, 1) := by decide +kernel
theorem dX12_level_77 : decode cX12_level 77 = .ok (.iaload, 1) := by decide +kernel
theorem dX12_level_78 : decode cX12_level 78 = .ok (.iload_n 2, 1) := by decide +kernel
theorem dX12_level_79 : decode cX12_level 79 = .ok (.iconst 1, 1) := by decide +kernel
theorem dX12_level_80 : decode cX12_level 80 = .ok (.iadd, 1) := by decide +kernel
theorem dX12_level_81 : decode cX12_level 81 = .ok (.iload_n 1, 1) := by decide +kernel
theorem dX12_level_82 : decode cX12_level 82 = .ok (.iconst 1, 1) := by decide +kernel
theorem dX12_level_83 : decode cX12_level 83 = .ok (.isub, 1) := by decide +kernel
theorem dX12_level_84 : decode cX12_level 84 = .ok (.if_icmp .ne 7, 3) := by decide +kernel
theorem dX12_level_87 : decode cX12_level 87 = .ok (.iconst 0, 1) := by decide +kernel
theorem dX12_level_88 : decode cX12_level 88 = .ok (.goto 7, 3) := by decide +kernel
theorem dX12_level_91 : decode cX12_level 91 = .ok (.aload_n 0, 1) := by decide +kernel
theorem dX12_level_92 : decode cX12_level 92 = .ok (.getfield 186, 3) := by decide +kernel
theorem dX12_level_95 : decode cX12_level 95 = .ok (.iadd, 1) := by decide +kernel
theorem dX12_level_96 : decode cX12_level 96 = .ok (.aload_n 0, 1) := by decide +kernel
theorem dX12_level_97 : decode cX12_level 97 = .ok (.getfield 28, 3) := by decide +kernel
theorem dX12_level_100 : decode cX12_level 100 = .ok (.iload_n 2, 1) := by decide +kernel
theorem dX12_level_101 : decode cX12_level 101 = .ok (.iconst 1, 1) := by decide +kernel
theorem dX12_level_102 : decode cX12_level 102 = .ok (.iadd, 1) := by decide +kernel
theorem dX12_level_103 : decode cX12_level 103 = .ok (.iaload, 1) := by decide +kernel
theorem dX12_level_104 : decode cX12_level 104 = .ok (.iadd, 1) := by decide +kernel
theorem dX12_level_105 : decode cX12_level 105 = .ok (.iastore, 1) := by decide +kernel
theorem dX12_level_106 : decode cX12_level 106 = .ok (.iinc 2 (-1), 3) := by decide +kernel
theorem dX12_level_109 : decode cX12_level 109 = .ok (.goto (-69), 3) := by decide +kernel
theorem dX12_level_112 : decode cX12_level 112 = .ok (.aload_n 0, 1) := by decide +kernel
theorem dX12_level_113 : decode cX12_level 113 = .ok (.getfield 49, 3) := by decide +kernel
theorem dX12_level_116 : decode cX12_level 116 = .ok (.iconst 0, 1) := by decide +kernel
theorem dX12_level_117 : decode cX12_level 117 = .ok (.iconst 0, 1) := by decide +kernel
theorem dX12_level_118 : decode cX12_level 118 = .ok (.iastore, 1) := by decide +kernel
theorem dX12_level_119 : decode cX12_level 119 = .ok (.iconst 1, 1) := by decide +kernel
theorem dX12_level_120 : decode cX12_level 120 = .ok (.istore_n 2, 1) := by decide +kernel
theorem dX12_level_121 : decode cX12_level 121 = .ok (.iload_n 2, 1) := by decide +kernel
theorem dX12_level_122 : decode cX12_level 122 = .ok (.iload_n 1, 1) := by decide +kernel
theorem dX12_level_123 : decode cX12_level 123 = .ok (.if_icmp .ge 82, 3) := by decide +kernel
theorem dX12_level_126 : decode cX12_level 126 = .ok (.aload_n 0, 1) := by decide +kernel
theorem dX12_level_127 : decode cX12_level 127 = .ok (.iload_n 2, 1) := by decide +kernel
theorem dX12_level_128 : decode cX12_level 128 = .ok (.iconst 1, 1) := by decide +kernel
theorem dX12_level_129 : decode cX12_level 129 = .ok (.isub, 1) := by decide +kernel
theorem dX12_level_130 : decode cX12_level 130 = .ok (.invokevirtual 329, 3) := by decide +kernel
theorem dX12_level_133 : decode cX12_level 133 = .ok (.aload_n 0, 1) := by decide +kernel
theorem dX12_level_134 : decode cX12_level 134 = .ok (.iload_n 2, 1) := by decide +kernel
theorem dX12_level_135 : decode cX12_level 135 = .ok (.invokevirtual 329, 3) := by decide +kernel
theorem dX12_level_138 : decode cX12_level 138 = .ok (.lsub, 1) := by decide +kernel
theorem dX12_level_139 : decode cX12_level 139 = .ok (.aload_n 0, 1) := by decide +kernel
theorem dX12_level_140 : decode cX12_level 140 = .ok (.getfield 183, 3) := by decide +kernel
theorem dX12_level_143 : decode cX12_level 143 = .ok (.i2l, 1) := by decide +kernel
theorem dX12_level_144 : decode cX12_level 144 = .ok (.lsub, 1) := by decide +kernel
theorem dX12_level_145 : decode cX12_level 145 = .ok (.iload_n 2, 1) := by decide +kernel
theorem dX12_level_146 : decode cX12_level 146 = .ok (.iload_n 1, 1) := by decide +kernel
theorem dX12_level_147 : decode cX12_level 147 = .ok (.iconst 1, 1) := by decide +kernel
theorem dX12_level_148 : decode cX12_level 148 = .ok (.isub, 1) := by decide +kernel
theorem dX12_level_149 : decode cX12_level 149 = .ok (.if_icmp .ne 7, 3) := by decide +kernel
theorem dX12_level_152 : decode cX12_level 152 = .ok (.iconst 0, 1) := by decide +kernel
theorem dX12_level_153 : decode cX12_level 153 = .ok (.goto 7, 3) := by decide +kernel
theorem dX12_level_156 : decode cX12_level 156 = .ok (.aload_n 0, 1) := by decide +kernel
theorem dX12_level_157 : decode cX12_level 157 = .ok (.getfield 186, 3) := by decide +kernel
theorem dX12_level_160 : decode cX12_level 160 = .ok (.i2l, 1) := by decide +kernel
theorem dX12_level_161 : decode cX12_level 161 = .ok (.lsub, 1) := by decide +kernel
theorem dX12_level_162 : decode cX12_level 162 = .ok (.lstore_n 3, 1) := by decide +kernel
theorem dX12_level_163 : decode cX12_level 163 = .ok (.aload_n 0, 1) := by decide +kernel
theorem dX12_level_164 : decode cX12_level 164 = .ok (.getfield 49, 3) := by decide +kernel
theorem dX12_level_167 : decode cX12_level 167 = .ok (.iload_n 2, 1) := by decide +kernel
theorem dX12_level_168 : decode cX12_level 168 = .ok (.aload_n 0, 1) := by decide +kernel
theorem dX12_level_169 : decode cX12_level 169 = .ok (.getfield 49, 3) := by decide +kernel
theorem dX12_level_172 : decode cX12_level 172 = .ok (.iload_n 2, 1) := by decide +kernel
theorem dX12_level_173 : decode cX12_level 173 = .ok (.iconst 1, 1) := by decide +kernel
theorem dX12_level_174 : decode cX12_level 174 = .ok (.isub, 1) := by decide +kernel
theorem dX12_level_175 : decode cX12_level 175 = .ok (.iaload, 1) := by decide +kernel
theorem dX12_level_176 : decode cX12_level 176 = .ok (.aload_n 0, 1) := by decide +kernel
theorem dX12_level_177 : decode cX12_level 177 = .ok (.getfield 183, 3) := by decide +kernel
theorem dX12_level_180 : decode cX12_level 180 = .ok (.iadd, 1) := by decide +kernel
theorem dX12_level_181 : decode cX12_level 181 = .ok (.lload_n 3, 1) := by decide +kernel
theorem dX12_level_182 : decode cX12_level 182 = .ok (.lconst 0, 1) := by decide +kernel
theorem dX12_level_183 : decode cX12_level 183 = .ok (.lcmp, 1) := by decide +kernel
theorem dX12_level_184 : decode cX12_level 184 = .ok (.ifCond .ge 7, 3) := by decide +kernel
theorem dX12_level_187 : decode cX12_level 187 = .ok (.iconst 0, 1) := by decide +kernel
theorem dX12_level_188 : decode cX12_level 188 = .ok (.goto 9, 3) := by decide +kernel
theorem dX12_level_191 : decode cX12_level 191 = .ok (.lload_n 3, 1) := by decide +kernel
theorem dX12_level_192 : decode cX12_level 192 = .ok (.ldc2_w 264, 3) := by decide +kernel
theorem dX12_level_195 : decode cX12_level 195 = .ok (.ldiv, 1) := by decide +kernel
theorem dX12_level_196 : decode cX12_level 196 = .ok (.l2i, 1) := by decide +kernel
theorem dX12_level_197 : decode cX12_level 197 = .ok (.iadd, 1) := by decide +kernel
theorem dX12_level_198 : decode cX12_level 198 = .ok (.iastore, 1) := by decide +kernel
theorem dX12_level_199 : decode cX12_level 199 = .ok (.iinc 2 1, 3) := by decide +kernel
theorem dX12_level_202 : decode cX12_level 202 = .ok (.goto (-81), 3) := by decide +kernel
theorem dX12_level_205 : decode cX12_level 205 = .ok (.aload_n 0, 1) := by decide +kernel
theorem dX12_level_206 : decode cX12_level 206 = .ok (.iconst 0, 1) := by decide +kernel
theorem dX12_level_207 : decode cX12_level 207 = .ok (.aload_n 0, 1) := by decide +kernel
theorem dX12_level_208 : decode cX12_level 208 = .ok (.getfield 115, 3) := by decide +kernel
theorem dX12_level_211 : decode cX12_level 211 = .ok (.iconst 0, 1) := by decide +kernel
theorem dX12_level_212 : decode cX12_level 212 = .ok (.iaload, 1) := by decide +kernel
theorem dX12_level_213 : decode cX12_level 213 = .ok (.invokevirtual 227, 3) := by decide +kernel
theorem dX12_level_216 : decode cX12_level 216 = .ok (.lstore_n 2, 1) := by decide +kernel
theorem dX12_level_217 : decode cX12_level 217 = .ok (.iconst 0, 1) := by decide +kernel
theorem dX12_level_218 : decode cX12_level 218 = .ok (.istore 4, 2) := by decide +kernel
theorem dX12_level_220 : decode cX12_level 220 = .ok (.iload 4, 2) := by decide +kernel
theorem dX12_level_222 : decode cX12_level 222 = .ok (.iload_n 1, 1) := by decide +kernel
theorem dX12_level_223 : decode cX12_level 223 = .ok (.if_icmp .ge 41, 3) := by decide +kernel
theorem dX12_level_226 : decode cX12_level 226 = .ok (.aload_n 0, 1) := by decide +kernel
theorem dX12_level_227 : decode cX12_level 227 = .ok (.getfield 46, 3) := by decide +kernel
theorem dX12_level_230 : decode cX12_level 230 = .ok (.iload 4, 2) := by decide +kernel
theorem dX12_level_232 : decode cX12_level 232 = .ok (.lload_n 2, 1) := by decide +kernel
theorem dX12_level_233 : decode cX12_level 233 = .ok (.aload_n 0, 1) := by decide +kernel
theorem dX12_level_234 : decode cX12_level 234 = .ok (.getfield 49, 3) := by decide +kernel
theorem dX12_level_237 : decode cX12_level 237 = .ok (.iload 4, 2) := by decide +kernel
theorem dX12_level_239 : decode cX12_level 239 = .ok (.iaload, 1) := by decide +kernel
theorem dX12_level_240 : decode cX12_level 240 = .ok (.i2l, 1) := by decide +kernel
theorem dX12_level_241 : decode cX12_level 241 = .ok (.ladd, 1) := by decide +kernel
theorem dX12_level_242 : decode cX12_level 242 = .ok (.aload_n 0, 1) := by decide +kernel
theorem dX12_level_243 : decode cX12_level 243 = .ok (.iload 4, 2) := by decide +kernel
theorem dX12_level_245 : decode cX12_level 245 = .ok (.aload_n 0, 1) := by decide +kernel
theorem dX12_level_246 : decode cX12_level 246 = .ok (.getfield 115, 3) := by decide +kernel
theorem dX12_level_249 : decode cX12_level 249 = .ok (.iload 4, 2) := by decide +kernel
theorem dX12_level_251 : decode cX12_level 251 = .ok (.iaload, 1) := by decide +kernel
theorem dX12_level_252 : decode cX12_level 252 = .ok (.invokevirtual 227, 3) := by decide +kernel
theorem dX12_level_255 : decode cX12_level 255 = .ok (.lsub, 1) := by decide +kernel
theorem dX12_level_256 : decode cX12_level 256 = .ok (.l2i, 1) := by decide +kernel
theorem dX12_level_257 : decode cX12_level 257 = .ok (.iastore, 1) := by decide +kernel
theorem dX12_level_258 : decode cX12_level 258 = .ok (.iinc 4 1, 3) := by decide +kernel
theorem dX12_level_261 : decode cX12_level 261 = .ok (.goto (-41), 3) := by decide +kernel
theorem dX12_level_264 : decode cX12_level 264 = .ok (.aload_n 0, 1) := by decide +kernel
theorem dX12_level_265 : decode cX12_level 265 = .ok (.aload_n 0, 1) := by decide +kernel
theorem dX12_level_266 : decode cX12_level 266 = .ok (.getfield 118, 3) := by decide +kernel
theorem dX12_level_269 : decode cX12_level 269 = .ok (.iconst 0, 1) := by decide +kernel
theorem dX12_level_270 : decode cX12_level 270 = .ok (.iaload, 1) := by decide +kernel
theorem dX12_level_271 : decode cX12_level 271 = .ok (.iload_n 1, 1) := by decide +kernel
theorem dX12_level_272 : decode cX12_level 272 = .ok (.iconst 1, 1) := by decide +kernel
theorem dX12_level_273 : decode cX12_level 273 = .ok (.if_icmp .ne 7, 3) := by decide +kernel
theorem dX12_level_276 : decode cX12_level 276 = .ok (.iconst 0, 1) := by decide +kernel
theorem dX12_level_277 : decode cX12_level 277 = .ok (.goto 7, 3) := by decide +kernel
theorem dX12_level_280 : decode cX12_level 280 = .ok (.aload_n 0, 1) := by decide +kernel
theorem dX12_level_281 : decode cX12_level 281 = .ok (.getfield 186, 3) := by decide +kernel
theorem dX12_level_284 : decode cX12_level 284 = .ok (.iadd, 1) := by decide +kernel
theorem dX12_level_285 : decode cX12_level 285 = .ok (.aload_n 0, 1) := by decide +kernel
theorem dX12_level_286 : decode cX12_level 286 = .ok (.getfield 28, 3) := by decide +kernel
theorem dX12_level_289 : decode cX12_level 289 = .ok (.iconst 0, 1) := by decide +kernel
theorem dX12_level_290 : decode cX12_level 290 = .ok (.iaload, 1) := by decide +kernel
theorem dX12_level_291 : decode cX12_level 291 = .ok (.iadd, 1) := by decide +kernel
theorem dX12_level_292 : decode cX12_level 292 = .ok (.putfield 193, 3) := by decide +kernel
theorem dX12_level_295 : decode cX12_level 295 = .ok (.aload_n 0, 1) := by decide +kernel
theorem dX12_level_296 : decode cX12_level 296 = .ok (.getfield 49, 3) := by decide +kernel
theorem dX12_level_299 : decode cX12_level 299 = .ok (.iload_n 1, 1) := by decide +kernel
theorem dX12_level_300 : decode cX12_level 300 = .ok (.iconst 1, 1) := by decide +kernel
theorem dX12_level_301 : decode cX12_level 301 = .ok (.isub, 1) := by decide +kernel
theorem dX12_level_302 : decode cX12_level 302 = .ok (.iaload, 1) := by decide +kernel
theorem dX12_level_303 : decode cX12_level 303 = .ok (.ireturn, 1) := by decide +kernel
theorem dX12_steer_0 : decode cX12_steer 0 = .ok (.iload_n 1, 1) := by decide +kernel
theorem dX12_steer_1 : decode cX12_steer 1 = .ok (.i2l, 1) := by decide +kernel
theorem dX12_steer_2 : decode cX12_steer 2 = .ok (.lconst 1, 1) := by decide +kernel
theorem dX12_steer_3 : decode cX12_steer 3 = .ok (.ldc2_w 272, 3) := by decide +kernel
theorem dX12_steer_6 : decode cX12_steer 6 = .ok (.invokestatic 145, 3) := by decide +kernel
theorem dX12_steer_9 : decode cX12_steer 9 = .ok (.ifCond .ne 5, 3) := by decide +kernel
theorem dX12_steer_12 : decode cX12_steer 12 = .ok (.iconst (-1), 1) := by decide +kernel
theorem dX12_steer_13 : decode cX12_steer 13 = .ok (.ireturn, 1) := by decide +kernel
theorem dX12_steer_14 : decode cX12_steer 14 = .ok (.aload_n 0, 1) := by decide +kernel
theorem dX12_steer_15 : decode cX12_steer 15 = .ok (.invokevirtual 209, 3) := by decide +kernel
theorem dX12_steer_18 : decode cX12_steer 18 = .ok (.istore_n 2, 1) := by decide +kernel
theorem dX12_steer_19 : decode cX12_steer 19 = .ok (.iload_n 2, 1) := by decide +kernel
theorem dX12_steer_20 : decode cX12_steer 20 = .ok (.iconst 2, 1) := by decide +kernel
theorem dX12_steer_21 : decode cX12_steer 21 = .ok (.if_icmp .ge 6, 3) := by decide +kernel
theorem dX12_steer_24 : decode cX12_steer 24 = .ok (.bipush (-2), 2) := by decide +kernel
theorem dX12_steer_26 : decode cX12_steer 26 = .ok (.ireturn, 1) := by decide +kernel
theorem dX12_steer_27 : decode cX12_steer 27 = .ok (.aload_n 0, 1) := by decide +kernel
theorem dX12_steer_28 : decode cX12_steer 28 = .ok (.iconst 0, 1) := by decide +kernel
theorem dX12_steer_29 : decode cX12_steer 29 = .ok (.aload_n 0, 1) := by decide +kernel
theorem dX12_steer_30 : decode cX12_steer 30 = .ok (.iconst 0, 1) := by decide +kernel
theorem dX12_steer_31 : decode cX12_steer 31 = .ok (.invokevirtual 292, 3) := by decide +kernel
theorem dX12_steer_34 : decode cX12_steer 34 = .ok (.invokevirtual 231, 3) := by decide +kernel
theorem dX12_steer_37 : decode cX12_steer 37 = .ok (.lstore_n 3, 1) := by decide +kernel
theorem dX12_steer_38 : decode cX12_steer 38 = .ok (.lconst 0, 1) := by decide +kernel
theorem dX12_steer_39 : decode cX12_steer 39 = .ok (.lstore 5, 2) := by decide +kernel
theorem dX12_steer_41 : decode cX12_steer 41 = .ok (.iconst 1, 1) := by decide +kernel
theorem dX12_steer_42 : decode cX12_steer 42 = .ok (.istore 7, 2) := by decide +kernel
theorem dX12_steer_44 : decode cX12_steer 44 = .ok (.iload 7, 2) := by decide +kernel
theorem dX12_steer_46 : decode cX12_steer 46 = .ok (.iload_n 2, 1) := by decide +kernel
theorem dX12_steer_47 : decode cX12_steer 47 = .ok (.if_icmp .ge 112, 3) := by decide +kernel
theorem dX12_steer_50 : decode cX12_steer 50 = .ok (.lload_n 3, 1) := by decide +kernel
theorem dX12_steer_51 : decode cX12_steer 51 = .ok (.aload_n 0, 1) := by decide +kernel
theorem dX12_steer_52 : decode cX12_steer 52 = .ok (.getfield 49, 3) := by decide +kernel
theorem dX12_steer_55 : decode cX12_steer 55 = .ok (.iload 7, 2) := by decide +kernel
theorem dX12_steer_57 : decode cX12_steer 57 = .ok (.iaload, 1) := by decide +kernel
theorem dX12_steer_58 : decode cX12_steer 58 = .ok (.i2l, 1) := by decide +kernel
theorem dX12_steer_59 : decode cX12_steer 59 = .ok (.ladd, 1) := by decide +kernel
theorem dX12_steer_60 : decode cX12_steer 60 = .ok (.aload_n 0, 1) := by decide +kernel
theorem dX12_steer_61 : decode cX12_steer 61 = .ok (.iload 7, 2) := by decide +kernel
theorem dX12_steer_63 : decode cX12_steer 63 = .ok (.aload_n 0, 1) := by decide +kernel
theorem dX12_steer_64 : decode cX12_steer 64 = .ok (.iload 7, 2) := by decide +kernel
theorem dX12_steer_66 : decode cX12_steer 66 = .ok (.invokevirtual 292, 3) := by decide +kernel
theorem dX12_steer_69 : decode cX12_steer 69 = .ok (.invokevirtual 231, 3) := by decide +kernel
theorem dX12_steer_72 : decode cX12_steer 72 = .ok (.lsub, 1) := by decide +kernel
theorem dX12_steer_73 : decode cX12_steer 73 = .ok (.lstore 8, 2) := by decide +kernel
theorem dX12_steer_75 : decode cX12_steer 75 = .ok (.lload 8, 2) := by decide +kernel
theorem dX12_steer_77 : decode cX12_steer 77 = .ok (.lconst 0, 1) := by decide +kernel
theorem dX12_steer_78 : decode cX12_steer 78 = .ok (.lcmp, 1) := by decide +kernel
theorem dX12_steer_79 : decode cX12_steer 79 = .ok (.ifCond .ge 9, 3) := by decide +kernel
theorem dX12_steer_82 : decode cX12_steer 82 = .ok (.lload 8, 2) := by decide +kernel
theorem dX12_steer_84 : decode cX12_steer 84 = .ok (.lneg, 1) := by decide +kernel
theorem dX12_steer_85 : decode cX12_steer 85 = .ok (.goto 5, 3) := by decide +kernel
theorem dX12_steer_88 : decode cX12_steer 88 = .ok (.lload 8, 2) := by decide +kernel
theorem dX12_steer_90 : decode cX12_steer 90 = .ok (.lstore 10, 2) := by decide +kernel
theorem dX12_steer_92 : decode cX12_steer 92 = .ok (.lload 10, 2) := by decide +kernel
theorem dX12_steer_94 : decode cX12_steer 94 = .ok (.lload 5, 2) := by decide +kernel
theorem dX12_steer_96 : decode cX12_steer 96 = .ok (.lcmp, 1) := by decide +kernel
theorem dX12_steer_97 : decode cX12_steer 97 = .ok (.ifCond .le 8, 3) := by decide +kernel
theorem dX12_steer_100 : decode cX12_steer 100 = .ok (.lload 10, 2) := by decide +kernel
theorem dX12_steer_102 : decode cX12_steer 102 = .ok (.goto 5, 3) := by decide +kernel
theorem dX12_steer_105 : decode cX12_steer 105 = .ok (.lload 5, 2) := by decide +kernel
theorem dX12_steer_107 : decode cX12_steer 107 = .ok (.lstore 5, 2) := by decide +kernel
theorem dX12_steer_109 : decode cX12_steer 109 = .ok (.lload 10, 2) := by decide +kernel
theorem dX12_steer_111 : decode cX12_steer 111 = .ok (.iload_n 1, 1) := by decide +kernel
theorem dX12_steer_112 : decode cX12_steer 112 = .ok (.i2l, 1) := by decide +kernel
theorem dX12_steer_113 : decode cX12_steer 113 = .ok (.lcmp, 1) := by decide +kernel
theorem dX12_steer_114 : decode cX12_steer 114 = .ok (.ifCond .le 8, 3) := by decide +kernel
theorem dX12_steer_117 : decode cX12_steer 117 = .ok (.iload_n 1, 1) := by decide +kernel
theorem dX12_steer_118 : decode cX12_steer 118 = .ok (.i2l, 1) := by decide +kernel
theorem dX12_steer_119 : decode cX12_steer 119 = .ok (.goto 5, 3) := by decide +kernel
theorem dX12_steer_122 : decode cX12_steer 122 = .ok (.lload 10, 2) := by decide +kernel
theorem dX12_steer_124 : decode cX12_steer 124 = .ok (.lstore 12, 2) := by decide +kernel
theorem dX12_steer_126 : decode cX12_steer 126 = .ok (.aload_n 0, 1) := by decide +kernel
theorem dX12_steer_127 : decode cX12_steer 127 = .ok (.getfield 46, 3) := by decide +kernel
theorem dX12_steer_130 : decode cX12_steer 130 = .ok (.iload 7, 2) := by decide +kernel
theorem dX12_steer_132 : decode cX12_steer 132 = .ok (.dup2, 1) := by decide +kernel
theorem dX12_steer_133 : decode cX12_steer 133 = .ok (.iaload, 1) := by decide +kernel
theorem dX12_steer_134 : decode cX12_steer 134 = .ok (.lload 8, 2) := by decide +kernel
theorem dX12_steer_136 : decode cX12_steer 136 = .ok (.lconst 0, 1) := by decide +kernel
theorem dX12_steer_137 : decode cX12_steer 137 = .ok (.lcmp, 1) := by decide +kernel
theorem dX12_steer_138 : decode cX12_steer 138 = .ok (.ifCond .ge 10, 3) := by decide +kernel
theorem dX12_steer_141 : decode cX12_steer 141 = .ok (.lload 12, 2) := by decide +kernel
theorem dX12_steer_143 : decode cX12_steer 143 = .ok (.l2i, 1) := by decide +kernel
theorem dX12_steer_144 : decode cX12_steer 144 = .ok (.ineg, 1) := by decide +kernel
theorem dX12_steer_145 : decode cX12_steer 145 = .ok (.goto 6, 3) := by decide +kernel
theorem dX12_steer_148 : decode cX12_steer 148 = .ok (.lload 12, 2) := by decide +kernel
theorem dX12_steer_150 : decode cX12_steer 150 = .ok (.l2i, 1) := by decide +kernel
theorem dX12_steer_151 : decode cX12_steer 151 = .ok (.iadd, 1) := by decide +kernel
theorem dX12_steer_152 : decode cX12_steer 152 = .ok (.iastore, 1) := by decide +kernel
theorem dX12_steer_153 : decode cX12_steer 153 = .ok (.iinc 7 1, 3) := by decide +kernel
theorem dX12_steer_156 : decode cX12_steer 156 = .ok (.goto (-112), 3) := by decide +kernel
theorem dX12_steer_159 : decode cX12_steer 159 = .ok (.aload_n 0, 1) := by decide +kernel
theorem dX12_steer_160 : decode cX12_steer 160 = .ok (.dup, 1) := by decide +kernel
theorem dX12_steer_161 : decode cX12_steer 161 = .ok (.getfield 193, 3) := by decide +kernel
theorem dX12_steer_164 : decode cX12_steer 164 = .ok (.aload_n 0, 1) := by decide +kernel
theorem dX12_steer_165 : decode cX12_steer 165 = .ok (.invokevirtual 304, 3) := by decide +kernel
theorem dX12_steer_168 : decode cX12_steer 168 = .ok (.iadd, 1) := by decide +kernel
theorem dX12_steer_169 : decode cX12_steer 169 = .ok (.putfield 193, 3) := by decide +kernel
theorem dX12_steer_172 : decode cX12_steer 172 = .ok (.lload 5, 2) := by decide +kernel
theorem dX12_steer_174 : decode cX12_steer 174 = .ok (.l2i, 1) := by decide +kernel
theorem dX12_steer_175 : decode cX12_steer 175 = .ok (.ireturn, 1) := by decide +kernel
theorem dX12_clock_0 : decode cX12_clock 0 = .ok (.aload_n 0, 1) := by decide +kernel
theorem dX12_clock_1 : decode cX12_clock 1 = .ok (.iload_n 1, 1) := by decide +kernel
theorem dX12_clock_2 : decode cX12_clock 2 = .ok (.invokevirtual 236, 3) := by decide +kernel
theorem dX12_clock_5 : decode cX12_clock 5 = .ok (.ifCond .eq 15, 3) := by decide +kernel
theorem dX12_clock_8 : decode cX12_clock 8 = .ok (.iload_n 2, 1) := by decide +kernel
theorem dX12_clock_9 : decode cX12_clock 9 = .ok (.i2l, 1) := by decide +kernel
theorem dX12_clock_10 : decode cX12_clock 10 = .ok (.lconst 0, 1) := by decide +kernel
theorem dX12_clock_11 : decode cX12_clock 11 = .ok (.ldc2_w 260, 3) := by decide +kernel
theorem dX12_clock_14 : decode cX12_clock 14 = .ok (.invokestatic 145, 3) := by decide +kernel
theorem dX12_clock_17 : decode cX12_clock 17 = .ok (.ifCond .ne 5, 3) := by decide +kernel
theorem dX12_clock_20 : decode cX12_clock 20 = .ok (.iconst (-1), 1) := by decide +kernel
theorem dX12_clock_21 : decode cX12_clock 21 = .ok (.ireturn, 1) := by decide +kernel
theorem dX12_clock_22 : decode cX12_clock 22 = .ok (.iload_n 2, 1) := by decide +kernel
theorem dX12_clock_23 : decode cX12_clock 23 = .ok (.tableswitch 66 0 2 #[25, 40, 55], 25) := by decide +kernel
theorem dX12_clock_48 : decode cX12_clock 48 = .ok (.aload_n 0, 1) := by decide +kernel
theorem dX12_clock_49 : decode cX12_clock 49 = .ok (.iload_n 1, 1) := by decide +kernel
theorem dX12_clock_50 : decode cX12_clock 50 = .ok (.aload_n 0, 1) := by decide +kernel
theorem dX12_clock_51 : decode cX12_clock 51 = .ok (.getfield 193, 3) := by decide +kernel
theorem dX12_clock_54 : decode cX12_clock 54 = .ok (.invokevirtual 227, 3) := by decide +kernel
theorem dX12_clock_57 : decode cX12_clock 57 = .ok (.l2i, 1) := by decide +kernel
theorem dX12_clock_58 : decode cX12_clock 58 = .ok (.ldc_w 333, 3) := by decide +kernel
theorem dX12_clock_61 : decode cX12_clock 61 = .ok (.iadd, 1) := by decide +kernel
theorem dX12_clock_62 : decode cX12_clock 62 = .ok (.ireturn, 1) := by decide +kernel
theorem dX12_clock_63 : decode cX12_clock 63 = .ok (.aload_n 0, 1) := by decide +kernel
theorem dX12_clock_64 : decode cX12_clock 64 = .ok (.iload_n 1, 1) := by decide +kernel
theorem dX12_clock_65 : decode cX12_clock 65 = .ok (.aload_n 0, 1) := by decide +kernel
theorem dX12_clock_66 : decode cX12_clock 66 = .ok (.getfield 193, 3) := by decide +kernel
theorem dX12_clock_69 : decode cX12_clock 69 = .ok (.invokevirtual 231, 3) := by decide +kernel
theorem dX12_clock_72 : decode cX12_clock 72 = .ok (.l2i, 1) := by decide +kernel
theorem dX12_clock_73 : decode cX12_clock 73 = .ok (.ldc_w 333, 3) := by decide +kernel
theorem dX12_clock_76 : decode cX12_clock 76 = .ok (.iadd, 1) := by decide +kernel
theorem dX12_clock_77 : decode cX12_clock 77 = .ok (.ireturn, 1) := by decide +kernel
theorem dX12_clock_78 : decode cX12_clock 78 = .ok (.aload_n 0, 1) := by decide +kernel
theorem dX12_clock_79 : decode cX12_clock 79 = .ok (.getfield 46, 3) := by decide +kernel
theorem dX12_clock_82 : decode cX12_clock 82 = .ok (.iload_n 1, 1) := by decide +kernel
theorem dX12_clock_83 : decode cX12_clock 83 = .ok (.iaload, 1) := by decide +kernel
theorem dX12_clock_84 : decode cX12_clock 84 = .ok (.ldc_w 333, 3) := by decide +kernel
theorem dX12_clock_87 : decode cX12_clock 87 = .ok (.iadd, 1) := by decide +kernel
theorem dX12_clock_88 : decode cX12_clock 88 = .ok (.ireturn, 1) := by decide +kernel
theorem dX12_clock_89 : decode cX12_clock 89 = .ok (.aload_n 0, 1) := by decide +kernel
theorem dX12_clock_90 : decode cX12_clock 90 = .ok (.getfield 49, 3) := by decide +kernel
theorem dX12_clock_93 : decode cX12_clock 93 = .ok (.iload_n 1, 1) := by decide +kernel
theorem dX12_clock_94 : decode cX12_clock 94 = .ok (.iaload, 1) := by decide +kernel
theorem dX12_clock_95 : decode cX12_clock 95 = .ok (.ireturn, 1) := by decide +kernel
theorem dX12_apart_0 : decode cX12_apart 0 = .ok (.aload_n 0, 1) := by decide +kernel
theorem dX12_apart_1 : decode cX12_apart 1 = .ok (.iconst 0, 1) := by decide +kernel
theorem dX12_apart_2 : decode cX12_apart 2 = .ok (.aload_n 0, 1) := by decide +kernel
theorem dX12_apart_3 : decode cX12_apart 3 = .ok (.getfield 193, 3) := by decide +kernel
theorem dX12_apart_6 : decode cX12_apart 6 = .ok (.invokevirtual 231, 3) := by decide +kernel
theorem dX12_apart_9 : decode cX12_apart 9 = .ok (.lstore_n 1, 1) := by decide +kernel
theorem dX12_apart_10 : decode cX12_apart 10 = .ok (.lload_n 1, 1) := by decide +kernel
theorem dX12_apart_11 : decode cX12_apart 11 = .ok (.lstore_n 3, 1) := by decide +kernel
theorem dX12_apart_12 : decode cX12_apart 12 = .ok (.iconst 1, 1) := by decide +kernel
theorem dX12_apart_13 : decode cX12_apart 13 = .ok (.istore 5, 2) := by decide +kernel
theorem dX12_apart_15 : decode cX12_apart 15 = .ok (.iload 5, 2) := by decide +kernel
theorem dX12_apart_17 : decode cX12_apart 17 = .ok (.aload_n 0, 1) := by decide +kernel
theorem dX12_apart_18 : decode cX12_apart 18 = .ok (.getfield 180, 3) := by decide +kernel
theorem dX12_apart_21 : decode cX12_apart 21 = .ok (.if_icmp .ge 49, 3) := by decide +kernel
theorem dX12_apart_24 : decode cX12_apart 24 = .ok (.aload_n 0, 1) := by decide +kernel
theorem dX12_apart_25 : decode cX12_apart 25 = .ok (.iload 5, 2) := by decide +kernel
theorem dX12_apart_27 : decode cX12_apart 27 = .ok (.aload_n 0, 1) := by decide +kernel
theorem dX12_apart_28 : decode cX12_apart 28 = .ok (.getfield 193, 3) := by decide +kernel
theorem dX12_apart_31 : decode cX12_apart 31 = .ok (.invokevirtual 231, 3) := by decide +kernel
theorem dX12_apart_34 : decode cX12_apart 34 = .ok (.lstore 6, 2) := by decide +kernel
theorem dX12_apart_36 : decode cX12_apart 36 = .ok (.lload 6, 2) := by decide +kernel
theorem dX12_apart_38 : decode cX12_apart 38 = .ok (.lload_n 1, 1) := by decide +kernel
theorem dX12_apart_39 : decode cX12_apart 39 = .ok (.lcmp, 1) := by decide +kernel
theorem dX12_apart_40 : decode cX12_apart 40 = .ok (.ifCond .ge 8, 3) := by decide +kernel
theorem dX12_apart_43 : decode cX12_apart 43 = .ok (.lload 6, 2) := by decide +kernel
theorem dX12_apart_45 : decode cX12_apart 45 = .ok (.goto 4, 3) := by decide +kernel
theorem dX12_apart_48 : decode cX12_apart 48 = .ok (.lload_n 1, 1) := by decide +kernel
theorem dX12_apart_49 : decode cX12_apart 49 = .ok (.lstore_n 1, 1) := by decide +kernel
theorem dX12_apart_50 : decode cX12_apart 50 = .ok (.lload 6, 2) := by decide +kernel
theorem dX12_apart_52 : decode cX12_apart 52 = .ok (.lload_n 3, 1) := by decide +kernel
theorem dX12_apart_53 : decode cX12_apart 53 = .ok (.lcmp, 1) := by decide +kernel
theorem dX12_apart_54 : decode cX12_apart 54 = .ok (.ifCond .le 8, 3) := by decide +kernel
theorem dX12_apart_57 : decode cX12_apart 57 = .ok (.lload 6, 2) := by decide +kernel
theorem dX12_apart_59 : decode cX12_apart 59 = .ok (.goto 4, 3) := by decide +kernel
theorem dX12_apart_62 : decode cX12_apart 62 = .ok (.lload_n 3, 1) := by decide +kernel
theorem dX12_apart_63 : decode cX12_apart 63 = .ok (.lstore_n 3, 1) := by decide +kernel
theorem dX12_apart_64 : decode cX12_apart 64 = .ok (.iinc 5 1, 3) := by decide +kernel
theorem dX12_apart_67 : decode cX12_apart 67 = .ok (.goto (-52), 3) := by decide +kernel
theorem dX12_apart_70 : decode cX12_apart 70 = .ok (.lload_n 3, 1) := by decide +kernel
theorem dX12_apart_71 : decode cX12_apart 71 = .ok (.lload_n 1, 1) := by decide +kernel
theorem dX12_apart_72 : decode cX12_apart 72 = .ok (.lsub, 1) := by decide +kernel
theorem dX12_apart_73 : decode cX12_apart 73 = .ok (.l2i, 1) := by decide +kernel
theorem dX12_apart_74 : decode cX12_apart 74 = .ok (.ireturn, 1) := by decide +kernel
theorem dX12_count_0 : decode cX12_count 0 = .ok (.iload_n 1, 1) := by decide +kernel
theorem dX12_count_1 : decode cX12_count 1 = .ok (.tableswitch 142 0 12 #[67, 72, 77, 82, 87, 97, 102, 107, 112, 117, 127, 132, 137], 67) := by decide +kernel
theorem dX12_count_68 : decode cX12_count 68 = .ok (.aload_n 0, 1) := by decide +kernel
theorem dX12_count_69 : decode cX12_count 69 = .ok (.getfield 180, 3) := by decide +kernel
theorem dX12_count_72 : decode cX12_count 72 = .ok (.ireturn, 1) := by decide +kernel
theorem dX12_count_73 : decode cX12_count 73 = .ok (.aload_n 0, 1) := by decide +kernel
theorem dX12_count_74 : decode cX12_count 74 = .ok (.getfield 193, 3) := by decide +kernel
theorem dX12_count_77 : decode cX12_count 77 = .ok (.ireturn, 1) := by decide +kernel
theorem dX12_count_78 : decode cX12_count 78 = .ok (.aload_n 0, 1) := by decide +kernel
theorem dX12_count_79 : decode cX12_count 79 = .ok (.invokevirtual 255, 3) := by decide +kernel
theorem dX12_count_82 : decode cX12_count 82 = .ok (.ireturn, 1) := by decide +kernel
theorem dX12_count_83 : decode cX12_count 83 = .ok (.aload_n 0, 1) := by decide +kernel
theorem dX12_count_84 : decode cX12_count 84 = .ok (.invokevirtual 209, 3) := by decide +kernel
theorem dX12_count_87 : decode cX12_count 87 = .ok (.ireturn, 1) := by decide +kernel
theorem dX12_count_88 : decode cX12_count 88 = .ok (.aload_n 0, 1) := by decide +kernel
theorem dX12_count_89 : decode cX12_count 89 = .ok (.getfield 180, 3) := by decide +kernel
theorem dX12_count_92 : decode cX12_count 92 = .ok (.aload_n 0, 1) := by decide +kernel
theorem dX12_count_93 : decode cX12_count 93 = .ok (.invokevirtual 212, 3) := by decide +kernel
theorem dX12_count_96 : decode cX12_count 96 = .ok (.isub, 1) := by decide +kernel
theorem dX12_count_97 : decode cX12_count 97 = .ok (.ireturn, 1) := by decide +kernel
theorem dX12_count_98 : decode cX12_count 98 = .ok (.aload_n 0, 1) := by decide +kernel
theorem dX12_count_99 : decode cX12_count 99 = .ok (.getfield 206, 3) := by decide +kernel
theorem dX12_count_102 : decode cX12_count 102 = .ok (.ireturn, 1) := by decide +kernel
theorem dX12_count_103 : decode cX12_count 103 = .ok (.aload_n 0, 1) := by decide +kernel
theorem dX12_count_104 : decode cX12_count 104 = .ok (.getfield 203, 3) := by decide +kernel
theorem dX12_count_107 : decode cX12_count 107 = .ok (.ireturn, 1) := by decide +kernel
theorem dX12_count_108 : decode cX12_count 108 = .ok (.aload_n 0, 1) := by decide +kernel
theorem dX12_count_109 : decode cX12_count 109 = .ok (.getfield 196, 3) := by decide +kernel
theorem dX12_count_112 : decode cX12_count 112 = .ok (.ireturn, 1) := by decide +kernel
theorem dX12_count_113 : decode cX12_count 113 = .ok (.aload_n 0, 1) := by decide +kernel
theorem dX12_count_114 : decode cX12_count 114 = .ok (.getfield 149, 3) := by decide +kernel
theorem dX12_count_117 : decode cX12_count 117 = .ok (.ireturn, 1) := by decide +kernel
theorem dX12_count_118 : decode cX12_count 118 = .ok (.aload_n 0, 1) := by decide +kernel
theorem dX12_count_119 : decode cX12_count 119 = .ok (.getfield 28, 3) := by decide +kernel
theorem dX12_count_122 : decode cX12_count 122 = .ok (.aload_n 0, 1) := by decide +kernel
theorem dX12_count_123 : decode cX12_count 123 = .ok (.getfield 180, 3) := by decide +kernel
theorem dX12_count_126 : decode cX12_count 126 = .ok (.iaload, 1) := by decide +kernel
theorem dX12_count_127 : decode cX12_count 127 = .ok (.ireturn, 1) := by decide +kernel
theorem dX12_count_128 : decode cX12_count 128 = .ok (.aload_n 0, 1) := by decide +kernel
theorem dX12_count_129 : decode cX12_count 129 = .ok (.getfield 183, 3) := by decide +kernel
theorem dX12_count_132 : decode cX12_count 132 = .ok (.ireturn, 1) := by decide +kernel
theorem dX12_count_133 : decode cX12_count 133 = .ok (.aload_n 0, 1) := by decide +kernel
theorem dX12_count_134 : decode cX12_count 134 = .ok (.getfield 186, 3) := by decide +kernel
theorem dX12_count_137 : decode cX12_count 137 = .ok (.ireturn, 1) := by decide +kernel
theorem dX12_count_138 : decode cX12_count 138 = .ok (.aload_n 0, 1) := by decide +kernel
theorem dX12_count_139 : decode cX12_count 139 = .ok (.invokevirtual 304, 3) := by decide +kernel
theorem dX12_count_142 : decode cX12_count 142 = .ok (.ireturn, 1) := by decide +kernel
theorem dX12_count_143 : decode cX12_count 143 = .ok (.iconst (-1), 1) := by decide +kernel
theorem dX12_count_144 : decode cX12_count 144 = .ok (.ireturn, 1) := by decide +kernel
theorem dJ9_floorDiv_7cf53_0 : decode cJ9_floorDiv_7cf53 0 = .ok (.iload_n 0, 1) := by decide +kernel
theorem dJ9_floorDiv_7cf53_1 : decode cJ9_floorDiv_7cf53 1 = .ok (.iload_n 1, 1) := by decide +kernel
theorem dJ9_floorDiv_7cf53_2 : decode cJ9_floorDiv_7cf53 2 = .ok (.idiv, 1) := by decide +kernel
theorem dJ9_floorDiv_7cf53_3 : decode cJ9_floorDiv_7cf53 3 = .ok (.istore_n 2, 1) := by decide +kernel
theorem dJ9_floorDiv_7cf53_4 : decode cJ9_floorDiv_7cf53 4 = .ok (.iload_n 0, 1) := by decide +kernel
theorem dJ9_floorDiv_7cf53_5 : decode cJ9_floorDiv_7cf53 5 = .ok (.iload_n 1, 1) := by decide +kernel
theorem dJ9_floorDiv_7cf53_6 : decode cJ9_floorDiv_7cf53 6 = .ok (.ixor, 1) := by decide +kernel
theorem dJ9_floorDiv_7cf53_7 : decode cJ9_floorDiv_7cf53 7 = .ok (.ifCond .ge 14, 3) := by decide +kernel
theorem dJ9_floorDiv_7cf53_10 : decode cJ9_floorDiv_7cf53 10 = .ok (.iload_n 2, 1) := by decide +kernel
theorem dJ9_floorDiv_7cf53_11 : decode cJ9_floorDiv_7cf53 11 = .ok (.iload_n 1, 1) := by decide +kernel
theorem dJ9_floorDiv_7cf53_12 : decode cJ9_floorDiv_7cf53 12 = .ok (.imul, 1) := by decide +kernel
theorem dJ9_floorDiv_7cf53_13 : decode cJ9_floorDiv_7cf53 13 = .ok (.iload_n 0, 1) := by decide +kernel
theorem dJ9_floorDiv_7cf53_14 : decode cJ9_floorDiv_7cf53 14 = .ok (.if_icmp .eq 7, 3) := by decide +kernel
theorem dJ9_floorDiv_7cf53_17 : decode cJ9_floorDiv_7cf53 17 = .ok (.iload_n 2, 1) := by decide +kernel
theorem dJ9_floorDiv_7cf53_18 : decode cJ9_floorDiv_7cf53 18 = .ok (.iconst 1, 1) := by decide +kernel
theorem dJ9_floorDiv_7cf53_19 : decode cJ9_floorDiv_7cf53 19 = .ok (.isub, 1) := by decide +kernel
theorem dJ9_floorDiv_7cf53_20 : decode cJ9_floorDiv_7cf53 20 = .ok (.ireturn, 1) := by decide +kernel
theorem dJ9_floorDiv_7cf53_21 : decode cJ9_floorDiv_7cf53 21 = .ok (.iload_n 2, 1) := by decide +kernel
theorem dJ9_floorDiv_7cf53_22 : decode cJ9_floorDiv_7cf53 22 = .ok (.ireturn, 1) := by decide +kernel
theorem dJ9_floorMod_7cf53_0 : decode cJ9_floorMod_7cf53 0 = .ok (.iload_n 0, 1) := by decide +kernel
theorem dJ9_floorMod_7cf53_1 : decode cJ9_floorMod_7cf53 1 = .ok (.iload_n 1, 1) := by decide +kernel
theorem dJ9_floorMod_7cf53_2 : decode cJ9_floorMod_7cf53 2 = .ok (.irem, 1) := by decide +kernel
theorem dJ9_floorMod_7cf53_3 : decode cJ9_floorMod_7cf53 3 = .ok (.istore_n 2, 1) := by decide +kernel
theorem dJ9_floorMod_7cf53_4 : decode cJ9_floorMod_7cf53 4 = .ok (.iload_n 0, 1) := by decide +kernel
theorem dJ9_floorMod_7cf53_5 : decode cJ9_floorMod_7cf53 5 = .ok (.iload_n 1, 1) := by decide +kernel
theorem dJ9_floorMod_7cf53_6 : decode cJ9_floorMod_7cf53 6 = .ok (.ixor, 1) := by decide +kernel
theorem dJ9_floorMod_7cf53_7 : decode cJ9_floorMod_7cf53 7 = .ok (.ifCond .ge 11, 3) := by decide +kernel
theorem dJ9_floorMod_7cf53_10 : decode cJ9_floorMod_7cf53 10 = .ok (.iload_n 2, 1) := by decide +kernel
theorem dJ9_floorMod_7cf53_11 : decode cJ9_floorMod_7cf53 11 = .ok (.ifCond .eq 7, 3) := by decide +kernel
theorem dJ9_floorMod_7cf53_14 : decode cJ9_floorMod_7cf53 14 = .ok (.iload_n 2, 1) := by decide +kernel
theorem dJ9_floorMod_7cf53_15 : decode cJ9_floorMod_7cf53 15 = .ok (.iload_n 1, 1) := by decide +kernel
theorem dJ9_floorMod_7cf53_16 : decode cJ9_floorMod_7cf53 16 = .ok (.iadd, 1) := by decide +kernel
theorem dJ9_floorMod_7cf53_17 : decode cJ9_floorMod_7cf53 17 = .ok (.ireturn, 1) := by decide +kernel
theorem dJ9_floorMod_7cf53_18 : decode cJ9_floorMod_7cf53 18 = .ok (.iload_n 2, 1) := by decide +kernel
theorem dJ9_floorMod_7cf53_19 : decode cJ9_floorMod_7cf53 19 = .ok (.ireturn, 1) := by decide +kernel
theorem dJ9_abs_0f7a4_0 : decode cJ9_abs_0f7a4 0 = .ok (.iload_n 0, 1) := by decide +kernel
theorem dJ9_abs_0f7a4_1 : decode cJ9_abs_0f7a4 1 = .ok (.ifCond .ge 8, 3) := by decide +kernel
theorem dJ9_abs_0f7a4_4 : decode cJ9_abs_0f7a4 4 = .ok (.iload_n 0, 1) := by decide +kernel
theorem dJ9_abs_0f7a4_5 : decode cJ9_abs_0f7a4 5 = .ok (.ineg, 1) := by decide +kernel
theorem dJ9_abs_0f7a4_6 : decode cJ9_abs_0f7a4 6 = .ok (.goto 4, 3) := by decide +kernel
theorem dJ9_abs_0f7a4_9 : decode cJ9_abs_0f7a4 9 = .ok (.iload_n 0, 1) := by decide +kernel
theorem dJ9_abs_0f7a4_10 : decode cJ9_abs_0f7a4 10 = .ok (.ireturn, 1) := by decide +kernel
theorem dJ9_max_7cf53_0 : decode cJ9_max_7cf53 0 = .ok (.iload_n 0, 1) := by decide +kernel
theorem dJ9_max_7cf53_1 : decode cJ9_max_7cf53 1 = .ok (.iload_n 1, 1) := by decide +kernel
theorem dJ9_max_7cf53_2 : decode cJ9_max_7cf53 2 = .ok (.if_icmp .lt 7, 3) := by decide +kernel
theorem dJ9_max_7cf53_5 : decode cJ9_max_7cf53 5 = .ok (.iload_n 0, 1) := by decide +kernel
theorem dJ9_max_7cf53_6 : decode cJ9_max_7cf53 6 = .ok (.goto 4, 3) := by decide +kernel
theorem dJ9_max_7cf53_9 : decode cJ9_max_7cf53 9 = .ok (.iload_n 1, 1) := by decide +kernel
theorem dJ9_max_7cf53_10 : decode cJ9_max_7cf53 10 = .ok (.ireturn, 1) := by decide +kernel
theorem dJ9_min_7cf53_0 : decode cJ9_min_7cf53 0 = .ok (.iload_n 0, 1) := by decide +kernel
theorem dJ9_min_7cf53_1 : decode cJ9_min_7cf53 1 = .ok (.iload_n 1, 1) := by decide +kernel
theorem dJ9_min_7cf53_2 : decode cJ9_min_7cf53 2 = .ok (.if_icmp .gt 7, 3) := by decide +kernel
theorem dJ9_min_7cf53_5 : decode cJ9_min_7cf53 5 = .ok (.iload_n 0, 1) := by decide +kernel
theorem dJ9_min_7cf53_6 : decode cJ9_min_7cf53 6 = .ok (.goto 4, 3) := by decide +kernel
theorem dJ9_min_7cf53_9 : decode cJ9_min_7cf53 9 = .ok (.iload_n 1, 1) := by decide +kernel
theorem dJ9_min_7cf53_10 : decode cJ9_min_7cf53 10 = .ok (.ireturn, 1) := by decide +kernel
theorem dJ0_length_8abf5_0 : decode cJ0_length_8abf5 0 = .ok (.aload_n 0, 1) := by decide +kernel
theorem dJ0_length_8abf5_1 : decode cJ0_length_8abf5 1 = .ok (.getfield 9, 3) := by decide +kernel
theorem dJ0_length_8abf5_4 : decode cJ0_length_8abf5 4 = .ok (.arraylength, 1) := by decide +kernel
theorem dJ0_length_8abf5_5 : decode cJ0_length_8abf5 5 = .ok (.aload_n 0, 1) := by decide +kernel
theorem dJ0_length_8abf5_6 : decode cJ0_length_8abf5 6 = .ok (.invokevirtual 335, 3) := by decide +kernel
theorem dJ0_length_8abf5_9 : decode cJ0_length_8abf5 9 = .ok (.ishr, 1) := by decide +kernel
theorem dJ0_length_8abf5_10 : decode cJ0_length_8abf5 10 = .ok (.ireturn, 1) := by decide +kernel
theorem dJ0_charAt_5068e_0 : decode cJ0_charAt_5068e 0 = .ok (.aload_n 0, 1) := by decide +kernel
theorem dJ0_charAt_5068e_1 : decode cJ0_charAt_5068e 1 = .ok (.invokevirtual 492, 3) := by decide +kernel
theorem dJ0_charAt_5068e_4 : decode cJ0_charAt_5068e 4 = .ok (.ifCond .eq 12, 3) := by decide +kernel
theorem dJ0_charAt_5068e_7 : decode cJ0_charAt_5068e 7 = .ok (.aload_n 0, 1) := by decide +kernel
theorem dJ0_charAt_5068e_8 : decode cJ0_charAt_5068e 8 = .ok (.getfield 9, 3) := by decide +kernel
theorem dJ0_charAt_5068e_11 : decode cJ0_charAt_5068e 11 = .ok (.iload_n 1, 1) := by decide +kernel
theorem dJ0_charAt_5068e_12 : decode cJ0_charAt_5068e 12 = .ok (.invokestatic 495, 3) := by decide +kernel
theorem dJ0_charAt_5068e_15 : decode cJ0_charAt_5068e 15 = .ok (.ireturn, 1) := by decide +kernel
theorem dJ0_charAt_5068e_16 : decode cJ0_charAt_5068e 16 = .ok (.aload_n 0, 1) := by decide +kernel
theorem dJ0_charAt_5068e_17 : decode cJ0_charAt_5068e 17 = .ok (.getfield 9, 3) := by decide +kernel
theorem dJ0_charAt_5068e_20 : decode cJ0_charAt_5068e 20 = .ok (.iload_n 1, 1) := by decide +kernel
theorem dJ0_charAt_5068e_21 : decode cJ0_charAt_5068e 21 = .ok (.invokestatic 498, 3) := by decide +kernel
theorem dJ0_charAt_5068e_24 : decode cJ0_charAt_5068e 24 = .ok (.ireturn, 1) := by decide +kernel
theorem dJ0_coder_7d493_0 : decode cJ0_coder_7d493 0 = .ok (.getstatic 38, 3) := by decide +kernel
theorem dJ0_coder_7d493_3 : decode cJ0_coder_7d493 3 = .ok (.ifCond .eq 10, 3) := by decide +kernel
theorem dJ0_coder_7d493_6 : decode cJ0_coder_7d493 6 = .ok (.aload_n 0, 1) := by decide +kernel
theorem dJ0_coder_7d493_7 : decode cJ0_coder_7d493 7 = .ok (.getfield 15, 3) := by decide +kernel
theorem dJ0_coder_7d493_10 : decode cJ0_coder_7d493 10 = .ok (.goto 4, 3) := by decide +kernel
theorem dJ0_coder_7d493_13 : decode cJ0_coder_7d493 13 = .ok (.iconst 1, 1) := by decide +kernel
theorem dJ0_coder_7d493_14 : decode cJ0_coder_7d493 14 = .ok (.ireturn, 1) := by decide +kernel
theorem dJ0_isLatin1_aae02_0 : decode cJ0_isLatin1_aae02 0 = .ok (.getstatic 38, 3) := by decide +kernel
theorem dJ0_isLatin1_aae02_3 : decode cJ0_isLatin1_aae02 3 = .ok (.ifCond .eq 14, 3) := by decide +kernel
theorem dJ0_isLatin1_aae02_6 : decode cJ0_isLatin1_aae02 6 = .ok (.aload_n 0, 1) := by decide +kernel
theorem dJ0_isLatin1_aae02_7 : decode cJ0_isLatin1_aae02 7 = .ok (.getfield 15, 3) := by decide +kernel
theorem dJ0_isLatin1_aae02_10 : decode cJ0_isLatin1_aae02 10 = .ok (.ifCond .ne 7, 3) := by decide +kernel
theorem dJ0_isLatin1_aae02_13 : decode cJ0_isLatin1_aae02 13 = .ok (.iconst 1, 1) := by decide +kernel
theorem dJ0_isLatin1_aae02_14 : decode cJ0_isLatin1_aae02 14 = .ok (.goto 4, 3) := by decide +kernel
theorem dJ0_isLatin1_aae02_17 : decode cJ0_isLatin1_aae02 17 = .ok (.iconst 0, 1) := by decide +kernel
theorem dJ0_isLatin1_aae02_18 : decode cJ0_isLatin1_aae02 18 = .ok (.ireturn, 1) := by decide +kernel
theorem dJ0_checkIndex_df160_0 : decode cJ0_checkIndex_df160 0 = .ok (.iload_n 0, 1) := by decide +kernel
theorem dJ0_checkIndex_df160_1 : decode cJ0_checkIndex_df160 1 = .ok (.iload_n 1, 1) := by decide +kernel
theorem dJ0_checkIndex_df160_2 : decode cJ0_checkIndex_df160 2 = .ok (.getstatic 1053, 3) := by decide +kernel
theorem dJ0_checkIndex_df160_5 : decode cJ0_checkIndex_df160 5 = .ok (.invokestatic 1059, 3) := by decide +kernel
theorem dJ0_checkIndex_df160_8 : decode cJ0_checkIndex_df160 8 = .ok (.pop, 1) := by decide +kernel
theorem dJ0_checkIndex_df160_9 : decode cJ0_checkIndex_df160 9 = .ok (.return_, 1) := by decide +kernel
theorem dJ1_charAt_3b067_0 : decode cJ1_charAt_3b067 0 = .ok (.iload_n 1, 1) := by decide +kernel
theorem dJ1_charAt_3b067_1 : decode cJ1_charAt_3b067 1 = .ok (.aload_n 0, 1) := by decide +kernel
theorem dJ1_charAt_3b067_2 : decode cJ1_charAt_3b067 2 = .ok (.arraylength, 1) := by decide +kernel
theorem dJ1_charAt_3b067_3 : decode cJ1_charAt_3b067 3 = .ok (.invokestatic 9, 3) := by decide +kernel
theorem dJ1_charAt_3b067_6 : decode cJ1_charAt_3b067 6 = .ok (.aload_n 0, 1) := by decide +kernel
theorem dJ1_charAt_3b067_7 : decode cJ1_charAt_3b067 7 = .ok (.iload_n 1, 1) := by decide +kernel
theorem dJ1_charAt_3b067_8 : decode cJ1_charAt_3b067 8 = .ok (.baload, 1) := by decide +kernel
theorem dJ1_charAt_3b067_9 : decode cJ1_charAt_3b067 9 = .ok (.sipush 255, 3) := by decide +kernel
theorem dJ1_charAt_3b067_12 : decode cJ1_charAt_3b067 12 = .ok (.iand, 1) := by decide +kernel
theorem dJ1_charAt_3b067_13 : decode cJ1_charAt_3b067 13 = .ok (.i2c, 1) := by decide +kernel
theorem dJ1_charAt_3b067_14 : decode cJ1_charAt_3b067 14 = .ok (.ireturn, 1) := by decide +kernel
theorem dJ2_getChar_3b067_0 : decode cJ2_getChar_3b067 0 = .ok (.getstatic 44, 3) := by decide +kernel
theorem dJ2_getChar_3b067_3 : decode cJ2_getChar_3b067 3 = .ok (.ifCond .ne 25, 3) := by decide +kernel
theorem dJ2_getChar_3b067_6 : decode cJ2_getChar_3b067 6 = .ok (.iload_n 1, 1) := by decide +kernel
theorem dJ2_getChar_3b067_7 : decode cJ2_getChar_3b067 7 = .ok (.ifCond .lt 11, 3) := by decide +kernel
theorem dJ2_getChar_3b067_10 : decode cJ2_getChar_3b067 10 = .ok (.iload_n 1, 1) := by decide +kernel
theorem dJ2_getChar_3b067_11 : decode cJ2_getChar_3b067 11 = .ok (.aload_n 0, 1) := by decide +kernel
theorem dJ2_getChar_3b067_12 : decode cJ2_getChar_3b067 12 = .ok (.invokestatic 48, 3) := by decide +kernel
theorem dJ2_getChar_3b067_15 : decode cJ2_getChar_3b067 15 = .ok (.if_icmp .lt 13, 3) := by decide +kernel
theorem dJ2_getChar_3b067_18 : decode cJ2_getChar_3b067 18 = .ok (.new 52, 3) := by decide +kernel
theorem dJ2_getChar_3b067_21 : decode cJ2_getChar_3b067 21 = .ok (.dup, 1) := by decide +kernel
theorem dJ2_getChar_3b067_22 : decode cJ2_getChar_3b067 22 = .ok (.ldc 54, 2) := by decide +kernel
theorem dJ2_getChar_3b067_24 : decode cJ2_getChar_3b067 24 = .ok (.invokespecial 56, 3) := by decide +kernel
theorem dJ2_getChar_3b067_27 : decode cJ2_getChar_3b067 27 = .ok (.athrow, 1) := by decide +kernel
theorem dJ2_getChar_3b067_28 : decode cJ2_getChar_3b067 28 = .ok (.iload_n 1, 1) := by decide +kernel
theorem dJ2_getChar_3b067_29 : decode cJ2_getChar_3b067 29 = .ok (.iconst 1, 1) := by decide +kernel
theorem dJ2_getChar_3b067_30 : decode cJ2_getChar_3b067 30 = .ok (.ishl, 1) := by decide +kernel
theorem dJ2_getChar_3b067_31 : decode cJ2_getChar_3b067 31 = .ok (.istore_n 1, 1) := by decide +kernel
theorem dJ2_getChar_3b067_32 : decode cJ2_getChar_3b067 32 = .ok (.aload_n 0, 1) := by decide +kernel
theorem dJ2_getChar_3b067_33 : decode cJ2_getChar_3b067 33 = .ok (.iload_n 1, 1) := by decide +kernel
theorem dJ2_getChar_3b067_34 : decode cJ2_getChar_3b067 34 = .ok (.iinc 1 1, 3) := by decide +kernel
theorem dJ2_getChar_3b067_37 : decode cJ2_getChar_3b067 37 = .ok (.baload, 1) := by decide +kernel
theorem dJ2_getChar_3b067_38 : decode cJ2_getChar_3b067 38 = .ok (.sipush 255, 3) := by decide +kernel
theorem dJ2_getChar_3b067_41 : decode cJ2_getChar_3b067 41 = .ok (.iand, 1) := by decide +kernel
theorem dJ2_getChar_3b067_42 : decode cJ2_getChar_3b067 42 = .ok (.getstatic 59, 3) := by decide +kernel
theorem dJ2_getChar_3b067_45 : decode cJ2_getChar_3b067 45 = .ok (.ishl, 1) := by decide +kernel
theorem dJ2_getChar_3b067_46 : decode cJ2_getChar_3b067 46 = .ok (.aload_n 0, 1) := by decide +kernel
theorem dJ2_getChar_3b067_47 : decode cJ2_getChar_3b067 47 = .ok (.iload_n 1, 1) := by decide +kernel
theorem dJ2_getChar_3b067_48 : decode cJ2_getChar_3b067 48 = .ok (.baload, 1) := by decide +kernel
theorem dJ2_getChar_3b067_49 : decode cJ2_getChar_3b067 49 = .ok (.sipush 255, 3) := by decide +kernel
theorem dJ2_getChar_3b067_52 : decode cJ2_getChar_3b067 52 = .ok (.iand, 1) := by decide +kernel
theorem dJ2_getChar_3b067_53 : decode cJ2_getChar_3b067 53 = .ok (.getstatic 63, 3) := by decide +kernel
theorem dJ2_getChar_3b067_56 : decode cJ2_getChar_3b067 56 = .ok (.ishl, 1) := by decide +kernel
theorem dJ2_getChar_3b067_57 : decode cJ2_getChar_3b067 57 = .ok (.ior, 1) := by decide +kernel
theorem dJ2_getChar_3b067_58 : decode cJ2_getChar_3b067 58 = .ok (.i2c, 1) := by decide +kernel
theorem dJ2_getChar_3b067_59 : decode cJ2_getChar_3b067 59 = .ok (.ireturn, 1) := by decide +kernel
theorem dJ2_length_9d52b_0 : decode cJ2_length_9d52b 0 = .ok (.aload_n 0, 1) := by decide +kernel
theorem dJ2_length_9d52b_1 : decode cJ2_length_9d52b 1 = .ok (.arraylength, 1) := by decide +kernel
theorem dJ2_length_9d52b_2 : decode cJ2_length_9d52b 2 = .ok (.iconst 1, 1) := by decide +kernel
theorem dJ2_length_9d52b_3 : decode cJ2_length_9d52b 3 = .ok (.ishr, 1) := by decide +kernel
theorem dJ2_length_9d52b_4 : decode cJ2_length_9d52b 4 = .ok (.ireturn, 1) := by decide +kernel
theorem dJ2_charAt_3b067_0 : decode cJ2_charAt_3b067 0 = .ok (.iload_n 1, 1) := by decide +kernel
theorem dJ2_charAt_3b067_1 : decode cJ2_charAt_3b067 1 = .ok (.aload_n 0, 1) := by decide +kernel
theorem dJ2_charAt_3b067_2 : decode cJ2_charAt_3b067 2 = .ok (.invokestatic 67, 3) := by decide +kernel
theorem dJ2_charAt_3b067_5 : decode cJ2_charAt_3b067 5 = .ok (.aload_n 0, 1) := by decide +kernel
theorem dJ2_charAt_3b067_6 : decode cJ2_charAt_3b067 6 = .ok (.iload_n 1, 1) := by decide +kernel
theorem dJ2_charAt_3b067_7 : decode cJ2_charAt_3b067 7 = .ok (.invokestatic 71, 3) := by decide +kernel
theorem dJ2_charAt_3b067_10 : decode cJ2_charAt_3b067 10 = .ok (.ireturn, 1) := by decide +kernel
theorem dJ2_checkIndex_2214a_0 : decode cJ2_checkIndex_2214a 0 = .ok (.iload_n 0, 1) := by decide +kernel
theorem dJ2_checkIndex_2214a_1 : decode cJ2_checkIndex_2214a 1 = .ok (.aload_n 1, 1) := by decide +kernel
theorem dJ2_checkIndex_2214a_2 : decode cJ2_checkIndex_2214a 2 = .ok (.invokestatic 48, 3) := by decide +kernel
theorem dJ2_checkIndex_2214a_5 : decode cJ2_checkIndex_2214a 5 = .ok (.invokestatic 414, 3) := by decide +kernel
theorem dJ2_checkIndex_2214a_8 : decode cJ2_checkIndex_2214a 8 = .ok (.return_, 1) := by decide +kernel
theorem dJ7_fill_53178_0 : decode cJ7_fill_53178 0 = .ok (.iconst 0, 1) := by decide +kernel
theorem dJ7_fill_53178_1 : decode cJ7_fill_53178 1 = .ok (.istore_n 2, 1) := by decide +kernel
theorem dJ7_fill_53178_2 : decode cJ7_fill_53178 2 = .ok (.aload_n 0, 1) := by decide +kernel
theorem dJ7_fill_53178_3 : decode cJ7_fill_53178 3 = .ok (.arraylength, 1) := by decide +kernel
theorem dJ7_fill_53178_4 : decode cJ7_fill_53178 4 = .ok (.istore_n 3, 1) := by decide +kernel
theorem dJ7_fill_53178_5 : decode cJ7_fill_53178 5 = .ok (.iload_n 2, 1) := by decide +kernel
theorem dJ7_fill_53178_6 : decode cJ7_fill_53178 6 = .ok (.iload_n 3, 1) := by decide +kernel
theorem dJ7_fill_53178_7 : decode cJ7_fill_53178 7 = .ok (.if_icmp .ge 13, 3) := by decide +kernel
theorem dJ7_fill_53178_10 : decode cJ7_fill_53178 10 = .ok (.aload_n 0, 1) := by decide +kernel
theorem dJ7_fill_53178_11 : decode cJ7_fill_53178 11 = .ok (.iload_n 2, 1) := by decide +kernel
theorem dJ7_fill_53178_12 : decode cJ7_fill_53178 12 = .ok (.iload_n 1, 1) := by decide +kernel
theorem dJ7_fill_53178_13 : decode cJ7_fill_53178 13 = .ok (.iastore, 1) := by decide +kernel
theorem dJ7_fill_53178_14 : decode cJ7_fill_53178 14 = .ok (.iinc 2 1, 3) := by decide +kernel
theorem dJ7_fill_53178_17 : decode cJ7_fill_53178 17 = .ok (.goto (-12), 3) := by decide +kernel
theorem dJ7_fill_53178_20 : decode cJ7_fill_53178 20 = .ok (.return_, 1) := by decide +kernel
theorem dJ3_checkIndex_8e157_0 : decode cJ3_checkIndex_8e157 0 = .ok (.iload_n 0, 1) := by decide +kernel
theorem dJ3_checkIndex_8e157_1 : decode cJ3_checkIndex_8e157 1 = .ok (.ifCond .lt 8, 3) := by decide +kernel
theorem dJ3_checkIndex_8e157_4 : decode cJ3_checkIndex_8e157 4 = .ok (.iload_n 0, 1) := by decide +kernel
theorem dJ3_checkIndex_8e157_5 : decode cJ3_checkIndex_8e157 5 = .ok (.iload_n 1, 1) := by decide +kernel
theorem dJ3_checkIndex_8e157_6 : decode cJ3_checkIndex_8e157 6 = .ok (.if_icmp .lt 10, 3) := by decide +kernel
theorem dJ3_checkIndex_8e157_9 : decode cJ3_checkIndex_8e157 9 = .ok (.aload_n 2, 1) := by decide +kernel
theorem dJ3_checkIndex_8e157_10 : decode cJ3_checkIndex_8e157 10 = .ok (.iload_n 0, 1) := by decide +kernel
theorem dJ3_checkIndex_8e157_11 : decode cJ3_checkIndex_8e157 11 = .ok (.iload_n 1, 1) := by decide +kernel
theorem dJ3_checkIndex_8e157_12 : decode cJ3_checkIndex_8e157 12 = .ok (.invokestatic 95, 3) := by decide +kernel
theorem dJ3_checkIndex_8e157_15 : decode cJ3_checkIndex_8e157 15 = .ok (.athrow, 1) := by decide +kernel
theorem dJ3_checkIndex_8e157_16 : decode cJ3_checkIndex_8e157 16 = .ok (.iload_n 0, 1) := by decide +kernel
theorem dJ3_checkIndex_8e157_17 : decode cJ3_checkIndex_8e157 17 = .ok (.ireturn, 1) := by decide +kernel
theorem dL_law_0 : decode cL_law 0 = .ok (.new 7, 3) := by decide +kernel
theorem dL_law_3 : decode cL_law 3 = .ok (.dup, 1) := by decide +kernel
theorem dL_law_4 : decode cL_law 4 = .ok (.invokespecial 9, 3) := by decide +kernel
theorem dL_law_7 : decode cL_law 7 = .ok (.astore_n 1, 1) := by decide +kernel
theorem dL_law_8 : decode cL_law 8 = .ok (.new 10, 3) := by decide +kernel
theorem dL_law_11 : decode cL_law 11 = .ok (.dup, 1) := by decide +kernel
theorem dL_law_12 : decode cL_law 12 = .ok (.invokespecial 12, 3) := by decide +kernel
theorem dL_law_15 : decode cL_law 15 = .ok (.astore_n 2, 1) := by decide +kernel
theorem dL_law_16 : decode cL_law 16 = .ok (.iconst 0, 1) := by decide +kernel
theorem dL_law_17 : decode cL_law 17 = .ok (.istore_n 3, 1) := by decide +kernel
theorem dL_law_18 : decode cL_law 18 = .ok (.iload_n 3, 1) := by decide +kernel
theorem dL_law_19 : decode cL_law 19 = .ok (.aload_n 0, 1) := by decide +kernel
theorem dL_law_20 : decode cL_law 20 = .ok (.arraylength, 1) := by decide +kernel
theorem dL_law_21 : decode cL_law 21 = .ok (.bipush 6, 2) := by decide +kernel
theorem dL_law_23 : decode cL_law 23 = .ok (.isub, 1) := by decide +kernel
theorem dL_law_24 : decode cL_law 24 = .ok (.if_icmp .gt 1047, 3) := by decide +kernel
theorem dL_law_27 : decode cL_law 27 = .ok (.aload_n 0, 1) := by decide +kernel
theorem dL_law_28 : decode cL_law 28 = .ok (.iload_n 3, 1) := by decide +kernel
theorem dL_law_29 : decode cL_law 29 = .ok (.iaload, 1) := by decide +kernel
theorem dL_law_30 : decode cL_law 30 = .ok (.bipush 31, 2) := by decide +kernel
theorem dL_law_32 : decode cL_law 32 = .ok (.iand, 1) := by decide +kernel
theorem dL_law_33 : decode cL_law 33 = .ok (.tableswitch 1032 0 30 #[139, 162, 175, 188, 201, 234, 267, 310, 343, 366, 399, 462, 495, 538, 601, 624, 667, 680, 713, 736, 769, 792, 815, 848, 871, 904, 927, 940, 963, 996, 1009], 139) := by decide +kernel
theorem dL_law_172 : decode cL_law 172 = .ok (.aload_n 1, 1) := by decide +kernel
theorem dL_law_173 : decode cL_law 173 = .ok (.aload_n 0, 1) := by decide +kernel
theorem dL_law_174 : decode cL_law 174 = .ok (.iload_n 3, 1) := by decide +kernel
theorem dL_law_175 : decode cL_law 175 = .ok (.iconst 1, 1) := by decide +kernel
theorem dL_law_176 : decode cL_law 176 = .ok (.iadd, 1) := by decide +kernel
theorem dL_law_177 : decode cL_law 177 = .ok (.iaload, 1) := by decide +kernel
theorem dL_law_178 : decode cL_law 178 = .ok (.invokevirtual 13, 3) := by decide +kernel
theorem dL_law_181 : decode cL_law 181 = .ok (.aload_n 2, 1) := by decide +kernel
theorem dL_law_182 : decode cL_law 182 = .ok (.aload_n 0, 1) := by decide +kernel
theorem dL_law_183 : decode cL_law 183 = .ok (.iload_n 3, 1) := by decide +kernel
theorem dL_law_184 : decode cL_law 184 = .ok (.iconst 1, 1) := by decide +kernel
theorem dL_law_185 : decode cL_law 185 = .ok (.iadd, 1) := by decide +kernel
theorem dL_law_186 : decode cL_law 186 = .ok (.iaload, 1) := by decide +kernel
theorem dL_law_187 : decode cL_law 187 = .ok (.invokevirtual 17, 3) := by decide +kernel
theorem dL_law_190 : decode cL_law 190 = .ok (.if_icmp .eq 875, 3) := by decide +kernel
theorem dL_law_193 : decode cL_law 193 = .ok (.iconst 0, 1) := by decide +kernel
theorem dL_law_194 : decode cL_law 194 = .ok (.ireturn, 1) := by decide +kernel
theorem dL_law_195 : decode cL_law 195 = .ok (.aload_n 1, 1) := by decide +kernel
theorem dL_law_196 : decode cL_law 196 = .ok (.invokevirtual 18, 3) := by decide +kernel
theorem dL_law_199 : decode cL_law 199 = .ok (.aload_n 2, 1) := by decide +kernel
theorem dL_law_200 : decode cL_law 200 = .ok (.invokevirtual 22, 3) := by decide +kernel
theorem dL_law_203 : decode cL_law 203 = .ok (.if_icmp .eq 862, 3) := by decide +kernel
theorem dL_law_206 : decode cL_law 206 = .ok (.iconst 0, 1) := by decide +kernel
theorem dL_law_207 : decode cL_law 207 = .ok (.ireturn, 1) := by decide +kernel
theorem dL_law_208 : decode cL_law 208 = .ok (.aload_n 1, 1) := by decide +kernel
theorem dL_law_209 : decode cL_law 209 = .ok (.invokevirtual 23, 3) := by decide +kernel
theorem dL_law_212 : decode cL_law 212 = .ok (.aload_n 2, 1) := by decide +kernel
theorem dL_law_213 : decode cL_law 213 = .ok (.invokevirtual 26, 3) := by decide +kernel
theorem dL_law_216 : decode cL_law 216 = .ok (.if_icmp .eq 849, 3) := by decide +kernel
theorem dL_law_219 : decode cL_law 219 = .ok (.iconst 0, 1) := by decide +kernel
theorem dL_law_220 : decode cL_law 220 = .ok (.ireturn, 1) := by decide +kernel
theorem dL_law_221 : decode cL_law 221 = .ok (.aload_n 1, 1) := by decide +kernel
theorem dL_law_222 : decode cL_law 222 = .ok (.invokevirtual 27, 3) := by decide +kernel
theorem dL_law_225 : decode cL_law 225 = .ok (.aload_n 2, 1) := by decide +kernel
theorem dL_law_226 : decode cL_law 226 = .ok (.invokevirtual 30, 3) := by decide +kernel
theorem dL_law_229 : decode cL_law 229 = .ok (.if_icmp .eq 836, 3) := by decide +kernel
theorem dL_law_232 : decode cL_law 232 = .ok (.iconst 0, 1) := by decide +kernel
theorem dL_law_233 : decode cL_law 233 = .ok (.ireturn, 1) := by decide +kernel
theorem dL_law_234 : decode cL_law 234 = .ok (.aload_n 1, 1) := by decide +kernel
theorem dL_law_235 : decode cL_law 235 = .ok (.aload_n 0, 1) := by decide +kernel
theorem dL_law_236 : decode cL_law 236 = .ok (.iload_n 3, 1) := by decide +kernel
theorem dL_law_237 : decode cL_law 237 = .ok (.iconst 1, 1) := by decide +kernel
theorem dL_law_238 : decode cL_law 238 = .ok (.iadd, 1) := by decide +kernel
theorem dL_law_239 : decode cL_law 239 = .ok (.iaload, 1) := by decide +kernel
theorem dL_law_240 : decode cL_law 240 = .ok (.aload_n 0, 1) := by decide +kernel
theorem dL_law_241 : decode cL_law 241 = .ok (.iload_n 3, 1) := by decide +kernel
theorem dL_law_242 : decode cL_law 242 = .ok (.iconst 2, 1) := by decide +kernel
theorem dL_law_243 : decode cL_law 243 = .ok (.iadd, 1) := by decide +kernel
theorem dL_law_244 : decode cL_law 244 = .ok (.iaload, 1) := by decide +kernel
theorem dL_law_245 : decode cL_law 245 = .ok (.invokevirtual 31, 3) := by decide +kernel
theorem dL_law_248 : decode cL_law 248 = .ok (.aload_n 2, 1) := by decide +kernel
theorem dL_law_249 : decode cL_law 249 = .ok (.aload_n 0, 1) := by decide +kernel
theorem dL_law_250 : decode cL_law 250 = .ok (.iload_n 3, 1) := by decide +kernel
theorem dL_law_251 : decode cL_law 251 = .ok (.iconst 1, 1) := by decide +kernel
theorem dL_law_252 : decode cL_law 252 = .ok (.iadd, 1) := by decide +kernel
theorem dL_law_253 : decode cL_law 253 = .ok (.iaload, 1) := by decide +kernel
theorem dL_law_254 : decode cL_law 254 = .ok (.aload_n 0, 1) := by decide +kernel
theorem dL_law_255 : decode cL_law 255 = .ok (.iload_n 3, 1) := by decide +kernel
theorem dL_law_256 : decode cL_law 256 = .ok (.iconst 2, 1) := by decide +kernel
theorem dL_law_257 : decode cL_law 257 = .ok (.iadd, 1) := by decide +kernel
theorem dL_law_258 : decode cL_law 258 = .ok (.iaload, 1) := by decide +kernel
theorem dL_law_259 : decode cL_law 259 = .ok (.invokevirtual 35, 3) := by decide +kernel
theorem dL_law_262 : decode cL_law 262 = .ok (.if_icmp .eq 803, 3) := by decide +kernel
theorem dL_law_265 : decode cL_law 265 = .ok (.iconst 0, 1) := by decide +kernel
theorem dL_law_266 : decode cL_law 266 = .ok (.ireturn, 1) := by decide +kernel
theorem dL_law_267 : decode cL_law 267 = .ok (.aload_n 1, 1) := by decide +kernel
theorem dL_law_268 : decode cL_law 268 = .ok (.aload_n 0, 1) := by decide +kernel
theorem dL_law_269 : decode cL_law 269 = .ok (.iload_n 3, 1) := by decide +kernel
theorem dL_law_270 : decode cL_law 270 = .ok (.iconst 1, 1) := by decide +kernel
theorem dL_law_271 : decode cL_law 271 = .ok (.iadd, 1) := by decide +kernel
theorem dL_law_272 : decode cL_law 272 = .ok (.iaload, 1) := by decide +kernel
theorem dL_law_273 : decode cL_law 273 = .ok (.aload_n 0, 1) := by decide +kernel
theorem dL_law_274 : decode cL_law 274 = .ok (.iload_n 3, 1) := by decide +kernel
theorem dL_law_275 : decode cL_law 275 = .ok (.iconst 2, 1) := by decide +kernel
theorem dL_law_276 : decode cL_law 276 = .ok (.iadd, 1) := by decide +kernel
theorem dL_law_277 : decode cL_law 277 = .ok (.iaload, 1) := by decide +kernel
theorem dL_law_278 : decode cL_law 278 = .ok (.invokevirtual 36, 3) := by decide +kernel
theorem dL_law_281 : decode cL_law 281 = .ok (.aload_n 2, 1) := by decide +kernel
theorem dL_law_282 : decode cL_law 282 = .ok (.aload_n 0, 1) := by decide +kernel
theorem dL_law_283 : decode cL_law 283 = .ok (.iload_n 3, 1) := by decide +kernel
theorem dL_law_284 : decode cL_law 284 = .ok (.iconst 1, 1) := by decide +kernel
theorem dL_law_285 : decode cL_law 285 = .ok (.iadd, 1) := by decide +kernel
theorem dL_law_286 : decode cL_law 286 = .ok (.iaload, 1) := by decide +kernel
theorem dL_law_287 : decode cL_law 287 = .ok (.aload_n 0, 1) := by decide +kernel
theorem dL_law_288 : decode cL_law 288 = .ok (.iload_n 3, 1) := by decide +kernel
theorem dL_law_289 : decode cL_law 289 = .ok (.iconst 2, 1) := by decide +kernel
theorem dL_law_290 : decode cL_law 290 = .ok (.iadd, 1) := by decide +kernel
theorem dL_law_291 : decode cL_law 291 = .ok (.iaload, 1) := by decide +kernel
theorem dL_law_292 : decode cL_law 292 = .ok (.invokevirtual 39, 3) := by decide +kernel
theorem dL_law_295 : decode cL_law 295 = .ok (.if_icmp .eq 770, 3) := by decide +kernel
theorem dL_law_298 : decode cL_law 298 = .ok (.iconst 0, 1) := by decide +kernel
theorem dL_law_299 : decode cL_law 299 = .ok (.ireturn, 1) := by decide +kernel
theorem dL_law_300 : decode cL_law 300 = .ok (.aload_n 1, 1) := by decide +kernel
theorem dL_law_301 : decode cL_law 301 = .ok (.aload_n 0, 1) := by decide +kernel
theorem dL_law_302 : decode cL_law 302 = .ok (.iload_n 3, 1) := by decide +kernel
theorem dL_law_303 : decode cL_law 303 = .ok (.iconst 1, 1) := by decide +kernel
theorem dL_law_304 : decode cL_law 304 = .ok (.iadd, 1) := by decide +kernel
theorem dL_law_305 : decode cL_law 305 = .ok (.iaload, 1) := by decide +kernel
theorem dL_law_306 : decode cL_law 306 = .ok (.aload_n 0, 1) := by decide +kernel
theorem dL_law_307 : decode cL_law 307 = .ok (.iload_n 3, 1) := by decide +kernel
theorem dL_law_308 : decode cL_law 308 = .ok (.iconst 2, 1) := by decide +kernel
theorem dL_law_309 : decode cL_law 309 = .ok (.iadd, 1) := by decide +kernel
theorem dL_law_310 : decode cL_law 310 = .ok (.iaload, 1) := by decide +kernel
theorem dL_law_311 : decode cL_law 311 = .ok (.aload_n 0, 1) := by decide +kernel
theorem dL_law_312 : decode cL_law 312 = .ok (.iload_n 3, 1) := by decide +kernel
theorem dL_law_313 : decode cL_law 313 = .ok (.iconst 3, 1) := by decide +kernel
theorem dL_law_314 : decode cL_law 314 = .ok (.iadd, 1) := by decide +kernel
theorem dL_law_315 : decode cL_law 315 = .ok (.iaload, 1) := by decide +kernel
theorem dL_law_316 : decode cL_law 316 = .ok (.invokevirtual 40, 3) := by decide +kernel
theorem dL_law_319 : decode cL_law 319 = .ok (.aload_n 2, 1) := by decide +kernel
theorem dL_law_320 : decode cL_law 320 = .ok (.aload_n 0, 1) := by decide +kernel
theorem dL_law_321 : decode cL_law 321 = .ok (.iload_n 3, 1) := by decide +kernel
theorem dL_law_322 : decode cL_law 322 = .ok (.iconst 1, 1) := by decide +kernel
theorem dL_law_323 : decode cL_law 323 = .ok (.iadd, 1) := by decide +kernel
theorem dL_law_324 : decode cL_law 324 = .ok (.iaload, 1) := by decide +kernel
theorem dL_law_325 : decode cL_law 325 = .ok (.aload_n 0, 1) := by decide +kernel
theorem dL_law_326 : decode cL_law 326 = .ok (.iload_n 3, 1) := by decide +kernel
theorem dL_law_327 : decode cL_law 327 = .ok (.iconst 2, 1) := by decide +kernel
theorem dL_law_328 : decode cL_law 328 = .ok (.iadd, 1) := by decide +kernel
theorem dL_law_329 : decode cL_law 329 = .ok (.iaload, 1) := by decide +kernel
theorem dL_law_330 : decode cL_law 330 = .ok (.aload_n 0, 1) := by decide +kernel
theorem dL_law_331 : decode cL_law 331 = .ok (.iload_n 3, 1) := by decide +kernel
theorem dL_law_332 : decode cL_law 332 = .ok (.iconst 3, 1) := by decide +kernel
theorem dL_law_333 : decode cL_law 333 = .ok (.iadd, 1) := by decide +kernel
theorem dL_law_334 : decode cL_law 334 = .ok (.iaload, 1) := by decide +kernel
theorem dL_law_335 : decode cL_law 335 = .ok (.invokevirtual 44, 3) := by decide +kernel
theorem dL_law_338 : decode cL_law 338 = .ok (.if_icmp .eq 727, 3) := by decide +kernel
theorem dL_law_341 : decode cL_law 341 = .ok (.iconst 0, 1) := by decide +kernel
theorem dL_law_342 : decode cL_law 342 = .ok (.ireturn, 1) := by decide +kernel
theorem dL_law_343 : decode cL_law 343 = .ok (.aload_n 1, 1) := by decide +kernel
theorem dL_law_344 : decode cL_law 344 = .ok (.aload_n 0, 1) := by decide +kernel
theorem dL_law_345 : decode cL_law 345 = .ok (.iload_n 3, 1) := by decide +kernel
theorem dL_law_346 : decode cL_law 346 = .ok (.iconst 1, 1) := by decide +kernel
theorem dL_law_347 : decode cL_law 347 = .ok (.iadd, 1) := by decide +kernel
theorem dL_law_348 : decode cL_law 348 = .ok (.iaload, 1) := by decide +kernel
theorem dL_law_349 : decode cL_law 349 = .ok (.aload_n 0, 1) := by decide +kernel
theorem dL_law_350 : decode cL_law 350 = .ok (.iload_n 3, 1) := by decide +kernel
theorem dL_law_351 : decode cL_law 351 = .ok (.iconst 2, 1) := by decide +kernel
theorem dL_law_352 : decode cL_law 352 = .ok (.iadd, 1) := by decide +kernel
theorem dL_law_353 : decode cL_law 353 = .ok (.iaload, 1) := by decide +kernel
theorem dL_law_354 : decode cL_law 354 = .ok (.invokevirtual 45, 3) := by decide +kernel
theorem dL_law_357 : decode cL_law 357 = .ok (.aload_n 2, 1) := by decide +kernel
theorem dL_law_358 : decode cL_law 358 = .ok (.aload_n 0, 1) := by decide +kernel
theorem dL_law_359 : decode cL_law 359 = .ok (.iload_n 3, 1) := by decide +kernel
theorem dL_law_360 : decode cL_law 360 = .ok (.iconst 1, 1) := by decide +kernel
theorem dL_law_361 : decode cL_law 361 = .ok (.iadd, 1) := by decide +kernel
theorem dL_law_362 : decode cL_law 362 = .ok (.iaload, 1) := by decide +kernel
theorem dL_law_363 : decode cL_law 363 = .ok (.aload_n 0, 1) := by decide +kernel
theorem dL_law_364 : decode cL_law 364 = .ok (.iload_n 3, 1) := by decide +kernel
theorem dL_law_365 : decode cL_law 365 = .ok (.iconst 2, 1) := by decide +kernel
theorem dL_law_366 : decode cL_law 366 = .ok (.iadd, 1) := by decide +kernel
theorem dL_law_367 : decode cL_law 367 = .ok (.iaload, 1) := by decide +kernel
theorem dL_law_368 : decode cL_law 368 = .ok (.invokevirtual 48, 3) := by decide +kernel
theorem dL_law_371 : decode cL_law 371 = .ok (.if_icmp .eq 694, 3) := by decide +kernel
theorem dL_law_374 : decode cL_law 374 = .ok (.iconst 0, 1) := by decide +kernel
theorem dL_law_375 : decode cL_law 375 = .ok (.ireturn, 1) := by decide +kernel
theorem dL_law_376 : decode cL_law 376 = .ok (.aload_n 1, 1) := by decide +kernel
theorem dL_law_377 : decode cL_law 377 = .ok (.aload_n 0, 1) := by decide +kernel
theorem dL_law_378 : decode cL_law 378 = .ok (.iload_n 3, 1) := by decide +kernel
theorem dL_law_379 : decode cL_law 379 = .ok (.iconst 1, 1) := by decide +kernel
theorem dL_law_380 : decode cL_law 380 = .ok (.iadd, 1) := by decide +kernel
theorem dL_law_381 : decode cL_law 381 = .ok (.iaload, 1) := by decide +kernel
theorem dL_law_382 : decode cL_law 382 = .ok (.invokevirtual 49, 3) := by decide +kernel
theorem dL_law_385 : decode cL_law 385 = .ok (.aload_n 2, 1) := by decide +kernel
theorem dL_law_386 : decode cL_law 386 = .ok (.aload_n 0, 1) := by decide +kernel
theorem dL_law_387 : decode cL_law 387 = .ok (.iload_n 3, 1) := by decide +kernel
theorem dL_law_388 : decode cL_law 388 = .ok (.iconst 1, 1) := by decide +kernel
theorem dL_law_389 : decode cL_law 389 = .ok (.iadd, 1) := by decide +kernel
theorem dL_law_390 : decode cL_law 390 = .ok (.iaload, 1) := by decide +kernel
theorem dL_law_391 : decode cL_law 391 = .ok (.invokevirtual 52, 3) := by decide +kernel
theorem dL_law_394 : decode cL_law 394 = .ok (.if_icmp .eq 671, 3) := by decide +kernel
theorem dL_law_397 : decode cL_law 397 = .ok (.iconst 0, 1) := by decide +kernel
theorem dL_law_398 : decode cL_law 398 = .ok (.ireturn, 1) := by decide +kernel
theorem dL_law_399 : decode cL_law 399 = .ok (.aload_n 1, 1) := by decide +kernel
theorem dL_law_400 : decode cL_law 400 = .ok (.aload_n 0, 1) := by decide +kernel
theorem dL_law_401 : decode cL_law 401 = .ok (.iload_n 3, 1) := by decide +kernel
theorem dL_law_402 : decode cL_law 402 = .ok (.iconst 1, 1) := by decide +kernel
theorem dL_law_403 : decode cL_law 403 = .ok (.iadd, 1) := by decide +kernel
theorem dL_law_404 : decode cL_law 404 = .ok (.iaload, 1) := by decide +kernel
theorem dL_law_405 : decode cL_law 405 = .ok (.aload_n 0, 1) := by decide +kernel
theorem dL_law_406 : decode cL_law 406 = .ok (.iload_n 3, 1) := by decide +kernel
theorem dL_law_407 : decode cL_law 407 = .ok (.iconst 2, 1) := by decide +kernel
theorem dL_law_408 : decode cL_law 408 = .ok (.iadd, 1) := by decide +kernel
theorem dL_law_409 : decode cL_law 409 = .ok (.iaload, 1) := by decide +kernel
theorem dL_law_410 : decode cL_law 410 = .ok (.invokevirtual 53, 3) := by decide +kernel
theorem dL_law_413 : decode cL_law 413 = .ok (.aload_n 2, 1) := by decide +kernel
theorem dL_law_414 : decode cL_law 414 = .ok (.aload_n 0, 1) := by decide +kernel
theorem dL_law_415 : decode cL_law 415 = .ok (.iload_n 3, 1) := by decide +kernel
theorem dL_law_416 : decode cL_law 416 = .ok (.iconst 1, 1) := by decide +kernel
theorem dL_law_417 : decode cL_law 417 = .ok (.iadd, 1) := by decide +kernel
theorem dL_law_418 : decode cL_law 418 = .ok (.iaload, 1) := by decide +kernel
theorem dL_law_419 : decode cL_law 419 = .ok (.aload_n 0, 1) := by decide +kernel
theorem dL_law_420 : decode cL_law 420 = .ok (.iload_n 3, 1) := by decide +kernel
theorem dL_law_421 : decode cL_law 421 = .ok (.iconst 2, 1) := by decide +kernel
theorem dL_law_422 : decode cL_law 422 = .ok (.iadd, 1) := by decide +kernel
theorem dL_law_423 : decode cL_law 423 = .ok (.iaload, 1) := by decide +kernel
theorem dL_law_424 : decode cL_law 424 = .ok (.invokevirtual 56, 3) := by decide +kernel
theorem dL_law_427 : decode cL_law 427 = .ok (.if_icmp .eq 638, 3) := by decide +kernel
theorem dL_law_430 : decode cL_law 430 = .ok (.iconst 0, 1) := by decide +kernel
theorem dL_law_431 : decode cL_law 431 = .ok (.ireturn, 1) := by decide +kernel
theorem dL_law_432 : decode cL_law 432 = .ok (.aload_n 1, 1) := by decide +kernel
theorem dL_law_433 : decode cL_law 433 = .ok (.aload_n 0, 1) := by decide +kernel
theorem dL_law_434 : decode cL_law 434 = .ok (.iload_n 3, 1) := by decide +kernel
theorem dL_law_435 : decode cL_law 435 = .ok (.iconst 1, 1) := by decide +kernel
theorem dL_law_436 : decode cL_law 436 = .ok (.iadd, 1) := by decide +kernel
theorem dL_law_437 : decode cL_law 437 = .ok (.iaload, 1) := by decide +kernel
theorem dL_law_438 : decode cL_law 438 = .ok (.aload_n 0, 1) := by decide +kernel
theorem dL_law_439 : decode cL_law 439 = .ok (.iload_n 3, 1) := by decide +kernel
theorem dL_law_440 : decode cL_law 440 = .ok (.iconst 2, 1) := by decide +kernel
theorem dL_law_441 : decode cL_law 441 = .ok (.iadd, 1) := by decide +kernel
theorem dL_law_442 : decode cL_law 442 = .ok (.iaload, 1) := by decide +kernel
theorem dL_law_443 : decode cL_law 443 = .ok (.aload_n 0, 1) := by decide +kernel
theorem dL_law_444 : decode cL_law 444 = .ok (.iload_n 3, 1) := by decide +kernel
theorem dL_law_445 : decode cL_law 445 = .ok (.iconst 3, 1) := by decide +kernel
theorem dL_law_446 : decode cL_law 446 = .ok (.iadd, 1) := by decide +kernel
theorem dL_law_447 : decode cL_law 447 = .ok (.iaload, 1) := by decide +kernel
theorem dL_law_448 : decode cL_law 448 = .ok (.aload_n 0, 1) := by decide +kernel
theorem dL_law_449 : decode cL_law 449 = .ok (.iload_n 3, 1) := by decide +kernel
theorem dL_law_450 : decode cL_law 450 = .ok (.iconst 4, 1) := by decide +kernel
theorem dL_law_451 : decode cL_law 451 = .ok (.iadd, 1) := by decide +kernel
theorem dL_law_452 : decode cL_law 452 = .ok (.iaload, 1) := by decide +kernel
theorem dL_law_453 : decode cL_law 453 = .ok (.aload_n 0, 1) := by decide +kernel
theorem dL_law_454 : decode cL_law 454 = .ok (.iload_n 3, 1) := by decide +kernel
theorem dL_law_455 : decode cL_law 455 = .ok (.iconst 5, 1) := by decide +kernel
theorem dL_law_456 : decode cL_law 456 = .ok (.iadd, 1) := by decide +kernel
theorem dL_law_457 : decode cL_law 457 = .ok (.iaload, 1) := by decide +kernel
theorem dL_law_458 : decode cL_law 458 = .ok (.invokevirtual 57, 3) := by decide +kernel
theorem dL_law_461 : decode cL_law 461 = .ok (.aload_n 2, 1) := by decide +kernel
theorem dL_law_462 : decode cL_law 462 = .ok (.aload_n 0, 1) := by decide +kernel
theorem dL_law_463 : decode cL_law 463 = .ok (.iload_n 3, 1) := by decide +kernel
theorem dL_law_464 : decode cL_law 464 = .ok (.iconst 1, 1) := by decide +kernel
theorem dL_law_465 : decode cL_law 465 = .ok (.iadd, 1) := by decide +kernel
theorem dL_law_466 : decode cL_law 466 = .ok (.iaload, 1) := by decide +kernel
theorem dL_law_467 : decode cL_law 467 = .ok (.aload_n 0, 1) := by decide +kernel
theorem dL_law_468 : decode cL_law 468 = .ok (.iload_n 3, 1) := by decide +kernel
theorem dL_law_469 : decode cL_law 469 = .ok (.iconst 2, 1) := by decide +kernel
theorem dL_law_470 : decode cL_law 470 = .ok (.iadd, 1) := by decide +kernel
theorem dL_law_471 : decode cL_law 471 = .ok (.iaload, 1) := by decide +kernel
theorem dL_law_472 : decode cL_law 472 = .ok (.aload_n 0, 1) := by decide +kernel
theorem dL_law_473 : decode cL_law 473 = .ok (.iload_n 3, 1) := by decide +kernel
theorem dL_law_474 : decode cL_law 474 = .ok (.iconst 3, 1) := by decide +kernel
theorem dL_law_475 : decode cL_law 475 = .ok (.iadd, 1) := by decide +kernel
theorem dL_law_476 : decode cL_law 476 = .ok (.iaload, 1) := by decide +kernel
theorem dL_law_477 : decode cL_law 477 = .ok (.aload_n 0, 1) := by decide +kernel
theorem dL_law_478 : decode cL_law 478 = .ok (.iload_n 3, 1) := by decide +kernel
theorem dL_law_479 : decode cL_law 479 = .ok (.iconst 4, 1) := by decide +kernel
theorem dL_law_480 : decode cL_law 480 = .ok (.iadd, 1) := by decide +kernel
theorem dL_law_481 : decode cL_law 481 = .ok (.iaload, 1) := by decide +kernel
theorem dL_law_482 : decode cL_law 482 = .ok (.aload_n 0, 1) := by decide +kernel
theorem dL_law_483 : decode cL_law 483 = .ok (.iload_n 3, 1) := by decide +kernel
theorem dL_law_484 : decode cL_law 484 = .ok (.iconst 5, 1) := by decide +kernel
theorem dL_law_485 : decode cL_law 485 = .ok (.iadd, 1) := by decide +kernel
theorem dL_law_486 : decode cL_law 486 = .ok (.iaload, 1) := by decide +kernel
theorem dL_law_487 : decode cL_law 487 = .ok (.invokevirtual 61, 3) := by decide +kernel
theorem dL_law_490 : decode cL_law 490 = .ok (.if_icmp .eq 575, 3) := by decide +kernel
theorem dL_law_493 : decode cL_law 493 = .ok (.iconst 0, 1) := by decide +kernel
theorem dL_law_494 : decode cL_law 494 = .ok (.ireturn, 1) := by decide +kernel
theorem dL_law_495 : decode cL_law 495 = .ok (.aload_n 1, 1) := by decide +kernel
theorem dL_law_496 : decode cL_law 496 = .ok (.aload_n 0, 1) := by decide +kernel
theorem dL_law_497 : decode cL_law 497 = .ok (.iload_n 3, 1) := by decide +kernel
theorem dL_law_498 : decode cL_law 498 = .ok (.iconst 1, 1) := by decide +kernel
theorem dL_law_499 : decode cL_law 499 = .ok (.iadd, 1) := by decide +kernel
theorem dL_law_500 : decode cL_law 500 = .ok (.iaload, 1) := by decide +kernel
theorem dL_law_501 : decode cL_law 501 = .ok (.aload_n 0, 1) := by decide +kernel
theorem dL_law_502 : decode cL_law 502 = .ok (.iload_n 3, 1) := by decide +kernel
theorem dL_law_503 : decode cL_law 503 = .ok (.iconst 2, 1) := by decide +kernel
theorem dL_law_504 : decode cL_law 504 = .ok (.iadd, 1) := by decide +kernel
theorem dL_law_505 : decode cL_law 505 = .ok (.iaload, 1) := by decide +kernel
theorem dL_law_506 : decode cL_law 506 = .ok (.invokevirtual 62, 3) := by decide +kernel
theorem dL_law_509 : decode cL_law 509 = .ok (.aload_n 2, 1) := by decide +kernel
theorem dL_law_510 : decode cL_law 510 = .ok (.aload_n 0, 1) := by decide +kernel
theorem dL_law_511 : decode cL_law 511 = .ok (.iload_n 3, 1) := by decide +kernel
theorem dL_law_512 : decode cL_law 512 = .ok (.iconst 1, 1) := by decide +kernel
theorem dL_law_513 : decode cL_law 513 = .ok (.iadd, 1) := by decide +kernel
theorem dL_law_514 : decode cL_law 514 = .ok (.iaload, 1) := by decide +kernel
theorem dL_law_515 : decode cL_law 515 = .ok (.aload_n 0, 1) := by decide +kernel
theorem dL_law_516 : decode cL_law 516 = .ok (.iload_n 3, 1) := by decide +kernel
theorem dL_law_517 : decode cL_law 517 = .ok (.iconst 2, 1) := by decide +kernel
theorem dL_law_518 : decode cL_law 518 = .ok (.iadd, 1) := by decide +kernel
theorem dL_law_519 : decode cL_law 519 = .ok (.iaload, 1) := by decide +kernel
theorem dL_law_520 : decode cL_law 520 = .ok (.invokevirtual 65, 3) := by decide +kernel
theorem dL_law_523 : decode cL_law 523 = .ok (.if_icmp .eq 542, 3) := by decide +kernel
theorem dL_law_526 : decode cL_law 526 = .ok (.iconst 0, 1) := by decide +kernel
theorem dL_law_527 : decode cL_law 527 = .ok (.ireturn, 1) := by decide +kernel
theorem dL_law_528 : decode cL_law 528 = .ok (.aload_n 1, 1) := by decide +kernel
theorem dL_law_529 : decode cL_law 529 = .ok (.aload_n 0, 1) := by decide +kernel
theorem dL_law_530 : decode cL_law 530 = .ok (.iload_n 3, 1) := by decide +kernel
theorem dL_law_531 : decode cL_law 531 = .ok (.iconst 1, 1) := by decide +kernel
theorem dL_law_532 : decode cL_law 532 = .ok (.iadd, 1) := by decide +kernel
theorem dL_law_533 : decode cL_law 533 = .ok (.iaload, 1) := by decide +kernel
theorem dL_law_534 : decode cL_law 534 = .ok (.aload_n 0, 1) := by decide +kernel
theorem dL_law_535 : decode cL_law 535 = .ok (.iload_n 3, 1) := by decide +kernel
theorem dL_law_536 : decode cL_law 536 = .ok (.iconst 2, 1) := by decide +kernel
theorem dL_law_537 : decode cL_law 537 = .ok (.iadd, 1) := by decide +kernel
theorem dL_law_538 : decode cL_law 538 = .ok (.iaload, 1) := by decide +kernel
theorem dL_law_539 : decode cL_law 539 = .ok (.aload_n 0, 1) := by decide +kernel
theorem dL_law_540 : decode cL_law 540 = .ok (.iload_n 3, 1) := by decide +kernel
theorem dL_law_541 : decode cL_law 541 = .ok (.iconst 3, 1) := by decide +kernel
theorem dL_law_542 : decode cL_law 542 = .ok (.iadd, 1) := by decide +kernel
theorem dL_law_543 : decode cL_law 543 = .ok (.iaload, 1) := by decide +kernel
theorem dL_law_544 : decode cL_law 544 = .ok (.invokevirtual 66, 3) := by decide +kernel
theorem dL_law_547 : decode cL_law 547 = .ok (.aload_n 2, 1) := by decide +kernel
theorem dL_law_548 : decode cL_law 548 = .ok (.aload_n 0, 1) := by decide +kernel
theorem dL_law_549 : decode cL_law 549 = .ok (.iload_n 3, 1) := by decide +kernel
theorem dL_law_550 : decode cL_law 550 = .ok (.iconst 1, 1) := by decide +kernel
theorem dL_law_551 : decode cL_law 551 = .ok (.iadd, 1) := by decide +kernel
theorem dL_law_552 : decode cL_law 552 = .ok (.iaload, 1) := by decide +kernel
theorem dL_law_553 : decode cL_law 553 = .ok (.aload_n 0, 1) := by decide +kernel
theorem dL_law_554 : decode cL_law 554 = .ok (.iload_n 3, 1) := by decide +kernel
theorem dL_law_555 : decode cL_law 555 = .ok (.iconst 2, 1) := by decide +kernel
theorem dL_law_556 : decode cL_law 556 = .ok (.iadd, 1) := by decide +kernel
theorem dL_law_557 : decode cL_law 557 = .ok (.iaload, 1) := by decide +kernel
theorem dL_law_558 : decode cL_law 558 = .ok (.aload_n 0, 1) := by decide +kernel
theorem dL_law_559 : decode cL_law 559 = .ok (.iload_n 3, 1) := by decide +kernel
theorem dL_law_560 : decode cL_law 560 = .ok (.iconst 3, 1) := by decide +kernel
theorem dL_law_561 : decode cL_law 561 = .ok (.iadd, 1) := by decide +kernel
theorem dL_law_562 : decode cL_law 562 = .ok (.iaload, 1) := by decide +kernel
theorem dL_law_563 : decode cL_law 563 = .ok (.invokevirtual 69, 3) := by decide +kernel
theorem dL_law_566 : decode cL_law 566 = .ok (.if_icmp .eq 499, 3) := by decide +kernel
theorem dL_law_569 : decode cL_law 569 = .ok (.iconst 0, 1) := by decide +kernel
theorem dL_law_570 : decode cL_law 570 = .ok (.ireturn, 1) := by decide +kernel
theorem dL_law_571 : decode cL_law 571 = .ok (.aload_n 1, 1) := by decide +kernel
theorem dL_law_572 : decode cL_law 572 = .ok (.aload_n 0, 1) := by decide +kernel
theorem dL_law_573 : decode cL_law 573 = .ok (.iload_n 3, 1) := by decide +kernel
theorem dL_law_574 : decode cL_law 574 = .ok (.iconst 1, 1) := by decide +kernel
theorem dL_law_575 : decode cL_law 575 = .ok (.iadd, 1) := by decide +kernel
theorem dL_law_576 : decode cL_law 576 = .ok (.iaload, 1) := by decide +kernel
theorem dL_law_577 : decode cL_law 577 = .ok (.aload_n 0, 1) := by decide +kernel
theorem dL_law_578 : decode cL_law 578 = .ok (.iload_n 3, 1) := by decide +kernel
theorem dL_law_579 : decode cL_law 579 = .ok (.iconst 2, 1) := by decide +kernel
theorem dL_law_580 : decode cL_law 580 = .ok (.iadd, 1) := by decide +kernel
theorem dL_law_581 : decode cL_law 581 = .ok (.iaload, 1) := by decide +kernel
theorem dL_law_582 : decode cL_law 582 = .ok (.aload_n 0, 1) := by decide +kernel
theorem dL_law_583 : decode cL_law 583 = .ok (.iload_n 3, 1) := by decide +kernel
theorem dL_law_584 : decode cL_law 584 = .ok (.iconst 3, 1) := by decide +kernel
theorem dL_law_585 : decode cL_law 585 = .ok (.iadd, 1) := by decide +kernel
theorem dL_law_586 : decode cL_law 586 = .ok (.iaload, 1) := by decide +kernel
theorem dL_law_587 : decode cL_law 587 = .ok (.aload_n 0, 1) := by decide +kernel
theorem dL_law_588 : decode cL_law 588 = .ok (.iload_n 3, 1) := by decide +kernel
theorem dL_law_589 : decode cL_law 589 = .ok (.iconst 4, 1) := by decide +kernel
theorem dL_law_590 : decode cL_law 590 = .ok (.iadd, 1) := by decide +kernel
theorem dL_law_591 : decode cL_law 591 = .ok (.iaload, 1) := by decide +kernel
theorem dL_law_592 : decode cL_law 592 = .ok (.aload_n 0, 1) := by decide +kernel
theorem dL_law_593 : decode cL_law 593 = .ok (.iload_n 3, 1) := by decide +kernel
theorem dL_law_594 : decode cL_law 594 = .ok (.iconst 5, 1) := by decide +kernel
theorem dL_law_595 : decode cL_law 595 = .ok (.iadd, 1) := by decide +kernel
theorem dL_law_596 : decode cL_law 596 = .ok (.iaload, 1) := by decide +kernel
theorem dL_law_597 : decode cL_law 597 = .ok (.invokevirtual 70, 3) := by decide +kernel
theorem dL_law_600 : decode cL_law 600 = .ok (.aload_n 2, 1) := by decide +kernel
theorem dL_law_601 : decode cL_law 601 = .ok (.aload_n 0, 1) := by decide +kernel
theorem dL_law_602 : decode cL_law 602 = .ok (.iload_n 3, 1) := by decide +kernel
theorem dL_law_603 : decode cL_law 603 = .ok (.iconst 1, 1) := by decide +kernel
theorem dL_law_604 : decode cL_law 604 = .ok (.iadd, 1) := by decide +kernel
theorem dL_law_605 : decode cL_law 605 = .ok (.iaload, 1) := by decide +kernel
theorem dL_law_606 : decode cL_law 606 = .ok (.aload_n 0, 1) := by decide +kernel
theorem dL_law_607 : decode cL_law 607 = .ok (.iload_n 3, 1) := by decide +kernel
theorem dL_law_608 : decode cL_law 608 = .ok (.iconst 2, 1) := by decide +kernel
theorem dL_law_609 : decode cL_law 609 = .ok (.iadd, 1) := by decide +kernel
theorem dL_law_610 : decode cL_law 610 = .ok (.iaload, 1) := by decide +kernel
theorem dL_law_611 : decode cL_law 611 = .ok (.aload_n 0, 1) := by decide +kernel
theorem dL_law_612 : decode cL_law 612 = .ok (.iload_n 3, 1) := by decide +kernel
theorem dL_law_613 : decode cL_law 613 = .ok (.iconst 3, 1) := by decide +kernel
theorem dL_law_614 : decode cL_law 614 = .ok (.iadd, 1) := by decide +kernel
theorem dL_law_615 : decode cL_law 615 = .ok (.iaload, 1) := by decide +kernel
theorem dL_law_616 : decode cL_law 616 = .ok (.aload_n 0, 1) := by decide +kernel
theorem dL_law_617 : decode cL_law 617 = .ok (.iload_n 3, 1) := by decide +kernel
theorem dL_law_618 : decode cL_law 618 = .ok (.iconst 4, 1) := by decide +kernel
theorem dL_law_619 : decode cL_law 619 = .ok (.iadd, 1) := by decide +kernel
theorem dL_law_620 : decode cL_law 620 = .ok (.iaload, 1) := by decide +kernel
theorem dL_law_621 : decode cL_law 621 = .ok (.aload_n 0, 1) := by decide +kernel
theorem dL_law_622 : decode cL_law 622 = .ok (.iload_n 3, 1) := by decide +kernel
theorem dL_law_623 : decode cL_law 623 = .ok (.iconst 5, 1) := by decide +kernel
theorem dL_law_624 : decode cL_law 624 = .ok (.iadd, 1) := by decide +kernel
theorem dL_law_625 : decode cL_law 625 = .ok (.iaload, 1) := by decide +kernel
theorem dL_law_626 : decode cL_law 626 = .ok (.invokevirtual 73, 3) := by decide +kernel
theorem dL_law_629 : decode cL_law 629 = .ok (.if_icmp .eq 436, 3) := by decide +kernel
theorem dL_law_632 : decode cL_law 632 = .ok (.iconst 0, 1) := by decide +kernel
theorem dL_law_633 : decode cL_law 633 = .ok (.ireturn, 1) := by decide +kernel
theorem dL_law_634 : decode cL_law 634 = .ok (.aload_n 1, 1) := by decide +kernel
theorem dL_law_635 : decode cL_law 635 = .ok (.aload_n 0, 1) := by decide +kernel
theorem dL_law_636 : decode cL_law 636 = .ok (.iload_n 3, 1) := by decide +kernel
theorem dL_law_637 : decode cL_law 637 = .ok (.iconst 1, 1) := by decide +kernel
theorem dL_law_638 : decode cL_law 638 = .ok (.iadd, 1) := by decide +kernel
theorem dL_law_639 : decode cL_law 639 = .ok (.iaload, 1) := by decide +kernel
theorem dL_law_640 : decode cL_law 640 = .ok (.invokevirtual 74, 3) := by decide +kernel
theorem dL_law_643 : decode cL_law 643 = .ok (.aload_n 2, 1) := by decide +kernel
theorem dL_law_644 : decode cL_law 644 = .ok (.aload_n 0, 1) := by decide +kernel
theorem dL_law_645 : decode cL_law 645 = .ok (.iload_n 3, 1) := by decide +kernel
theorem dL_law_646 : decode cL_law 646 = .ok (.iconst 1, 1) := by decide +kernel
theorem dL_law_647 : decode cL_law 647 = .ok (.iadd, 1) := by decide +kernel
theorem dL_law_648 : decode cL_law 648 = .ok (.iaload, 1) := by decide +kernel
theorem dL_law_649 : decode cL_law 649 = .ok (.invokevirtual 77, 3) := by decide +kernel
theorem dL_law_652 : decode cL_law 652 = .ok (.if_icmp .eq 413, 3) := by decide +kernel
theorem dL_law_655 : decode cL_law 655 = .ok (.iconst 0, 1) := by decide +kernel
theorem dL_law_656 : decode cL_law 656 = .ok (.ireturn, 1) := by decide +kernel
theorem dL_law_657 : decode cL_law 657 = .ok (.aload_n 1, 1) := by decide +kernel
theorem dL_law_658 : decode cL_law 658 = .ok (.aload_n 0, 1) := by decide +kernel
theorem dL_law_659 : decode cL_law 659 = .ok (.iload_n 3, 1) := by decide +kernel
theorem dL_law_660 : decode cL_law 660 = .ok (.iconst 1, 1) := by decide +kernel
theorem dL_law_661 : decode cL_law 661 = .ok (.iadd, 1) := by decide +kernel
theorem dL_law_662 : decode cL_law 662 = .ok (.iaload, 1) := by decide +kernel
theorem dL_law_663 : decode cL_law 663 = .ok (.aload_n 0, 1) := by decide +kernel
theorem dL_law_664 : decode cL_law 664 = .ok (.iload_n 3, 1) := by decide +kernel
theorem dL_law_665 : decode cL_law 665 = .ok (.iconst 2, 1) := by decide +kernel
theorem dL_law_666 : decode cL_law 666 = .ok (.iadd, 1) := by decide +kernel
theorem dL_law_667 : decode cL_law 667 = .ok (.iaload, 1) := by decide +kernel
theorem dL_law_668 : decode cL_law 668 = .ok (.aload_n 0, 1) := by decide +kernel
theorem dL_law_669 : decode cL_law 669 = .ok (.iload_n 3, 1) := by decide +kernel
theorem dL_law_670 : decode cL_law 670 = .ok (.iconst 3, 1) := by decide +kernel
theorem dL_law_671 : decode cL_law 671 = .ok (.iadd, 1) := by decide +kernel
theorem dL_law_672 : decode cL_law 672 = .ok (.iaload, 1) := by decide +kernel
theorem dL_law_673 : decode cL_law 673 = .ok (.invokevirtual 78, 3) := by decide +kernel
theorem dL_law_676 : decode cL_law 676 = .ok (.aload_n 2, 1) := by decide +kernel
theorem dL_law_677 : decode cL_law 677 = .ok (.aload_n 0, 1) := by decide +kernel
theorem dL_law_678 : decode cL_law 678 = .ok (.iload_n 3, 1) := by decide +kernel
theorem dL_law_679 : decode cL_law 679 = .ok (.iconst 1, 1) := by decide +kernel
theorem dL_law_680 : decode cL_law 680 = .ok (.iadd, 1) := by decide +kernel
theorem dL_law_681 : decode cL_law 681 = .ok (.iaload, 1) := by decide +kernel
theorem dL_law_682 : decode cL_law 682 = .ok (.aload_n 0, 1) := by decide +kernel
theorem dL_law_683 : decode cL_law 683 = .ok (.iload_n 3, 1) := by decide +kernel
theorem dL_law_684 : decode cL_law 684 = .ok (.iconst 2, 1) := by decide +kernel
theorem dL_law_685 : decode cL_law 685 = .ok (.iadd, 1) := by decide +kernel
theorem dL_law_686 : decode cL_law 686 = .ok (.iaload, 1) := by decide +kernel
theorem dL_law_687 : decode cL_law 687 = .ok (.aload_n 0, 1) := by decide +kernel
theorem dL_law_688 : decode cL_law 688 = .ok (.iload_n 3, 1) := by decide +kernel
theorem dL_law_689 : decode cL_law 689 = .ok (.iconst 3, 1) := by decide +kernel
theorem dL_law_690 : decode cL_law 690 = .ok (.iadd, 1) := by decide +kernel
theorem dL_law_691 : decode cL_law 691 = .ok (.iaload, 1) := by decide +kernel
theorem dL_law_692 : decode cL_law 692 = .ok (.invokevirtual 81, 3) := by decide +kernel
theorem dL_law_695 : decode cL_law 695 = .ok (.if_icmp .eq 370, 3) := by decide +kernel
theorem dL_law_698 : decode cL_law 698 = .ok (.iconst 0, 1) := by decide +kernel
theorem dL_law_699 : decode cL_law 699 = .ok (.ireturn, 1) := by decide +kernel
theorem dL_law_700 : decode cL_law 700 = .ok (.aload_n 1, 1) := by decide +kernel
theorem dL_law_701 : decode cL_law 701 = .ok (.invokevirtual 82, 3) := by decide +kernel
theorem dL_law_704 : decode cL_law 704 = .ok (.aload_n 2, 1) := by decide +kernel
theorem dL_law_705 : decode cL_law 705 = .ok (.invokevirtual 85, 3) := by decide +kernel
theorem dL_law_708 : decode cL_law 708 = .ok (.if_icmp .eq 357, 3) := by decide +kernel
theorem dL_law_711 : decode cL_law 711 = .ok (.iconst 0, 1) := by decide +kernel
theorem dL_law_712 : decode cL_law 712 = .ok (.ireturn, 1) := by decide +kernel
theorem dL_law_713 : decode cL_law 713 = .ok (.aload_n 1, 1) := by decide +kernel
theorem dL_law_714 : decode cL_law 714 = .ok (.aload_n 0, 1) := by decide +kernel
theorem dL_law_715 : decode cL_law 715 = .ok (.iload_n 3, 1) := by decide +kernel
theorem dL_law_716 : decode cL_law 716 = .ok (.iconst 1, 1) := by decide +kernel
theorem dL_law_717 : decode cL_law 717 = .ok (.iadd, 1) := by decide +kernel
theorem dL_law_718 : decode cL_law 718 = .ok (.iaload, 1) := by decide +kernel
theorem dL_law_719 : decode cL_law 719 = .ok (.aload_n 0, 1) := by decide +kernel
theorem dL_law_720 : decode cL_law 720 = .ok (.iload_n 3, 1) := by decide +kernel
theorem dL_law_721 : decode cL_law 721 = .ok (.iconst 2, 1) := by decide +kernel
theorem dL_law_722 : decode cL_law 722 = .ok (.iadd, 1) := by decide +kernel
theorem dL_law_723 : decode cL_law 723 = .ok (.iaload, 1) := by decide +kernel
theorem dL_law_724 : decode cL_law 724 = .ok (.invokevirtual 86, 3) := by decide +kernel
theorem dL_law_727 : decode cL_law 727 = .ok (.aload_n 2, 1) := by decide +kernel
theorem dL_law_728 : decode cL_law 728 = .ok (.aload_n 0, 1) := by decide +kernel
theorem dL_law_729 : decode cL_law 729 = .ok (.iload_n 3, 1) := by decide +kernel
theorem dL_law_730 : decode cL_law 730 = .ok (.iconst 1, 1) := by decide +kernel
theorem dL_law_731 : decode cL_law 731 = .ok (.iadd, 1) := by decide +kernel
theorem dL_law_732 : decode cL_law 732 = .ok (.iaload, 1) := by decide +kernel
theorem dL_law_733 : decode cL_law 733 = .ok (.aload_n 0, 1) := by decide +kernel
theorem dL_law_734 : decode cL_law 734 = .ok (.iload_n 3, 1) := by decide +kernel
theorem dL_law_735 : decode cL_law 735 = .ok (.iconst 2, 1) := by decide +kernel
theorem dL_law_736 : decode cL_law 736 = .ok (.iadd, 1) := by decide +kernel
theorem dL_law_737 : decode cL_law 737 = .ok (.iaload, 1) := by decide +kernel
theorem dL_law_738 : decode cL_law 738 = .ok (.invokevirtual 89, 3) := by decide +kernel
theorem dL_law_741 : decode cL_law 741 = .ok (.if_icmp .eq 324, 3) := by decide +kernel
theorem dL_law_744 : decode cL_law 744 = .ok (.iconst 0, 1) := by decide +kernel
theorem dL_law_745 : decode cL_law 745 = .ok (.ireturn, 1) := by decide +kernel
theorem dL_law_746 : decode cL_law 746 = .ok (.aload_n 1, 1) := by decide +kernel
theorem dL_law_747 : decode cL_law 747 = .ok (.aload_n 0, 1) := by decide +kernel
theorem dL_law_748 : decode cL_law 748 = .ok (.iload_n 3, 1) := by decide +kernel
theorem dL_law_749 : decode cL_law 749 = .ok (.iconst 1, 1) := by decide +kernel
theorem dL_law_750 : decode cL_law 750 = .ok (.iadd, 1) := by decide +kernel
theorem dL_law_751 : decode cL_law 751 = .ok (.iaload, 1) := by decide +kernel
theorem dL_law_752 : decode cL_law 752 = .ok (.invokevirtual 90, 3) := by decide +kernel
theorem dL_law_755 : decode cL_law 755 = .ok (.aload_n 2, 1) := by decide +kernel
theorem dL_law_756 : decode cL_law 756 = .ok (.aload_n 0, 1) := by decide +kernel
theorem dL_law_757 : decode cL_law 757 = .ok (.iload_n 3, 1) := by decide +kernel
theorem dL_law_758 : decode cL_law 758 = .ok (.iconst 1, 1) := by decide +kernel
theorem dL_law_759 : decode cL_law 759 = .ok (.iadd, 1) := by decide +kernel
theorem dL_law_760 : decode cL_law 760 = .ok (.iaload, 1) := by decide +kernel
theorem dL_law_761 : decode cL_law 761 = .ok (.invokevirtual 93, 3) := by decide +kernel
theorem dL_law_764 : decode cL_law 764 = .ok (.if_icmp .eq 301, 3) := by decide +kernel
theorem dL_law_767 : decode cL_law 767 = .ok (.iconst 0, 1) := by decide +kernel
theorem dL_law_768 : decode cL_law 768 = .ok (.ireturn, 1) := by decide +kernel
theorem dL_law_769 : decode cL_law 769 = .ok (.aload_n 1, 1) := by decide +kernel
theorem dL_law_770 : decode cL_law 770 = .ok (.aload_n 0, 1) := by decide +kernel
theorem dL_law_771 : decode cL_law 771 = .ok (.iload_n 3, 1) := by decide +kernel
theorem dL_law_772 : decode cL_law 772 = .ok (.iconst 1, 1) := by decide +kernel
theorem dL_law_773 : decode cL_law 773 = .ok (.iadd, 1) := by decide +kernel
theorem dL_law_774 : decode cL_law 774 = .ok (.iaload, 1) := by decide +kernel
theorem dL_law_775 : decode cL_law 775 = .ok (.aload_n 0, 1) := by decide +kernel
theorem dL_law_776 : decode cL_law 776 = .ok (.iload_n 3, 1) := by decide +kernel
theorem dL_law_777 : decode cL_law 777 = .ok (.iconst 2, 1) := by decide +kernel
theorem dL_law_778 : decode cL_law 778 = .ok (.iadd, 1) := by decide +kernel
theorem dL_law_779 : decode cL_law 779 = .ok (.iaload, 1) := by decide +kernel
theorem dL_law_780 : decode cL_law 780 = .ok (.invokevirtual 94, 3) := by decide +kernel
theorem dL_law_783 : decode cL_law 783 = .ok (.aload_n 2, 1) := by decide +kernel
theorem dL_law_784 : decode cL_law 784 = .ok (.aload_n 0, 1) := by decide +kernel
theorem dL_law_785 : decode cL_law 785 = .ok (.iload_n 3, 1) := by decide +kernel
theorem dL_law_786 : decode cL_law 786 = .ok (.iconst 1, 1) := by decide +kernel
theorem dL_law_787 : decode cL_law 787 = .ok (.iadd, 1) := by decide +kernel
theorem dL_law_788 : decode cL_law 788 = .ok (.iaload, 1) := by decide +kernel
theorem dL_law_789 : decode cL_law 789 = .ok (.aload_n 0, 1) := by decide +kernel
theorem dL_law_790 : decode cL_law 790 = .ok (.iload_n 3, 1) := by decide +kernel
theorem dL_law_791 : decode cL_law 791 = .ok (.iconst 2, 1) := by decide +kernel
theorem dL_law_792 : decode cL_law 792 = .ok (.iadd, 1) := by decide +kernel
theorem dL_law_793 : decode cL_law 793 = .ok (.iaload, 1) := by decide +kernel
theorem dL_law_794 : decode cL_law 794 = .ok (.invokevirtual 97, 3) := by decide +kernel
theorem dL_law_797 : decode cL_law 797 = .ok (.if_icmp .eq 268, 3) := by decide +kernel
theorem dL_law_800 : decode cL_law 800 = .ok (.iconst 0, 1) := by decide +kernel
theorem dL_law_801 : decode cL_law 801 = .ok (.ireturn, 1) := by decide +kernel
theorem dL_law_802 : decode cL_law 802 = .ok (.aload_n 1, 1) := by decide +kernel
theorem dL_law_803 : decode cL_law 803 = .ok (.aload_n 0, 1) := by decide +kernel
theorem dL_law_804 : decode cL_law 804 = .ok (.iload_n 3, 1) := by decide +kernel
theorem dL_law_805 : decode cL_law 805 = .ok (.iconst 1, 1) := by decide +kernel
theorem dL_law_806 : decode cL_law 806 = .ok (.iadd, 1) := by decide +kernel
theorem dL_law_807 : decode cL_law 807 = .ok (.iaload, 1) := by decide +kernel
theorem dL_law_808 : decode cL_law 808 = .ok (.invokevirtual 98, 3) := by decide +kernel
theorem dL_law_811 : decode cL_law 811 = .ok (.aload_n 2, 1) := by decide +kernel
theorem dL_law_812 : decode cL_law 812 = .ok (.aload_n 0, 1) := by decide +kernel
theorem dL_law_813 : decode cL_law 813 = .ok (.iload_n 3, 1) := by decide +kernel
theorem dL_law_814 : decode cL_law 814 = .ok (.iconst 1, 1) := by decide +kernel
theorem dL_law_815 : decode cL_law 815 = .ok (.iadd, 1) := by decide +kernel
theorem dL_law_816 : decode cL_law 816 = .ok (.iaload, 1) := by decide +kernel
theorem dL_law_817 : decode cL_law 817 = .ok (.invokevirtual 101, 3) := by decide +kernel
theorem dL_law_820 : decode cL_law 820 = .ok (.if_icmp .eq 245, 3) := by decide +kernel
theorem dL_law_823 : decode cL_law 823 = .ok (.iconst 0, 1) := by decide +kernel
theorem dL_law_824 : decode cL_law 824 = .ok (.ireturn, 1) := by decide +kernel
theorem dL_law_825 : decode cL_law 825 = .ok (.aload_n 1, 1) := by decide +kernel
theorem dL_law_826 : decode cL_law 826 = .ok (.aload_n 0, 1) := by decide +kernel
theorem dL_law_827 : decode cL_law 827 = .ok (.iload_n 3, 1) := by decide +kernel
theorem dL_law_828 : decode cL_law 828 = .ok (.iconst 1, 1) := by decide +kernel
theorem dL_law_829 : decode cL_law 829 = .ok (.iadd, 1) := by decide +kernel
theorem dL_law_830 : decode cL_law 830 = .ok (.iaload, 1) := by decide +kernel
theorem dL_law_831 : decode cL_law 831 = .ok (.invokevirtual 102, 3) := by decide +kernel
theorem dL_law_834 : decode cL_law 834 = .ok (.aload_n 2, 1) := by decide +kernel
theorem dL_law_835 : decode cL_law 835 = .ok (.aload_n 0, 1) := by decide +kernel
theorem dL_law_836 : decode cL_law 836 = .ok (.iload_n 3, 1) := by decide +kernel
theorem dL_law_837 : decode cL_law 837 = .ok (.iconst 1, 1) := by decide +kernel
theorem dL_law_838 : decode cL_law 838 = .ok (.iadd, 1) := by decide +kernel
theorem dL_law_839 : decode cL_law 839 = .ok (.iaload, 1) := by decide +kernel
theorem dL_law_840 : decode cL_law 840 = .ok (.invokevirtual 105, 3) := by decide +kernel
theorem dL_law_843 : decode cL_law 843 = .ok (.if_icmp .eq 222, 3) := by decide +kernel
theorem dL_law_846 : decode cL_law 846 = .ok (.iconst 0, 1) := by decide +kernel
theorem dL_law_847 : decode cL_law 847 = .ok (.ireturn, 1) := by decide +kernel
theorem dL_law_848 : decode cL_law 848 = .ok (.aload_n 1, 1) := by decide +kernel
theorem dL_law_849 : decode cL_law 849 = .ok (.aload_n 0, 1) := by decide +kernel
theorem dL_law_850 : decode cL_law 850 = .ok (.iload_n 3, 1) := by decide +kernel
theorem dL_law_851 : decode cL_law 851 = .ok (.iconst 1, 1) := by decide +kernel
theorem dL_law_852 : decode cL_law 852 = .ok (.iadd, 1) := by decide +kernel
theorem dL_law_853 : decode cL_law 853 = .ok (.iaload, 1) := by decide +kernel
theorem dL_law_854 : decode cL_law 854 = .ok (.aload_n 0, 1) := by decide +kernel
theorem dL_law_855 : decode cL_law 855 = .ok (.iload_n 3, 1) := by decide +kernel
theorem dL_law_856 : decode cL_law 856 = .ok (.iconst 2, 1) := by decide +kernel
theorem dL_law_857 : decode cL_law 857 = .ok (.iadd, 1) := by decide +kernel
theorem dL_law_858 : decode cL_law 858 = .ok (.iaload, 1) := by decide +kernel
theorem dL_law_859 : decode cL_law 859 = .ok (.invokevirtual 106, 3) := by decide +kernel
theorem dL_law_862 : decode cL_law 862 = .ok (.aload_n 2, 1) := by decide +kernel
theorem dL_law_863 : decode cL_law 863 = .ok (.aload_n 0, 1) := by decide +kernel
theorem dL_law_864 : decode cL_law 864 = .ok (.iload_n 3, 1) := by decide +kernel
theorem dL_law_865 : decode cL_law 865 = .ok (.iconst 1, 1) := by decide +kernel
theorem dL_law_866 : decode cL_law 866 = .ok (.iadd, 1) := by decide +kernel
theorem dL_law_867 : decode cL_law 867 = .ok (.iaload, 1) := by decide +kernel
theorem dL_law_868 : decode cL_law 868 = .ok (.aload_n 0, 1) := by decide +kernel
theorem dL_law_869 : decode cL_law 869 = .ok (.iload_n 3, 1) := by decide +kernel
theorem dL_law_870 : decode cL_law 870 = .ok (.iconst 2, 1) := by decide +kernel
theorem dL_law_871 : decode cL_law 871 = .ok (.iadd, 1) := by decide +kernel
theorem dL_law_872 : decode cL_law 872 = .ok (.iaload, 1) := by decide +kernel
theorem dL_law_873 : decode cL_law 873 = .ok (.invokevirtual 109, 3) := by decide +kernel
theorem dL_law_876 : decode cL_law 876 = .ok (.if_icmp .eq 189, 3) := by decide +kernel
theorem dL_law_879 : decode cL_law 879 = .ok (.iconst 0, 1) := by decide +kernel
theorem dL_law_880 : decode cL_law 880 = .ok (.ireturn, 1) := by decide +kernel
theorem dL_law_881 : decode cL_law 881 = .ok (.aload_n 1, 1) := by decide +kernel
theorem dL_law_882 : decode cL_law 882 = .ok (.aload_n 0, 1) := by decide +kernel
theorem dL_law_883 : decode cL_law 883 = .ok (.iload_n 3, 1) := by decide +kernel
theorem dL_law_884 : decode cL_law 884 = .ok (.iconst 1, 1) := by decide +kernel
theorem dL_law_885 : decode cL_law 885 = .ok (.iadd, 1) := by decide +kernel
theorem dL_law_886 : decode cL_law 886 = .ok (.iaload, 1) := by decide +kernel
theorem dL_law_887 : decode cL_law 887 = .ok (.invokevirtual 110, 3) := by decide +kernel
theorem dL_law_890 : decode cL_law 890 = .ok (.aload_n 2, 1) := by decide +kernel
theorem dL_law_891 : decode cL_law 891 = .ok (.aload_n 0, 1) := by decide +kernel
theorem dL_law_892 : decode cL_law 892 = .ok (.iload_n 3, 1) := by decide +kernel
theorem dL_law_893 : decode cL_law 893 = .ok (.iconst 1, 1) := by decide +kernel
theorem dL_law_894 : decode cL_law 894 = .ok (.iadd, 1) := by decide +kernel
theorem dL_law_895 : decode cL_law 895 = .ok (.iaload, 1) := by decide +kernel
theorem dL_law_896 : decode cL_law 896 = .ok (.invokevirtual 113, 3) := by decide +kernel
theorem dL_law_899 : decode cL_law 899 = .ok (.if_icmp .eq 166, 3) := by decide +kernel
theorem dL_law_902 : decode cL_law 902 = .ok (.iconst 0, 1) := by decide +kernel
theorem dL_law_903 : decode cL_law 903 = .ok (.ireturn, 1) := by decide +kernel
theorem dL_law_904 : decode cL_law 904 = .ok (.aload_n 1, 1) := by decide +kernel
theorem dL_law_905 : decode cL_law 905 = .ok (.aload_n 0, 1) := by decide +kernel
theorem dL_law_906 : decode cL_law 906 = .ok (.iload_n 3, 1) := by decide +kernel
theorem dL_law_907 : decode cL_law 907 = .ok (.iconst 1, 1) := by decide +kernel
theorem dL_law_908 : decode cL_law 908 = .ok (.iadd, 1) := by decide +kernel
theorem dL_law_909 : decode cL_law 909 = .ok (.iaload, 1) := by decide +kernel
theorem dL_law_910 : decode cL_law 910 = .ok (.aload_n 0, 1) := by decide +kernel
theorem dL_law_911 : decode cL_law 911 = .ok (.iload_n 3, 1) := by decide +kernel
theorem dL_law_912 : decode cL_law 912 = .ok (.iconst 2, 1) := by decide +kernel
theorem dL_law_913 : decode cL_law 913 = .ok (.iadd, 1) := by decide +kernel
theorem dL_law_914 : decode cL_law 914 = .ok (.iaload, 1) := by decide +kernel
theorem dL_law_915 : decode cL_law 915 = .ok (.invokevirtual 114, 3) := by decide +kernel
theorem dL_law_918 : decode cL_law 918 = .ok (.aload_n 2, 1) := by decide +kernel
theorem dL_law_919 : decode cL_law 919 = .ok (.aload_n 0, 1) := by decide +kernel
theorem dL_law_920 : decode cL_law 920 = .ok (.iload_n 3, 1) := by decide +kernel
theorem dL_law_921 : decode cL_law 921 = .ok (.iconst 1, 1) := by decide +kernel
theorem dL_law_922 : decode cL_law 922 = .ok (.iadd, 1) := by decide +kernel
theorem dL_law_923 : decode cL_law 923 = .ok (.iaload, 1) := by decide +kernel
theorem dL_law_924 : decode cL_law 924 = .ok (.aload_n 0, 1) := by decide +kernel
theorem dL_law_925 : decode cL_law 925 = .ok (.iload_n 3, 1) := by decide +kernel
theorem dL_law_926 : decode cL_law 926 = .ok (.iconst 2, 1) := by decide +kernel
theorem dL_law_927 : decode cL_law 927 = .ok (.iadd, 1) := by decide +kernel
theorem dL_law_928 : decode cL_law 928 = .ok (.iaload, 1) := by decide +kernel
theorem dL_law_929 : decode cL_law 929 = .ok (.invokevirtual 117, 3) := by decide +kernel
theorem dL_law_932 : decode cL_law 932 = .ok (.if_icmp .eq 133, 3) := by decide +kernel
theorem dL_law_935 : decode cL_law 935 = .ok (.iconst 0, 1) := by decide +kernel
theorem dL_law_936 : decode cL_law 936 = .ok (.ireturn, 1) := by decide +kernel
theorem dL_law_937 : decode cL_law 937 = .ok (.aload_n 1, 1) := by decide +kernel
theorem dL_law_938 : decode cL_law 938 = .ok (.aload_n 0, 1) := by decide +kernel
theorem dL_law_939 : decode cL_law 939 = .ok (.iload_n 3, 1) := by decide +kernel
theorem dL_law_940 : decode cL_law 940 = .ok (.iconst 1, 1) := by decide +kernel
theorem dL_law_941 : decode cL_law 941 = .ok (.iadd, 1) := by decide +kernel
theorem dL_law_942 : decode cL_law 942 = .ok (.iaload, 1) := by decide +kernel
theorem dL_law_943 : decode cL_law 943 = .ok (.invokevirtual 118, 3) := by decide +kernel
theorem dL_law_946 : decode cL_law 946 = .ok (.aload_n 2, 1) := by decide +kernel
theorem dL_law_947 : decode cL_law 947 = .ok (.aload_n 0, 1) := by decide +kernel
theorem dL_law_948 : decode cL_law 948 = .ok (.iload_n 3, 1) := by decide +kernel
theorem dL_law_949 : decode cL_law 949 = .ok (.iconst 1, 1) := by decide +kernel
theorem dL_law_950 : decode cL_law 950 = .ok (.iadd, 1) := by decide +kernel
theorem dL_law_951 : decode cL_law 951 = .ok (.iaload, 1) := by decide +kernel
theorem dL_law_952 : decode cL_law 952 = .ok (.invokevirtual 121, 3) := by decide +kernel
theorem dL_law_955 : decode cL_law 955 = .ok (.if_icmp .eq 110, 3) := by decide +kernel
theorem dL_law_958 : decode cL_law 958 = .ok (.iconst 0, 1) := by decide +kernel
theorem dL_law_959 : decode cL_law 959 = .ok (.ireturn, 1) := by decide +kernel
theorem dL_law_960 : decode cL_law 960 = .ok (.aload_n 1, 1) := by decide +kernel
theorem dL_law_961 : decode cL_law 961 = .ok (.invokevirtual 122, 3) := by decide +kernel
theorem dL_law_964 : decode cL_law 964 = .ok (.aload_n 2, 1) := by decide +kernel
theorem dL_law_965 : decode cL_law 965 = .ok (.invokevirtual 125, 3) := by decide +kernel
theorem dL_law_968 : decode cL_law 968 = .ok (.if_icmp .eq 97, 3) := by decide +kernel
theorem dL_law_971 : decode cL_law 971 = .ok (.iconst 0, 1) := by decide +kernel
theorem dL_law_972 : decode cL_law 972 = .ok (.ireturn, 1) := by decide +kernel
theorem dL_law_973 : decode cL_law 973 = .ok (.aload_n 1, 1) := by decide +kernel
theorem dL_law_974 : decode cL_law 974 = .ok (.aload_n 0, 1) := by decide +kernel
theorem dL_law_975 : decode cL_law 975 = .ok (.iload_n 3, 1) := by decide +kernel
theorem dL_law_976 : decode cL_law 976 = .ok (.iconst 1, 1) := by decide +kernel
theorem dL_law_977 : decode cL_law 977 = .ok (.iadd, 1) := by decide +kernel
theorem dL_law_978 : decode cL_law 978 = .ok (.iaload, 1) := by decide +kernel
theorem dL_law_979 : decode cL_law 979 = .ok (.invokevirtual 126, 3) := by decide +kernel
theorem dL_law_982 : decode cL_law 982 = .ok (.aload_n 2, 1) := by decide +kernel
theorem dL_law_983 : decode cL_law 983 = .ok (.aload_n 0, 1) := by decide +kernel
theorem dL_law_984 : decode cL_law 984 = .ok (.iload_n 3, 1) := by decide +kernel
theorem dL_law_985 : decode cL_law 985 = .ok (.iconst 1, 1) := by decide +kernel
theorem dL_law_986 : decode cL_law 986 = .ok (.iadd, 1) := by decide +kernel
theorem dL_law_987 : decode cL_law 987 = .ok (.iaload, 1) := by decide +kernel
theorem dL_law_988 : decode cL_law 988 = .ok (.invokevirtual 129, 3) := by decide +kernel
theorem dL_law_991 : decode cL_law 991 = .ok (.if_icmp .eq 74, 3) := by decide +kernel
theorem dL_law_994 : decode cL_law 994 = .ok (.iconst 0, 1) := by decide +kernel
theorem dL_law_995 : decode cL_law 995 = .ok (.ireturn, 1) := by decide +kernel
theorem dL_law_996 : decode cL_law 996 = .ok (.aload_n 1, 1) := by decide +kernel
theorem dL_law_997 : decode cL_law 997 = .ok (.aload_n 0, 1) := by decide +kernel
theorem dL_law_998 : decode cL_law 998 = .ok (.iload_n 3, 1) := by decide +kernel
theorem dL_law_999 : decode cL_law 999 = .ok (.iconst 1, 1) := by decide +kernel
theorem dL_law_1000 : decode cL_law 1000 = .ok (.iadd, 1) := by decide +kernel
theorem dL_law_1001 : decode cL_law 1001 = .ok (.iaload, 1) := by decide +kernel
theorem dL_law_1002 : decode cL_law 1002 = .ok (.aload_n 0, 1) := by decide +kernel
theorem dL_law_1003 : decode cL_law 1003 = .ok (.iload_n 3, 1) := by decide +kernel
theorem dL_law_1004 : decode cL_law 1004 = .ok (.iconst 2, 1) := by decide +kernel
theorem dL_law_1005 : decode cL_law 1005 = .ok (.iadd, 1) := by decide +kernel
theorem dL_law_1006 : decode cL_law 1006 = .ok (.iaload, 1) := by decide +kernel
theorem dL_law_1007 : decode cL_law 1007 = .ok (.invokevirtual 130, 3) := by decide +kernel
theorem dL_law_1010 : decode cL_law 1010 = .ok (.aload_n 2, 1) := by decide +kernel
theorem dL_law_1011 : decode cL_law 1011 = .ok (.aload_n 0, 1) := by decide +kernel
theorem dL_law_1012 : decode cL_law 1012 = .ok (.iload_n 3, 1) := by decide +kernel
theorem dL_law_1013 : decode cL_law 1013 = .ok (.iconst 1, 1) := by decide +kernel
theorem dL_law_1014 : decode cL_law 1014 = .ok (.iadd, 1) := by decide +kernel
theorem dL_law_1015 : decode cL_law 1015 = .ok (.iaload, 1) := by decide +kernel
theorem dL_law_1016 : decode cL_law 1016 = .ok (.aload_n 0, 1) := by decide +kernel
theorem dL_law_1017 : decode cL_law 1017 = .ok (.iload_n 3, 1) := by decide +kernel
theorem dL_law_1018 : decode cL_law 1018 = .ok (.iconst 2, 1) := by decide +kernel
theorem dL_law_1019 : decode cL_law 1019 = .ok (.iadd, 1) := by decide +kernel
theorem dL_law_1020 : decode cL_law 1020 = .ok (.iaload, 1) := by decide +kernel
theorem dL_law_1021 : decode cL_law 1021 = .ok (.invokevirtual 133, 3) := by decide +kernel
theorem dL_law_1024 : decode cL_law 1024 = .ok (.if_icmp .eq 41, 3) := by decide +kernel
theorem dL_law_1027 : decode cL_law 1027 = .ok (.iconst 0, 1) := by decide +kernel
theorem dL_law_1028 : decode cL_law 1028 = .ok (.ireturn, 1) := by decide +kernel
theorem dL_law_1029 : decode cL_law 1029 = .ok (.aload_n 1, 1) := by decide +kernel
theorem dL_law_1030 : decode cL_law 1030 = .ok (.invokevirtual 134, 3) := by decide +kernel
theorem dL_law_1033 : decode cL_law 1033 = .ok (.aload_n 2, 1) := by decide +kernel
theorem dL_law_1034 : decode cL_law 1034 = .ok (.invokevirtual 137, 3) := by decide +kernel
theorem dL_law_1037 : decode cL_law 1037 = .ok (.if_icmp .eq 28, 3) := by decide +kernel
theorem dL_law_1040 : decode cL_law 1040 = .ok (.iconst 0, 1) := by decide +kernel
theorem dL_law_1041 : decode cL_law 1041 = .ok (.ireturn, 1) := by decide +kernel
theorem dL_law_1042 : decode cL_law 1042 = .ok (.aload_n 1, 1) := by decide +kernel
theorem dL_law_1043 : decode cL_law 1043 = .ok (.aload_n 0, 1) := by decide +kernel
theorem dL_law_1044 : decode cL_law 1044 = .ok (.iload_n 3, 1) := by decide +kernel
theorem dL_law_1045 : decode cL_law 1045 = .ok (.iconst 1, 1) := by decide +kernel
theorem dL_law_1046 : decode cL_law 1046 = .ok (.iadd, 1) := by decide +kernel
theorem dL_law_1047 : decode cL_law 1047 = .ok (.iaload, 1) := by decide +kernel
theorem dL_law_1048 : decode cL_law 1048 = .ok (.invokevirtual 138, 3) := by decide +kernel
theorem dL_law_1051 : decode cL_law 1051 = .ok (.aload_n 2, 1) := by decide +kernel
theorem dL_law_1052 : decode cL_law 1052 = .ok (.aload_n 0, 1) := by decide +kernel
theorem dL_law_1053 : decode cL_law 1053 = .ok (.iload_n 3, 1) := by decide +kernel
theorem dL_law_1054 : decode cL_law 1054 = .ok (.iconst 1, 1) := by decide +kernel
theorem dL_law_1055 : decode cL_law 1055 = .ok (.iadd, 1) := by decide +kernel
theorem dL_law_1056 : decode cL_law 1056 = .ok (.iaload, 1) := by decide +kernel
theorem dL_law_1057 : decode cL_law 1057 = .ok (.invokevirtual 141, 3) := by decide +kernel
theorem dL_law_1060 : decode cL_law 1060 = .ok (.if_icmp .eq 5, 3) := by decide +kernel
theorem dL_law_1063 : decode cL_law 1063 = .ok (.iconst 0, 1) := by decide +kernel
theorem dL_law_1064 : decode cL_law 1064 = .ok (.ireturn, 1) := by decide +kernel
theorem dL_law_1065 : decode cL_law 1065 = .ok (.iinc 3 6, 3) := by decide +kernel
theorem dL_law_1068 : decode cL_law 1068 = .ok (.goto (-1050), 3) := by decide +kernel
theorem dL_law_1071 : decode cL_law 1071 = .ok (.iconst 1, 1) := by decide +kernel
theorem dL_law_1072 : decode cL_law 1072 = .ok (.ireturn, 1) := by decide +kernel
