theorem dX6_takes_11 : decode cX6_takes 11 = .ok (.getfield 7, 3) := by decide +kernel
theorem dX6_takes_14 : decode cX6_takes 14 = .ok (.sipush 165, 3) := by decide +kernel
theorem dX6_takes_17 : decode cX6_takes 17 = .ok (.iaload, 1) := by decide +kernel
theorem dX6_takes_18 : decode cX6_takes 18 = .ok (.iastore, 1) := by decide +kernel
theorem dX6_takes_19 : decode cX6_takes 19 = .ok (.aload_n 0, 1) := by decide +kernel
theorem dX6_takes_20 : decode cX6_takes 20 = .ok (.sipush 166, 3) := by decide +kernel
theorem dX6_takes_23 : decode cX6_takes 23 = .ok (.bipush 33, 2) := by decide +kernel
theorem dX6_takes_25 : decode cX6_takes 25 = .ok (.invokevirtual 74, 3) := by decide +kernel
theorem dX6_takes_28 : decode cX6_takes 28 = .ok (.aload_n 0, 1) := by decide +kernel
theorem dX6_takes_29 : decode cX6_takes 29 = .ok (.getfield 7, 3) := by decide +kernel
theorem dX6_takes_32 : decode cX6_takes 32 = .ok (.bipush 32, 2) := by decide +kernel
theorem dX6_takes_34 : decode cX6_takes 34 = .ok (.iaload, 1) := by decide +kernel
theorem dX6_takes_35 : decode cX6_takes 35 = .ok (.ireturn, 1) := by decide +kernel
theorem dX6_isOf_0 : decode cX6_isOf 0 = .ok (.iload_n 3, 1) := by decide +kernel
theorem dX6_isOf_1 : decode cX6_isOf 1 = .ok (.aload_n 0, 1) := by decide +kernel
theorem dX6_isOf_2 : decode cX6_isOf 2 = .ok (.getfield 7, 3) := by decide +kernel
theorem dX6_isOf_5 : decode cX6_isOf 5 = .ok (.iload_n 1, 1) := by decide +kernel
theorem dX6_isOf_6 : decode cX6_isOf 6 = .ok (.iload_n 2, 1) := by decide +kernel
theorem dX6_isOf_7 : decode cX6_isOf 7 = .ok (.iadd, 1) := by decide +kernel
theorem dX6_isOf_8 : decode cX6_isOf 8 = .ok (.iaload, 1) := by decide +kernel
theorem dX6_isOf_9 : decode cX6_isOf 9 = .ok (.aload_n 0, 1) := by decide +kernel
theorem dX6_isOf_10 : decode cX6_isOf 10 = .ok (.getfield 7, 3) := by decide +kernel
theorem dX6_isOf_13 : decode cX6_isOf 13 = .ok (.iload_n 1, 1) := by decide +kernel
theorem dX6_isOf_14 : decode cX6_isOf 14 = .ok (.iload_n 2, 1) := by decide +kernel
theorem dX6_isOf_15 : decode cX6_isOf 15 = .ok (.iadd, 1) := by decide +kernel
theorem dX6_isOf_16 : decode cX6_isOf 16 = .ok (.iconst 1, 1) := by decide +kernel
theorem dX6_isOf_17 : decode cX6_isOf 17 = .ok (.iadd, 1) := by decide +kernel
theorem dX6_isOf_18 : decode cX6_isOf 18 = .ok (.iaload, 1) := by decide +kernel
theorem dX6_isOf_19 : decode cX6_isOf 19 = .ok (.invokestatic 39, 3) := by decide +kernel
theorem dX6_isOf_22 : decode cX6_isOf 22 = .ok (.ireturn, 1) := by decide +kernel
theorem dX6_isFrom_0 : decode cX6_isFrom 0 = .ok (.iload_n 1, 1) := by decide +kernel
theorem dX6_isFrom_1 : decode cX6_isFrom 1 = .ok (.bipush 6, 2) := by decide +kernel
theorem dX6_isFrom_3 : decode cX6_isFrom 3 = .ok (.if_icmp .eq 15, 3) := by decide +kernel
theorem dX6_isFrom_6 : decode cX6_isFrom 6 = .ok (.iload_n 1, 1) := by decide +kernel
theorem dX6_isFrom_7 : decode cX6_isFrom 7 = .ok (.aload_n 0, 1) := by decide +kernel
theorem dX6_isFrom_8 : decode cX6_isFrom 8 = .ok (.getfield 7, 3) := by decide +kernel
theorem dX6_isFrom_11 : decode cX6_isFrom 11 = .ok (.iconst 0, 1) := by decide +kernel
theorem dX6_isFrom_12 : decode cX6_isFrom 12 = .ok (.iload_n 2, 1) := by decide +kernel
theorem dX6_isFrom_13 : decode cX6_isFrom 13 = .ok (.iadd, 1) := by decide +kernel
theorem dX6_isFrom_14 : decode cX6_isFrom 14 = .ok (.iaload, 1) := by decide +kernel
theorem dX6_isFrom_15 : decode cX6_isFrom 15 = .ok (.if_icmp .ne 7, 3) := by decide +kernel
theorem dX6_isFrom_18 : decode cX6_isFrom 18 = .ok (.iconst 1, 1) := by decide +kernel
theorem dX6_isFrom_19 : decode cX6_isFrom 19 = .ok (.goto 4, 3) := by decide +kernel
theorem dX6_isFrom_22 : decode cX6_isFrom 22 = .ok (.iconst 0, 1) := by decide +kernel
theorem dX6_isFrom_23 : decode cX6_isFrom 23 = .ok (.ireturn, 1) := by decide +kernel
theorem dX6_findsFitting_0 : decode cX6_findsFitting 0 = .ok (.iconst 0, 1) := by decide +kernel
theorem dX6_findsFitting_1 : decode cX6_findsFitting 1 = .ok (.istore 4, 2) := by decide +kernel
theorem dX6_findsFitting_3 : decode cX6_findsFitting 3 = .ok (.iload 4, 2) := by decide +kernel
theorem dX6_findsFitting_5 : decode cX6_findsFitting 5 = .ok (.bipush 82, 2) := by decide +kernel
theorem dX6_findsFitting_7 : decode cX6_findsFitting 7 = .ok (.if_icmp .ge 19, 3) := by decide +kernel
theorem dX6_findsFitting_10 : decode cX6_findsFitting 10 = .ok (.aload_n 0, 1) := by decide +kernel
theorem dX6_findsFitting_11 : decode cX6_findsFitting 11 = .ok (.getfield 25, 3) := by decide +kernel
theorem dX6_findsFitting_14 : decode cX6_findsFitting 14 = .ok (.iload_n 3, 1) := by decide +kernel
theorem dX6_findsFitting_15 : decode cX6_findsFitting 15 = .ok (.iload 4, 2) := by decide +kernel
theorem dX6_findsFitting_17 : decode cX6_findsFitting 17 = .ok (.iadd, 1) := by decide +kernel
theorem dX6_findsFitting_18 : decode cX6_findsFitting 18 = .ok (.iconst 0, 1) := by decide +kernel
theorem dX6_findsFitting_19 : decode cX6_findsFitting 19 = .ok (.iastore, 1) := by decide +kernel
theorem dX6_findsFitting_20 : decode cX6_findsFitting 20 = .ok (.iinc 4 1, 3) := by decide +kernel
theorem dX6_findsFitting_23 : decode cX6_findsFitting 23 = .ok (.goto (-20), 3) := by decide +kernel
theorem dX6_findsFitting_26 : decode cX6_findsFitting 26 = .ok (.iconst 0, 1) := by decide +kernel
theorem dX6_findsFitting_27 : decode cX6_findsFitting 27 = .ok (.istore 4, 2) := by decide +kernel
theorem dX6_findsFitting_29 : decode cX6_findsFitting 29 = .ok (.iload 4, 2) := by decide +kernel
theorem dX6_findsFitting_31 : decode cX6_findsFitting 31 = .ok (.iload_n 2, 1) := by decide +kernel
theorem dX6_findsFitting_32 : decode cX6_findsFitting 32 = .ok (.if_icmp .ge 256, 3) := by decide +kernel
theorem dX6_findsFitting_35 : decode cX6_findsFitting 35 = .ok (.iload_n 1, 1) := by decide +kernel
theorem dX6_findsFitting_36 : decode cX6_findsFitting 36 = .ok (.bipush 11, 2) := by decide +kernel
theorem dX6_findsFitting_38 : decode cX6_findsFitting 38 = .ok (.iload 4, 2) := by decide +kernel
theorem dX6_findsFitting_40 : decode cX6_findsFitting 40 = .ok (.imul, 1) := by decide +kernel
theorem dX6_findsFitting_41 : decode cX6_findsFitting 41 = .ok (.iadd, 1) := by decide +kernel
theorem dX6_findsFitting_42 : decode cX6_findsFitting 42 = .ok (.istore 5, 2) := by decide +kernel
theorem dX6_findsFitting_44 : decode cX6_findsFitting 44 = .ok (.iconst 0, 1) := by decide +kernel
theorem dX6_findsFitting_45 : decode cX6_findsFitting 45 = .ok (.istore 6, 2) := by decide +kernel
theorem dX6_findsFitting_47 : decode cX6_findsFitting 47 = .ok (.iload 6, 2) := by decide +kernel
theorem dX6_findsFitting_49 : decode cX6_findsFitting 49 = .ok (.bipush 32, 2) := by decide +kernel
theorem dX6_findsFitting_51 : decode cX6_findsFitting 51 = .ok (.if_icmp .ge 112, 3) := by decide +kernel
theorem dX6_findsFitting_54 : decode cX6_findsFitting 54 = .ok (.aload_n 0, 1) := by decide +kernel
theorem dX6_findsFitting_55 : decode cX6_findsFitting 55 = .ok (.getfield 25, 3) := by decide +kernel
theorem dX6_findsFitting_58 : decode cX6_findsFitting 58 = .ok (.iload_n 3, 1) := by decide +kernel
theorem dX6_findsFitting_59 : decode cX6_findsFitting 59 = .ok (.iload 6, 2) := by decide +kernel
theorem dX6_findsFitting_61 : decode cX6_findsFitting 61 = .ok (.iadd, 1) := by decide +kernel
theorem dX6_findsFitting_62 : decode cX6_findsFitting 62 = .ok (.dup2, 1) := by decide +kernel
theorem dX6_findsFitting_63 : decode cX6_findsFitting 63 = .ok (.iaload, 1) := by decide +kernel
theorem dX6_findsFitting_64 : decode cX6_findsFitting 64 = .ok (.aload_n 0, 1) := by decide +kernel
theorem dX6_findsFitting_65 : decode cX6_findsFitting 65 = .ok (.aload_n 0, 1) := by decide +kernel
theorem dX6_findsFitting_66 : decode cX6_findsFitting 66 = .ok (.getfield 7, 3) := by decide +kernel
theorem dX6_findsFitting_69 : decode cX6_findsFitting 69 = .ok (.iload 5, 2) := by decide +kernel
theorem dX6_findsFitting_71 : decode cX6_findsFitting 71 = .ok (.iconst 0, 1) := by decide +kernel
theorem dX6_findsFitting_72 : decode cX6_findsFitting 72 = .ok (.iadd, 1) := by decide +kernel
theorem dX6_findsFitting_73 : decode cX6_findsFitting 73 = .ok (.iaload, 1) := by decide +kernel
theorem dX6_findsFitting_74 : decode cX6_findsFitting 74 = .ok (.iload 6, 2) := by decide +kernel
theorem dX6_findsFitting_76 : decode cX6_findsFitting 76 = .ok (.invokevirtual 78, 3) := by decide +kernel
theorem dX6_findsFitting_79 : decode cX6_findsFitting 79 = .ok (.ifCond .eq 22, 3) := by decide +kernel
theorem dX6_findsFitting_82 : decode cX6_findsFitting 82 = .ok (.aload_n 0, 1) := by decide +kernel
theorem dX6_findsFitting_83 : decode cX6_findsFitting 83 = .ok (.iload 5, 2) := by decide +kernel
theorem dX6_findsFitting_85 : decode cX6_findsFitting 85 = .ok (.iconst 2, 1) := by decide +kernel
theorem dX6_findsFitting_86 : decode cX6_findsFitting 86 = .ok (.iload 6, 2) := by decide +kernel
theorem dX6_findsFitting_88 : decode cX6_findsFitting 88 = .ok (.invokevirtual 82, 3) := by decide +kernel
theorem dX6_findsFitting_91 : decode cX6_findsFitting 91 = .ok (.ifCond .eq 10, 3) := by decide +kernel
theorem dX6_findsFitting_94 : decode cX6_findsFitting 94 = .ok (.iconst 1, 1) := by decide +kernel
theorem dX6_findsFitting_95 : decode cX6_findsFitting 95 = .ok (.iload 4, 2) := by decide +kernel
theorem dX6_findsFitting_97 : decode cX6_findsFitting 97 = .ok (.ishl, 1) := by decide +kernel
theorem dX6_findsFitting_98 : decode cX6_findsFitting 98 = .ok (.goto 4, 3) := by decide +kernel
theorem dX6_findsFitting_101 : decode cX6_findsFitting 101 = .ok (.iconst 0, 1) := by decide +kernel
theorem dX6_findsFitting_102 : decode cX6_findsFitting 102 = .ok (.ior, 1) := by decide +kernel
theorem dX6_findsFitting_103 : decode cX6_findsFitting 103 = .ok (.iastore, 1) := by decide +kernel
theorem dX6_findsFitting_104 : decode cX6_findsFitting 104 = .ok (.aload_n 0, 1) := by decide +kernel
theorem dX6_findsFitting_105 : decode cX6_findsFitting 105 = .ok (.getfield 25, 3) := by decide +kernel
theorem dX6_findsFitting_108 : decode cX6_findsFitting 108 = .ok (.iload_n 3, 1) := by decide +kernel
theorem dX6_findsFitting_109 : decode cX6_findsFitting 109 = .ok (.bipush 32, 2) := by decide +kernel
theorem dX6_findsFitting_111 : decode cX6_findsFitting 111 = .ok (.iadd, 1) := by decide +kernel
theorem dX6_findsFitting_112 : decode cX6_findsFitting 112 = .ok (.iload 6, 2) := by decide +kernel
theorem dX6_findsFitting_114 : decode cX6_findsFitting 114 = .ok (.iadd, 1) := by decide +kernel
theorem dX6_findsFitting_115 : decode cX6_findsFitting 115 = .ok (.dup2, 1) := by decide +kernel
theorem dX6_findsFitting_116 : decode cX6_findsFitting 116 = .ok (.iaload, 1) := by decide +kernel
theorem dX6_findsFitting_117 : decode cX6_findsFitting 117 = .ok (.aload_n 0, 1) := by decide +kernel
theorem dX6_findsFitting_118 : decode cX6_findsFitting 118 = .ok (.aload_n 0, 1) := by decide +kernel
theorem dX6_findsFitting_119 : decode cX6_findsFitting 119 = .ok (.getfield 7, 3) := by decide +kernel
theorem dX6_findsFitting_122 : decode cX6_findsFitting 122 = .ok (.iload 5, 2) := by decide +kernel
theorem dX6_findsFitting_124 : decode cX6_findsFitting 124 = .ok (.iconst 1, 1) := by decide +kernel
theorem dX6_findsFitting_125 : decode cX6_findsFitting 125 = .ok (.iadd, 1) := by decide +kernel
theorem dX6_findsFitting_126 : decode cX6_findsFitting 126 = .ok (.iaload, 1) := by decide +kernel
theorem dX6_findsFitting_127 : decode cX6_findsFitting 127 = .ok (.iload 6, 2) := by decide +kernel
theorem dX6_findsFitting_129 : decode cX6_findsFitting 129 = .ok (.invokevirtual 78, 3) := by decide +kernel
theorem dX6_findsFitting_132 : decode cX6_findsFitting 132 = .ok (.ifCond .eq 22, 3) := by decide +kernel
theorem dX6_findsFitting_135 : decode cX6_findsFitting 135 = .ok (.aload_n 0, 1) := by decide +kernel
theorem dX6_findsFitting_136 : decode cX6_findsFitting 136 = .ok (.iload 5, 2) := by decide +kernel
theorem dX6_findsFitting_138 : decode cX6_findsFitting 138 = .ok (.iconst 4, 1) := by decide +kernel
theorem dX6_findsFitting_139 : decode cX6_findsFitting 139 = .ok (.iload 6, 2) := by decide +kernel
theorem dX6_findsFitting_141 : decode cX6_findsFitting 141 = .ok (.invokevirtual 82, 3) := by decide +kernel
theorem dX6_findsFitting_144 : decode cX6_findsFitting 144 = .ok (.ifCond .eq 10, 3) := by decide +kernel
theorem dX6_findsFitting_147 : decode cX6_findsFitting 147 = .ok (.iconst 1, 1) := by decide +kernel
theorem dX6_findsFitting_148 : decode cX6_findsFitting 148 = .ok (.iload 4, 2) := by decide +kernel
theorem dX6_findsFitting_150 : decode cX6_findsFitting 150 = .ok (.ishl, 1) := by decide +kernel
theorem dX6_findsFitting_151 : decode cX6_findsFitting 151 = .ok (.goto 4, 3) := by decide +kernel
theorem dX6_findsFitting_154 : decode cX6_findsFitting 154 = .ok (.iconst 0, 1) := by decide +kernel
theorem dX6_findsFitting_155 : decode cX6_findsFitting 155 = .ok (.ior, 1) := by decide +kernel
theorem dX6_findsFitting_156 : decode cX6_findsFitting 156 = .ok (.iastore, 1) := by decide +kernel
theorem dX6_findsFitting_157 : decode cX6_findsFitting 157 = .ok (.iinc 6 1, 3) := by decide +kernel
theorem dX6_findsFitting_160 : decode cX6_findsFitting 160 = .ok (.goto (-113), 3) := by decide +kernel
theorem dX6_findsFitting_163 : decode cX6_findsFitting 163 = .ok (.iconst 0, 1) := by decide +kernel
theorem dX6_findsFitting_164 : decode cX6_findsFitting 164 = .ok (.istore 6, 2) := by decide +kernel
theorem dX6_findsFitting_166 : decode cX6_findsFitting 166 = .ok (.iload 6, 2) := by decide +kernel
theorem dX6_findsFitting_168 : decode cX6_findsFitting 168 = .ok (.bipush 16, 2) := by decide +kernel
theorem dX6_findsFitting_170 : decode cX6_findsFitting 170 = .ok (.if_icmp .ge 45, 3) := by decide +kernel
theorem dX6_findsFitting_173 : decode cX6_findsFitting 173 = .ok (.aload_n 0, 1) := by decide +kernel
theorem dX6_findsFitting_174 : decode cX6_findsFitting 174 = .ok (.getfield 25, 3) := by decide +kernel
theorem dX6_findsFitting_177 : decode cX6_findsFitting 177 = .ok (.iload_n 3, 1) := by decide +kernel
theorem dX6_findsFitting_178 : decode cX6_findsFitting 178 = .ok (.bipush 64, 2) := by decide +kernel
theorem dX6_findsFitting_180 : decode cX6_findsFitting 180 = .ok (.iadd, 1) := by decide +kernel
theorem dX6_findsFitting_181 : decode cX6_findsFitting 181 = .ok (.iload 6, 2) := by decide +kernel
theorem dX6_findsFitting_183 : decode cX6_findsFitting 183 = .ok (.iadd, 1) := by decide +kernel
theorem dX6_findsFitting_184 : decode cX6_findsFitting 184 = .ok (.dup2, 1) := by decide +kernel
theorem dX6_findsFitting_185 : decode cX6_findsFitting 185 = .ok (.iaload, 1) := by decide +kernel
theorem dX6_findsFitting_186 : decode cX6_findsFitting 186 = .ok (.aload_n 0, 1) := by decide +kernel
theorem dX6_findsFitting_187 : decode cX6_findsFitting 187 = .ok (.iload 5, 2) := by decide +kernel
theorem dX6_findsFitting_189 : decode cX6_findsFitting 189 = .ok (.bipush 6, 2) := by decide +kernel
theorem dX6_findsFitting_191 : decode cX6_findsFitting 191 = .ok (.iload 6, 2) := by decide +kernel
theorem dX6_findsFitting_193 : decode cX6_findsFitting 193 = .ok (.invokevirtual 82, 3) := by decide +kernel
theorem dX6_findsFitting_196 : decode cX6_findsFitting 196 = .ok (.ifCond .eq 10, 3) := by decide +kernel
theorem dX6_findsFitting_199 : decode cX6_findsFitting 199 = .ok (.iconst 1, 1) := by decide +kernel
theorem dX6_findsFitting_200 : decode cX6_findsFitting 200 = .ok (.iload 4, 2) := by decide +kernel
theorem dX6_findsFitting_202 : decode cX6_findsFitting 202 = .ok (.ishl, 1) := by decide +kernel
theorem dX6_findsFitting_203 : decode cX6_findsFitting 203 = .ok (.goto 4, 3) := by decide +kernel
theorem dX6_findsFitting_206 : decode cX6_findsFitting 206 = .ok (.iconst 0, 1) := by decide +kernel
theorem dX6_findsFitting_207 : decode cX6_findsFitting 207 = .ok (.ior, 1) := by decide +kernel
theorem dX6_findsFitting_208 : decode cX6_findsFitting 208 = .ok (.iastore, 1) := by decide +kernel
theorem dX6_findsFitting_209 : decode cX6_findsFitting 209 = .ok (.iinc 6 1, 3) := by decide +kernel
theorem dX6_findsFitting_212 : decode cX6_findsFitting 212 = .ok (.goto (-46), 3) := by decide +kernel
theorem dX6_findsFitting_215 : decode cX6_findsFitting 215 = .ok (.iconst 0, 1) := by decide +kernel
theorem dX6_findsFitting_216 : decode cX6_findsFitting 216 = .ok (.istore 6, 2) := by decide +kernel
theorem dX6_findsFitting_218 : decode cX6_findsFitting 218 = .ok (.iload 6, 2) := by decide +kernel
theorem dX6_findsFitting_220 : decode cX6_findsFitting 220 = .ok (.iconst 2, 1) := by decide +kernel
theorem dX6_findsFitting_221 : decode cX6_findsFitting 221 = .ok (.if_icmp .ge 61, 3) := by decide +kernel
theorem dX6_findsFitting_224 : decode cX6_findsFitting 224 = .ok (.aload_n 0, 1) := by decide +kernel
theorem dX6_findsFitting_225 : decode cX6_findsFitting 225 = .ok (.getfield 25, 3) := by decide +kernel
theorem dX6_findsFitting_228 : decode cX6_findsFitting 228 = .ok (.iload_n 3, 1) := by decide +kernel
theorem dX6_findsFitting_229 : decode cX6_findsFitting 229 = .ok (.bipush 80, 2) := by decide +kernel
theorem dX6_findsFitting_231 : decode cX6_findsFitting 231 = .ok (.iadd, 1) := by decide +kernel
theorem dX6_findsFitting_232 : decode cX6_findsFitting 232 = .ok (.iload 6, 2) := by decide +kernel
theorem dX6_findsFitting_234 : decode cX6_findsFitting 234 = .ok (.iadd, 1) := by decide +kernel
theorem dX6_findsFitting_235 : decode cX6_findsFitting 235 = .ok (.dup2, 1) := by decide +kernel
theorem dX6_findsFitting_236 : decode cX6_findsFitting 236 = .ok (.iaload, 1) := by decide +kernel
theorem dX6_findsFitting_237 : decode cX6_findsFitting 237 = .ok (.aload_n 0, 1) := by decide +kernel
theorem dX6_findsFitting_238 : decode cX6_findsFitting 238 = .ok (.getfield 7, 3) := by decide +kernel
theorem dX6_findsFitting_241 : decode cX6_findsFitting 241 = .ok (.iload 5, 2) := by decide +kernel
theorem dX6_findsFitting_243 : decode cX6_findsFitting 243 = .ok (.bipush 8, 2) := by decide +kernel
theorem dX6_findsFitting_245 : decode cX6_findsFitting 245 = .ok (.iadd, 1) := by decide +kernel
theorem dX6_findsFitting_246 : decode cX6_findsFitting 246 = .ok (.iaload, 1) := by decide +kernel
theorem dX6_findsFitting_247 : decode cX6_findsFitting 247 = .ok (.iconst 2, 1) := by decide +kernel
theorem dX6_findsFitting_248 : decode cX6_findsFitting 248 = .ok (.if_icmp .eq 18, 3) := by decide +kernel
theorem dX6_findsFitting_251 : decode cX6_findsFitting 251 = .ok (.aload_n 0, 1) := by decide +kernel
theorem dX6_findsFitting_252 : decode cX6_findsFitting 252 = .ok (.getfield 7, 3) := by decide +kernel
theorem dX6_findsFitting_255 : decode cX6_findsFitting 255 = .ok (.iload 5, 2) := by decide +kernel
theorem dX6_findsFitting_257 : decode cX6_findsFitting 257 = .ok (.bipush 8, 2) := by decide +kernel
theorem dX6_findsFitting_259 : decode cX6_findsFitting 259 = .ok (.iadd, 1) := by decide +kernel
theorem dX6_findsFitting_260 : decode cX6_findsFitting 260 = .ok (.iaload, 1) := by decide +kernel
theorem dX6_findsFitting_261 : decode cX6_findsFitting 261 = .ok (.iload 6, 2) := by decide +kernel
theorem dX6_findsFitting_263 : decode cX6_findsFitting 263 = .ok (.if_icmp .ne 10, 3) := by decide +kernel
theorem dX6_findsFitting_266 : decode cX6_findsFitting 266 = .ok (.iconst 1, 1) := by decide +kernel
theorem dX6_findsFitting_267 : decode cX6_findsFitting 267 = .ok (.iload 4, 2) := by decide +kernel
theorem dX6_findsFitting_269 : decode cX6_findsFitting 269 = .ok (.ishl, 1) := by decide +kernel
theorem dX6_findsFitting_270 : decode cX6_findsFitting 270 = .ok (.goto 4, 3) := by decide +kernel
theorem dX6_findsFitting_273 : decode cX6_findsFitting 273 = .ok (.iconst 0, 1) := by decide +kernel
theorem dX6_findsFitting_274 : decode cX6_findsFitting 274 = .ok (.ior, 1) := by decide +kernel
theorem dX6_findsFitting_275 : decode cX6_findsFitting 275 = .ok (.iastore, 1) := by decide +kernel
theorem dX6_findsFitting_276 : decode cX6_findsFitting 276 = .ok (.iinc 6 1, 3) := by decide +kernel
theorem dX6_findsFitting_279 : decode cX6_findsFitting 279 = .ok (.goto (-61), 3) := by decide +kernel
theorem dX6_findsFitting_282 : decode cX6_findsFitting 282 = .ok (.iinc 4 1, 3) := by decide +kernel
theorem dX6_findsFitting_285 : decode cX6_findsFitting 285 = .ok (.goto (-256), 3) := by decide +kernel
theorem dX6_findsFitting_288 : decode cX6_findsFitting 288 = .ok (.return_, 1) := by decide +kernel
theorem dX6_findsNow_0 : decode cX6_findsNow 0 = .ok (.aload_n 0, 1) := by decide +kernel
theorem dX6_findsNow_1 : decode cX6_findsNow 1 = .ok (.bipush 33, 2) := by decide +kernel
theorem dX6_findsNow_3 : decode cX6_findsNow 3 = .ok (.aload_n 0, 1) := by decide +kernel
theorem dX6_findsNow_4 : decode cX6_findsNow 4 = .ok (.getfield 7, 3) := by decide +kernel
theorem dX6_findsNow_7 : decode cX6_findsNow 7 = .ok (.bipush 32, 2) := by decide +kernel
theorem dX6_findsNow_9 : decode cX6_findsNow 9 = .ok (.iaload, 1) := by decide +kernel
theorem dX6_findsNow_10 : decode cX6_findsNow 10 = .ok (.iconst 0, 1) := by decide +kernel
theorem dX6_findsNow_11 : decode cX6_findsNow 11 = .ok (.invokevirtual 85, 3) := by decide +kernel
theorem dX6_findsNow_14 : decode cX6_findsNow 14 = .ok (.return_, 1) := by decide +kernel
theorem dX6_sourceOf_0 : decode cX6_sourceOf 0 = .ok (.iload_n 0, 1) := by decide +kernel
theorem dX6_sourceOf_1 : decode cX6_sourceOf 1 = .ok (.sipush 1024, 3) := by decide +kernel
theorem dX6_sourceOf_4 : decode cX6_sourceOf 4 = .ok (.idiv, 1) := by decide +kernel
theorem dX6_sourceOf_5 : decode cX6_sourceOf 5 = .ok (.ireturn, 1) := by decide +kernel
theorem dX6_goalOf_0 : decode cX6_goalOf 0 = .ok (.iload_n 0, 1) := by decide +kernel
theorem dX6_goalOf_1 : decode cX6_goalOf 1 = .ok (.bipush 32, 2) := by decide +kernel
theorem dX6_goalOf_3 : decode cX6_goalOf 3 = .ok (.idiv, 1) := by decide +kernel
theorem dX6_goalOf_4 : decode cX6_goalOf 4 = .ok (.bipush 32, 2) := by decide +kernel
theorem dX6_goalOf_6 : decode cX6_goalOf 6 = .ok (.irem, 1) := by decide +kernel
theorem dX6_goalOf_7 : decode cX6_goalOf 7 = .ok (.ireturn, 1) := by decide +kernel
theorem dX6_portOf_0 : decode cX6_portOf 0 = .ok (.iload_n 0, 1) := by decide +kernel
theorem dX6_portOf_1 : decode cX6_portOf 1 = .ok (.iconst 2, 1) := by decide +kernel
theorem dX6_portOf_2 : decode cX6_portOf 2 = .ok (.idiv, 1) := by decide +kernel
theorem dX6_portOf_3 : decode cX6_portOf 3 = .ok (.bipush 16, 2) := by decide +kernel
theorem dX6_portOf_5 : decode cX6_portOf 5 = .ok (.irem, 1) := by decide +kernel
theorem dX6_portOf_6 : decode cX6_portOf 6 = .ok (.ireturn, 1) := by decide +kernel
theorem dX6_caseOf_0 : decode cX6_caseOf 0 = .ok (.sipush 1024, 3) := by decide +kernel
theorem dX6_caseOf_3 : decode cX6_caseOf 3 = .ok (.iload_n 0, 1) := by decide +kernel
theorem dX6_caseOf_4 : decode cX6_caseOf 4 = .ok (.imul, 1) := by decide +kernel
theorem dX6_caseOf_5 : decode cX6_caseOf 5 = .ok (.bipush 32, 2) := by decide +kernel
theorem dX6_caseOf_7 : decode cX6_caseOf 7 = .ok (.iload_n 1, 1) := by decide +kernel
theorem dX6_caseOf_8 : decode cX6_caseOf 8 = .ok (.imul, 1) := by decide +kernel
theorem dX6_caseOf_9 : decode cX6_caseOf 9 = .ok (.iadd, 1) := by decide +kernel
theorem dX6_caseOf_10 : decode cX6_caseOf 10 = .ok (.iconst 2, 1) := by decide +kernel
theorem dX6_caseOf_11 : decode cX6_caseOf 11 = .ok (.iload_n 2, 1) := by decide +kernel
theorem dX6_caseOf_12 : decode cX6_caseOf 12 = .ok (.imul, 1) := by decide +kernel
theorem dX6_caseOf_13 : decode cX6_caseOf 13 = .ok (.iadd, 1) := by decide +kernel
theorem dX6_caseOf_14 : decode cX6_caseOf 14 = .ok (.iload_n 3, 1) := by decide +kernel
theorem dX6_caseOf_15 : decode cX6_caseOf 15 = .ok (.iadd, 1) := by decide +kernel
theorem dX6_caseOf_16 : decode cX6_caseOf 16 = .ok (.ireturn, 1) := by decide +kernel
theorem dX6_fits_0 : decode cX6_fits 0 = .ok (.aload_n 0, 1) := by decide +kernel
theorem dX6_fits_1 : decode cX6_fits 1 = .ok (.getfield 25, 3) := by decide +kernel
theorem dX6_fits_4 : decode cX6_fits 4 = .ok (.iload_n 1, 1) := by decide +kernel
theorem dX6_fits_5 : decode cX6_fits 5 = .ok (.iload_n 2, 1) := by decide +kernel
theorem dX6_fits_6 : decode cX6_fits 6 = .ok (.invokestatic 89, 3) := by decide +kernel
theorem dX6_fits_9 : decode cX6_fits 9 = .ok (.iadd, 1) := by decide +kernel
theorem dX6_fits_10 : decode cX6_fits 10 = .ok (.iaload, 1) := by decide +kernel
theorem dX6_fits_11 : decode cX6_fits 11 = .ok (.aload_n 0, 1) := by decide +kernel
theorem dX6_fits_12 : decode cX6_fits 12 = .ok (.getfield 25, 3) := by decide +kernel
theorem dX6_fits_15 : decode cX6_fits 15 = .ok (.iload_n 1, 1) := by decide +kernel
theorem dX6_fits_16 : decode cX6_fits 16 = .ok (.bipush 32, 2) := by decide +kernel
theorem dX6_fits_18 : decode cX6_fits 18 = .ok (.iadd, 1) := by decide +kernel
theorem dX6_fits_19 : decode cX6_fits 19 = .ok (.iload_n 2, 1) := by decide +kernel
theorem dX6_fits_20 : decode cX6_fits 20 = .ok (.invokestatic 92, 3) := by decide +kernel
theorem dX6_fits_23 : decode cX6_fits 23 = .ok (.iadd, 1) := by decide +kernel
theorem dX6_fits_24 : decode cX6_fits 24 = .ok (.iaload, 1) := by decide +kernel
theorem dX6_fits_25 : decode cX6_fits 25 = .ok (.iand, 1) := by decide +kernel
theorem dX6_fits_26 : decode cX6_fits 26 = .ok (.aload_n 0, 1) := by decide +kernel
theorem dX6_fits_27 : decode cX6_fits 27 = .ok (.getfield 25, 3) := by decide +kernel
theorem dX6_fits_30 : decode cX6_fits 30 = .ok (.iload_n 1, 1) := by decide +kernel
theorem dX6_fits_31 : decode cX6_fits 31 = .ok (.bipush 64, 2) := by decide +kernel
theorem dX6_fits_33 : decode cX6_fits 33 = .ok (.iadd, 1) := by decide +kernel
theorem dX6_fits_34 : decode cX6_fits 34 = .ok (.iload_n 2, 1) := by decide +kernel
theorem dX6_fits_35 : decode cX6_fits 35 = .ok (.invokestatic 95, 3) := by decide +kernel
theorem dX6_fits_38 : decode cX6_fits 38 = .ok (.iadd, 1) := by decide +kernel
theorem dX6_fits_39 : decode cX6_fits 39 = .ok (.iaload, 1) := by decide +kernel
theorem dX6_fits_40 : decode cX6_fits 40 = .ok (.iand, 1) := by decide +kernel
theorem dX6_fits_41 : decode cX6_fits 41 = .ok (.aload_n 0, 1) := by decide +kernel
theorem dX6_fits_42 : decode cX6_fits 42 = .ok (.getfield 25, 3) := by decide +kernel
theorem dX6_fits_45 : decode cX6_fits 45 = .ok (.iload_n 1, 1) := by decide +kernel
theorem dX6_fits_46 : decode cX6_fits 46 = .ok (.bipush 80, 2) := by decide +kernel
theorem dX6_fits_48 : decode cX6_fits 48 = .ok (.iadd, 1) := by decide +kernel
theorem dX6_fits_49 : decode cX6_fits 49 = .ok (.iload_n 2, 1) := by decide +kernel
theorem dX6_fits_50 : decode cX6_fits 50 = .ok (.iconst 2, 1) := by decide +kernel
theorem dX6_fits_51 : decode cX6_fits 51 = .ok (.irem, 1) := by decide +kernel
theorem dX6_fits_52 : decode cX6_fits 52 = .ok (.iadd, 1) := by decide +kernel
theorem dX6_fits_53 : decode cX6_fits 53 = .ok (.iaload, 1) := by decide +kernel
theorem dX6_fits_54 : decode cX6_fits 54 = .ok (.iand, 1) := by decide +kernel
theorem dX6_fits_55 : decode cX6_fits 55 = .ok (.ireturn, 1) := by decide +kernel
theorem dX6_firstOf_0 : decode cX6_firstOf 0 = .ok (.iconst 0, 1) := by decide +kernel
theorem dX6_firstOf_1 : decode cX6_firstOf 1 = .ok (.istore_n 1, 1) := by decide +kernel
theorem dX6_firstOf_2 : decode cX6_firstOf 2 = .ok (.iload_n 1, 1) := by decide +kernel
theorem dX6_firstOf_3 : decode cX6_firstOf 3 = .ok (.bipush 12, 2) := by decide +kernel
theorem dX6_firstOf_5 : decode cX6_firstOf 5 = .ok (.if_icmp .ge 17, 3) := by decide +kernel
theorem dX6_firstOf_8 : decode cX6_firstOf 8 = .ok (.iload_n 0, 1) := by decide +kernel
theorem dX6_firstOf_9 : decode cX6_firstOf 9 = .ok (.iload_n 1, 1) := by decide +kernel
theorem dX6_firstOf_10 : decode cX6_firstOf 10 = .ok (.ishr, 1) := by decide +kernel
theorem dX6_firstOf_11 : decode cX6_firstOf 11 = .ok (.iconst 1, 1) := by decide +kernel
theorem dX6_firstOf_12 : decode cX6_firstOf 12 = .ok (.iand, 1) := by decide +kernel
theorem dX6_firstOf_13 : decode cX6_firstOf 13 = .ok (.ifCond .ne 9, 3) := by decide +kernel
theorem dX6_firstOf_16 : decode cX6_firstOf 16 = .ok (.iinc 1 1, 3) := by decide +kernel
theorem dX6_firstOf_19 : decode cX6_firstOf 19 = .ok (.goto (-17), 3) := by decide +kernel
theorem dX6_firstOf_22 : decode cX6_firstOf 22 = .ok (.iload_n 1, 1) := by decide +kernel
theorem dX6_firstOf_23 : decode cX6_firstOf 23 = .ok (.bipush 12, 2) := by decide +kernel
theorem dX6_firstOf_25 : decode cX6_firstOf 25 = .ok (.if_icmp .ge 7, 3) := by decide +kernel
theorem dX6_firstOf_28 : decode cX6_firstOf 28 = .ok (.iload_n 1, 1) := by decide +kernel
theorem dX6_firstOf_29 : decode cX6_firstOf 29 = .ok (.goto 4, 3) := by decide +kernel
theorem dX6_firstOf_32 : decode cX6_firstOf 32 = .ok (.iconst (-1), 1) := by decide +kernel
theorem dX6_firstOf_33 : decode cX6_firstOf 33 = .ok (.ireturn, 1) := by decide +kernel
theorem dX6_actionBy_0 : decode cX6_actionBy 0 = .ok (.iload_n 2, 1) := by decide +kernel
theorem dX6_actionBy_1 : decode cX6_actionBy 1 = .ok (.invokestatic 98, 3) := by decide +kernel
theorem dX6_actionBy_4 : decode cX6_actionBy 4 = .ok (.istore_n 3, 1) := by decide +kernel
theorem dX6_actionBy_5 : decode cX6_actionBy 5 = .ok (.iload_n 3, 1) := by decide +kernel
theorem dX6_actionBy_6 : decode cX6_actionBy 6 = .ok (.ifCond .ge 7, 3) := by decide +kernel
theorem dX6_actionBy_9 : decode cX6_actionBy 9 = .ok (.iconst 0, 1) := by decide +kernel
theorem dX6_actionBy_10 : decode cX6_actionBy 10 = .ok (.goto 17, 3) := by decide +kernel
theorem dX6_actionBy_13 : decode cX6_actionBy 13 = .ok (.aload_n 0, 1) := by decide +kernel
theorem dX6_actionBy_14 : decode cX6_actionBy 14 = .ok (.getfield 7, 3) := by decide +kernel
theorem dX6_actionBy_17 : decode cX6_actionBy 17 = .ok (.iload_n 1, 1) := by decide +kernel
theorem dX6_actionBy_18 : decode cX6_actionBy 18 = .ok (.bipush 11, 2) := by decide +kernel
theorem dX6_actionBy_20 : decode cX6_actionBy 20 = .ok (.iload_n 3, 1) := by decide +kernel
theorem dX6_actionBy_21 : decode cX6_actionBy 21 = .ok (.imul, 1) := by decide +kernel
theorem dX6_actionBy_22 : decode cX6_actionBy 22 = .ok (.iadd, 1) := by decide +kernel
theorem dX6_actionBy_23 : decode cX6_actionBy 23 = .ok (.bipush 9, 2) := by decide +kernel
theorem dX6_actionBy_25 : decode cX6_actionBy 25 = .ok (.iadd, 1) := by decide +kernel
theorem dX6_actionBy_26 : decode cX6_actionBy 26 = .ok (.iaload, 1) := by decide +kernel
theorem dX6_actionBy_27 : decode cX6_actionBy 27 = .ok (.ireturn, 1) := by decide +kernel
theorem dX6_decides_0 : decode cX6_decides 0 = .ok (.iload_n 1, 1) := by decide +kernel
theorem dX6_decides_1 : decode cX6_decides 1 = .ok (.iload_n 2, 1) := by decide +kernel
theorem dX6_decides_2 : decode cX6_decides 2 = .ok (.iload_n 3, 1) := by decide +kernel
theorem dX6_decides_3 : decode cX6_decides 3 = .ok (.iload 4, 2) := by decide +kernel
theorem dX6_decides_5 : decode cX6_decides 5 = .ok (.invokestatic 101, 3) := by decide +kernel
theorem dX6_decides_8 : decode cX6_decides 8 = .ok (.ifCond .ne 8, 3) := by decide +kernel
theorem dX6_decides_11 : decode cX6_decides 11 = .ok (.aload_n 0, 1) := by decide +kernel
theorem dX6_decides_12 : decode cX6_decides 12 = .ok (.invokevirtual 47, 3) := by decide +kernel
theorem dX6_decides_15 : decode cX6_decides 15 = .ok (.ireturn, 1) := by decide +kernel
theorem dX6_decides_16 : decode cX6_decides 16 = .ok (.aload_n 0, 1) := by decide +kernel
theorem dX6_decides_17 : decode cX6_decides 17 = .ok (.invokevirtual 105, 3) := by decide +kernel
theorem dX6_decides_20 : decode cX6_decides 20 = .ok (.aload_n 0, 1) := by decide +kernel
theorem dX6_decides_21 : decode cX6_decides 21 = .ok (.iconst 0, 1) := by decide +kernel
theorem dX6_decides_22 : decode cX6_decides 22 = .ok (.iload_n 1, 1) := by decide +kernel
theorem dX6_decides_23 : decode cX6_decides 23 = .ok (.iload_n 2, 1) := by decide +kernel
theorem dX6_decides_24 : decode cX6_decides 24 = .ok (.iload_n 3, 1) := by decide +kernel
theorem dX6_decides_25 : decode cX6_decides 25 = .ok (.iload 4, 2) := by decide +kernel
theorem dX6_decides_27 : decode cX6_decides 27 = .ok (.invokestatic 108, 3) := by decide +kernel
theorem dX6_decides_30 : decode cX6_decides 30 = .ok (.invokevirtual 112, 3) := by decide +kernel
theorem dX6_decides_33 : decode cX6_decides 33 = .ok (.invokestatic 98, 3) := by decide +kernel
theorem dX6_decides_36 : decode cX6_decides 36 = .ok (.ireturn, 1) := by decide +kernel
theorem dX6_countCases_0 : decode cX6_countCases 0 = .ok (.aload_n 0, 1) := by decide +kernel
theorem dX6_countCases_1 : decode cX6_countCases 1 = .ok (.invokevirtual 105, 3) := by decide +kernel
theorem dX6_countCases_4 : decode cX6_countCases 4 = .ok (.iconst 0, 1) := by decide +kernel
theorem dX6_countCases_5 : decode cX6_countCases 5 = .ok (.istore_n 3, 1) := by decide +kernel
theorem dX6_countCases_6 : decode cX6_countCases 6 = .ok (.iconst 0, 1) := by decide +kernel
theorem dX6_countCases_7 : decode cX6_countCases 7 = .ok (.istore 4, 2) := by decide +kernel
theorem dX6_countCases_9 : decode cX6_countCases 9 = .ok (.iload 4, 2) := by decide +kernel
theorem dX6_countCases_11 : decode cX6_countCases 11 = .ok (.ldc 116, 2) := by decide +kernel
theorem dX6_countCases_13 : decode cX6_countCases 13 = .ok (.if_icmp .ge 61, 3) := by decide +kernel
theorem dX6_countCases_16 : decode cX6_countCases 16 = .ok (.aload_n 0, 1) := by decide +kernel
theorem dX6_countCases_17 : decode cX6_countCases 17 = .ok (.iconst 0, 1) := by decide +kernel
theorem dX6_countCases_18 : decode cX6_countCases 18 = .ok (.iload 4, 2) := by decide +kernel
theorem dX6_countCases_20 : decode cX6_countCases 20 = .ok (.invokevirtual 112, 3) := by decide +kernel
theorem dX6_countCases_23 : decode cX6_countCases 23 = .ok (.istore 5, 2) := by decide +kernel
theorem dX6_countCases_25 : decode cX6_countCases 25 = .ok (.iload 5, 2) := by decide +kernel
theorem dX6_countCases_27 : decode cX6_countCases 27 = .ok (.iload_n 1, 1) := by decide +kernel
theorem dX6_countCases_28 : decode cX6_countCases 28 = .ok (.ishr, 1) := by decide +kernel
theorem dX6_countCases_29 : decode cX6_countCases 29 = .ok (.iconst 1, 1) := by decide +kernel
theorem dX6_countCases_30 : decode cX6_countCases 30 = .ok (.iand, 1) := by decide +kernel
theorem dX6_countCases_31 : decode cX6_countCases 31 = .ok (.iconst 1, 1) := by decide +kernel
theorem dX6_countCases_32 : decode cX6_countCases 32 = .ok (.if_icmp .ne 7, 3) := by decide +kernel
theorem dX6_countCases_35 : decode cX6_countCases 35 = .ok (.iconst 1, 1) := by decide +kernel
theorem dX6_countCases_36 : decode cX6_countCases 36 = .ok (.goto 4, 3) := by decide +kernel
theorem dX6_countCases_39 : decode cX6_countCases 39 = .ok (.iconst 0, 1) := by decide +kernel
theorem dX6_countCases_40 : decode cX6_countCases 40 = .ok (.istore 6, 2) := by decide +kernel
theorem dX6_countCases_42 : decode cX6_countCases 42 = .ok (.iload_n 3, 1) := by decide +kernel
theorem dX6_countCases_43 : decode cX6_countCases 43 = .ok (.iload 6, 2) := by decide +kernel
theorem dX6_countCases_45 : decode cX6_countCases 45 = .ok (.ifCond .eq 20, 3) := by decide +kernel
theorem dX6_countCases_48 : decode cX6_countCases 48 = .ok (.iload_n 2, 1) := by decide +kernel
theorem dX6_countCases_49 : decode cX6_countCases 49 = .ok (.ifCond .eq 12, 3) := by decide +kernel
theorem dX6_countCases_52 : decode cX6_countCases 52 = .ok (.iload 5, 2) := by decide +kernel
theorem dX6_countCases_54 : decode cX6_countCases 54 = .ok (.invokestatic 98, 3) := by decide +kernel
theorem dX6_countCases_57 : decode cX6_countCases 57 = .ok (.iload_n 1, 1) := by decide +kernel
theorem dX6_countCases_58 : decode cX6_countCases 58 = .ok (.if_icmp .ne 7, 3) := by decide +kernel
theorem dX6_countCases_61 : decode cX6_countCases 61 = .ok (.iconst 1, 1) := by decide +kernel
theorem dX6_countCases_62 : decode cX6_countCases 62 = .ok (.goto 4, 3) := by decide +kernel
theorem dX6_countCases_65 : decode cX6_countCases 65 = .ok (.iconst 0, 1) := by decide +kernel
theorem dX6_countCases_66 : decode cX6_countCases 66 = .ok (.iadd, 1) := by decide +kernel
theorem dX6_countCases_67 : decode cX6_countCases 67 = .ok (.istore_n 3, 1) := by decide +kernel
theorem dX6_countCases_68 : decode cX6_countCases 68 = .ok (.iinc 4 1, 3) := by decide +kernel
theorem dX6_countCases_71 : decode cX6_countCases 71 = .ok (.goto (-62), 3) := by decide +kernel
theorem dX6_countCases_74 : decode cX6_countCases 74 = .ok (.iload_n 3, 1) := by decide +kernel
theorem dX6_countCases_75 : decode cX6_countCases 75 = .ok (.ireturn, 1) := by decide +kernel
theorem dX6_cases_0 : decode cX6_cases 0 = .ok (.aload_n 0, 1) := by decide +kernel
theorem dX6_cases_1 : decode cX6_cases 1 = .ok (.iload_n 1, 1) := by decide +kernel
theorem dX6_cases_2 : decode cX6_cases 2 = .ok (.invokevirtual 64, 3) := by decide +kernel
theorem dX6_cases_5 : decode cX6_cases 5 = .ok (.ifCond .eq 29, 3) := by decide +kernel
theorem dX6_cases_8 : decode cX6_cases 8 = .ok (.iload_n 2, 1) := by decide +kernel
theorem dX6_cases_9 : decode cX6_cases 9 = .ok (.iconst 0, 1) := by decide +kernel
theorem dX6_cases_10 : decode cX6_cases 10 = .ok (.iconst 1, 1) := by decide +kernel
theorem dX6_cases_11 : decode cX6_cases 11 = .ok (.invokestatic 39, 3) := by decide +kernel
theorem dX6_cases_14 : decode cX6_cases 14 = .ok (.ifCond .eq 20, 3) := by decide +kernel
theorem dX6_cases_17 : decode cX6_cases 17 = .ok (.aload_n 0, 1) := by decide +kernel
theorem dX6_cases_18 : decode cX6_cases 18 = .ok (.iload_n 1, 1) := by decide +kernel
theorem dX6_cases_19 : decode cX6_cases 19 = .ok (.iload_n 2, 1) := by decide +kernel
theorem dX6_cases_20 : decode cX6_cases 20 = .ok (.ifCond .ne 7, 3) := by decide +kernel
theorem dX6_cases_23 : decode cX6_cases 23 = .ok (.iconst 1, 1) := by decide +kernel
theorem dX6_cases_24 : decode cX6_cases 24 = .ok (.goto 4, 3) := by decide +kernel
theorem dX6_cases_27 : decode cX6_cases 27 = .ok (.iconst 0, 1) := by decide +kernel
theorem dX6_cases_28 : decode cX6_cases 28 = .ok (.invokevirtual 117, 3) := by decide +kernel
theorem dX6_cases_31 : decode cX6_cases 31 = .ok (.goto 7, 3) := by decide +kernel
theorem dX6_cases_34 : decode cX6_cases 34 = .ok (.aload_n 0, 1) := by decide +kernel
theorem dX6_cases_35 : decode cX6_cases 35 = .ok (.invokevirtual 47, 3) := by decide +kernel
theorem dX6_cases_38 : decode cX6_cases 38 = .ok (.ireturn, 1) := by decide +kernel
theorem dX6_isIdle_0 : decode cX6_isIdle 0 = .ok (.aload_n 0, 1) := by decide +kernel
theorem dX6_isIdle_1 : decode cX6_isIdle 1 = .ok (.invokevirtual 105, 3) := by decide +kernel
theorem dX6_isIdle_4 : decode cX6_isIdle 4 = .ok (.iconst 1, 1) := by decide +kernel
theorem dX6_isIdle_5 : decode cX6_isIdle 5 = .ok (.istore_n 2, 1) := by decide +kernel
theorem dX6_isIdle_6 : decode cX6_isIdle 6 = .ok (.iconst 0, 1) := by decide +kernel
theorem dX6_isIdle_7 : decode cX6_isIdle 7 = .ok (.istore_n 3, 1) := by decide +kernel
theorem dX6_isIdle_8 : decode cX6_isIdle 8 = .ok (.iload_n 3, 1) := by decide +kernel
theorem dX6_isIdle_9 : decode cX6_isIdle 9 = .ok (.ldc 116, 2) := by decide +kernel
theorem dX6_isIdle_11 : decode cX6_isIdle 11 = .ok (.if_icmp .ge 61, 3) := by decide +kernel
theorem dX6_isIdle_14 : decode cX6_isIdle 14 = .ok (.iload_n 2, 1) := by decide +kernel
theorem dX6_isIdle_15 : decode cX6_isIdle 15 = .ok (.ifCond .eq 57, 3) := by decide +kernel
theorem dX6_isIdle_18 : decode cX6_isIdle 18 = .ok (.aload_n 0, 1) := by decide +kernel
theorem dX6_isIdle_19 : decode cX6_isIdle 19 = .ok (.iconst 0, 1) := by decide +kernel
theorem dX6_isIdle_20 : decode cX6_isIdle 20 = .ok (.iload_n 3, 1) := by decide +kernel
theorem dX6_isIdle_21 : decode cX6_isIdle 21 = .ok (.invokevirtual 112, 3) := by decide +kernel
theorem dX6_isIdle_24 : decode cX6_isIdle 24 = .ok (.istore 4, 2) := by decide +kernel
theorem dX6_isIdle_26 : decode cX6_isIdle 26 = .ok (.iload 4, 2) := by decide +kernel
theorem dX6_isIdle_28 : decode cX6_isIdle 28 = .ok (.invokestatic 98, 3) := by decide +kernel
theorem dX6_isIdle_31 : decode cX6_isIdle 31 = .ok (.iload_n 1, 1) := by decide +kernel
theorem dX6_isIdle_32 : decode cX6_isIdle 32 = .ok (.if_icmp .ne 28, 3) := by decide +kernel
theorem dX6_isIdle_35 : decode cX6_isIdle 35 = .ok (.aload_n 0, 1) := by decide +kernel
theorem dX6_isIdle_36 : decode cX6_isIdle 36 = .ok (.bipush 33, 2) := by decide +kernel
theorem dX6_isIdle_38 : decode cX6_isIdle 38 = .ok (.iload 4, 2) := by decide +kernel
theorem dX6_isIdle_40 : decode cX6_isIdle 40 = .ok (.invokevirtual 121, 3) := by decide +kernel
theorem dX6_isIdle_43 : decode cX6_isIdle 43 = .ok (.aload_n 0, 1) := by decide +kernel
theorem dX6_isIdle_44 : decode cX6_isIdle 44 = .ok (.bipush 33, 2) := by decide +kernel
theorem dX6_isIdle_46 : decode cX6_isIdle 46 = .ok (.iload 4, 2) := by decide +kernel
theorem dX6_isIdle_48 : decode cX6_isIdle 48 = .ok (.iconst 1, 1) := by decide +kernel
theorem dX6_isIdle_49 : decode cX6_isIdle 49 = .ok (.iload_n 1, 1) := by decide +kernel
theorem dX6_isIdle_50 : decode cX6_isIdle 50 = .ok (.ishl, 1) := by decide +kernel
theorem dX6_isIdle_51 : decode cX6_isIdle 51 = .ok (.iconst (-1), 1) := by decide +kernel
theorem dX6_isIdle_52 : decode cX6_isIdle 52 = .ok (.ixor, 1) := by decide +kernel
theorem dX6_isIdle_53 : decode cX6_isIdle 53 = .ok (.iand, 1) := by decide +kernel
theorem dX6_isIdle_54 : decode cX6_isIdle 54 = .ok (.invokevirtual 121, 3) := by decide +kernel
theorem dX6_isIdle_57 : decode cX6_isIdle 57 = .ok (.if_icmp .ne 7, 3) := by decide +kernel
theorem dX6_isIdle_60 : decode cX6_isIdle 60 = .ok (.iconst 1, 1) := by decide +kernel
theorem dX6_isIdle_61 : decode cX6_isIdle 61 = .ok (.goto 4, 3) := by decide +kernel
theorem dX6_isIdle_64 : decode cX6_isIdle 64 = .ok (.iconst 0, 1) := by decide +kernel
theorem dX6_isIdle_65 : decode cX6_isIdle 65 = .ok (.istore_n 2, 1) := by decide +kernel
theorem dX6_isIdle_66 : decode cX6_isIdle 66 = .ok (.iinc 3 1, 3) := by decide +kernel
theorem dX6_isIdle_69 : decode cX6_isIdle 69 = .ok (.goto (-61), 3) := by decide +kernel
theorem dX6_isIdle_72 : decode cX6_isIdle 72 = .ok (.iload_n 2, 1) := by decide +kernel
theorem dX6_isIdle_73 : decode cX6_isIdle 73 = .ok (.ireturn, 1) := by decide +kernel
theorem dX6_idle_0 : decode cX6_idle 0 = .ok (.aload_n 0, 1) := by decide +kernel
theorem dX6_idle_1 : decode cX6_idle 1 = .ok (.iload_n 1, 1) := by decide +kernel
theorem dX6_idle_2 : decode cX6_idle 2 = .ok (.invokevirtual 64, 3) := by decide +kernel
theorem dX6_idle_5 : decode cX6_idle 5 = .ok (.ifCond .eq 12, 3) := by decide +kernel
theorem dX6_idle_8 : decode cX6_idle 8 = .ok (.iload_n 2, 1) := by decide +kernel
theorem dX6_idle_9 : decode cX6_idle 9 = .ok (.iconst 0, 1) := by decide +kernel
theorem dX6_idle_10 : decode cX6_idle 10 = .ok (.iconst 1, 1) := by decide +kernel
theorem dX6_idle_11 : decode cX6_idle 11 = .ok (.invokestatic 39, 3) := by decide +kernel
theorem dX6_idle_14 : decode cX6_idle 14 = .ok (.ifCond .ne 8, 3) := by decide +kernel
theorem dX6_idle_17 : decode cX6_idle 17 = .ok (.aload_n 0, 1) := by decide +kernel
theorem dX6_idle_18 : decode cX6_idle 18 = .ok (.invokevirtual 47, 3) := by decide +kernel
theorem dX6_idle_21 : decode cX6_idle 21 = .ok (.ireturn, 1) := by decide +kernel
theorem dX6_idle_22 : decode cX6_idle 22 = .ok (.iload_n 2, 1) := by decide +kernel
theorem dX6_idle_23 : decode cX6_idle 23 = .ok (.ifCond .ne 20, 3) := by decide +kernel
theorem dX6_idle_26 : decode cX6_idle 26 = .ok (.aload_n 0, 1) := by decide +kernel
theorem dX6_idle_27 : decode cX6_idle 27 = .ok (.iload_n 1, 1) := by decide +kernel
theorem dX6_idle_28 : decode cX6_idle 28 = .ok (.iconst 1, 1) := by decide +kernel
theorem dX6_idle_29 : decode cX6_idle 29 = .ok (.invokevirtual 117, 3) := by decide +kernel
theorem dX6_idle_32 : decode cX6_idle 32 = .ok (.ifCond .ne 7, 3) := by decide +kernel
theorem dX6_idle_35 : decode cX6_idle 35 = .ok (.iconst 1, 1) := by decide +kernel
theorem dX6_idle_36 : decode cX6_idle 36 = .ok (.goto 12, 3) := by decide +kernel
theorem dX6_idle_39 : decode cX6_idle 39 = .ok (.iconst 0, 1) := by decide +kernel
theorem dX6_idle_40 : decode cX6_idle 40 = .ok (.goto 8, 3) := by decide +kernel
theorem dX6_idle_43 : decode cX6_idle 43 = .ok (.aload_n 0, 1) := by decide +kernel
theorem dX6_idle_44 : decode cX6_idle 44 = .ok (.iload_n 1, 1) := by decide +kernel
theorem dX6_idle_45 : decode cX6_idle 45 = .ok (.invokevirtual 124, 3) := by decide +kernel
theorem dX6_idle_48 : decode cX6_idle 48 = .ok (.istore_n 3, 1) := by decide +kernel
theorem dX6_idle_49 : decode cX6_idle 49 = .ok (.iload_n 3, 1) := by decide +kernel
theorem dX6_idle_50 : decode cX6_idle 50 = .ok (.ifCond .eq 7, 3) := by decide +kernel
theorem dX6_idle_53 : decode cX6_idle 53 = .ok (.iconst 1, 1) := by decide +kernel
theorem dX6_idle_54 : decode cX6_idle 54 = .ok (.goto 4, 3) := by decide +kernel
theorem dX6_idle_57 : decode cX6_idle 57 = .ok (.iconst 0, 1) := by decide +kernel
theorem dX6_idle_58 : decode cX6_idle 58 = .ok (.ireturn, 1) := by decide +kernel
theorem dX6_contradicts_0 : decode cX6_contradicts 0 = .ok (.aload_n 0, 1) := by decide +kernel
theorem dX6_contradicts_1 : decode cX6_contradicts 1 = .ok (.iload_n 1, 1) := by decide +kernel
theorem dX6_contradicts_2 : decode cX6_contradicts 2 = .ok (.invokevirtual 64, 3) := by decide +kernel
theorem dX6_contradicts_5 : decode cX6_contradicts 5 = .ok (.ifCond .eq 16, 3) := by decide +kernel
theorem dX6_contradicts_8 : decode cX6_contradicts 8 = .ok (.aload_n 0, 1) := by decide +kernel
theorem dX6_contradicts_9 : decode cX6_contradicts 9 = .ok (.iload_n 2, 1) := by decide +kernel
theorem dX6_contradicts_10 : decode cX6_contradicts 10 = .ok (.invokevirtual 64, 3) := by decide +kernel
theorem dX6_contradicts_13 : decode cX6_contradicts 13 = .ok (.ifCond .eq 8, 3) := by decide +kernel
theorem dX6_contradicts_16 : decode cX6_contradicts 16 = .ok (.iload_n 1, 1) := by decide +kernel
theorem dX6_contradicts_17 : decode cX6_contradicts 17 = .ok (.iload_n 2, 1) := by decide +kernel
theorem dX6_contradicts_18 : decode cX6_contradicts 18 = .ok (.if_icmp .ne 8, 3) := by decide +kernel
theorem dX6_contradicts_21 : decode cX6_contradicts 21 = .ok (.aload_n 0, 1) := by decide +kernel
theorem dX6_contradicts_22 : decode cX6_contradicts 22 = .ok (.invokevirtual 47, 3) := by decide +kernel
theorem dX6_contradicts_25 : decode cX6_contradicts 25 = .ok (.ireturn, 1) := by decide +kernel
theorem dX6_contradicts_26 : decode cX6_contradicts 26 = .ok (.aload_n 0, 1) := by decide +kernel
theorem dX6_contradicts_27 : decode cX6_contradicts 27 = .ok (.getfield 7, 3) := by decide +kernel
theorem dX6_contradicts_30 : decode cX6_contradicts 30 = .ok (.bipush 33, 2) := by decide +kernel
theorem dX6_contradicts_32 : decode cX6_contradicts 32 = .ok (.bipush 11, 2) := by decide +kernel
theorem dX6_contradicts_34 : decode cX6_contradicts 34 = .ok (.iload_n 1, 1) := by decide +kernel
theorem dX6_contradicts_35 : decode cX6_contradicts 35 = .ok (.imul, 1) := by decide +kernel
theorem dX6_contradicts_36 : decode cX6_contradicts 36 = .ok (.iadd, 1) := by decide +kernel
theorem dX6_contradicts_37 : decode cX6_contradicts 37 = .ok (.bipush 9, 2) := by decide +kernel
theorem dX6_contradicts_39 : decode cX6_contradicts 39 = .ok (.iadd, 1) := by decide +kernel
theorem dX6_contradicts_40 : decode cX6_contradicts 40 = .ok (.iaload, 1) := by decide +kernel
theorem dX6_contradicts_41 : decode cX6_contradicts 41 = .ok (.aload_n 0, 1) := by decide +kernel
theorem dX6_contradicts_42 : decode cX6_contradicts 42 = .ok (.getfield 7, 3) := by decide +kernel
theorem dX6_contradicts_45 : decode cX6_contradicts 45 = .ok (.bipush 33, 2) := by decide +kernel
theorem dX6_contradicts_47 : decode cX6_contradicts 47 = .ok (.bipush 11, 2) := by decide +kernel
theorem dX6_contradicts_49 : decode cX6_contradicts 49 = .ok (.iload_n 2, 1) := by decide +kernel
theorem dX6_contradicts_50 : decode cX6_contradicts 50 = .ok (.imul, 1) := by decide +kernel
theorem dX6_contradicts_51 : decode cX6_contradicts 51 = .ok (.iadd, 1) := by decide +kernel
theorem dX6_contradicts_52 : decode cX6_contradicts 52 = .ok (.bipush 9, 2) := by decide +kernel
theorem dX6_contradicts_54 : decode cX6_contradicts 54 = .ok (.iadd, 1) := by decide +kernel
theorem dX6_contradicts_55 : decode cX6_contradicts 55 = .ok (.iaload, 1) := by decide +kernel
theorem dX6_contradicts_56 : decode cX6_contradicts 56 = .ok (.if_icmp .ne 5, 3) := by decide +kernel
theorem dX6_contradicts_59 : decode cX6_contradicts 59 = .ok (.iconst 0, 1) := by decide +kernel
theorem dX6_contradicts_60 : decode cX6_contradicts 60 = .ok (.ireturn, 1) := by decide +kernel
theorem dX6_contradicts_61 : decode cX6_contradicts 61 = .ok (.aload_n 0, 1) := by decide +kernel
theorem dX6_contradicts_62 : decode cX6_contradicts 62 = .ok (.invokevirtual 105, 3) := by decide +kernel
theorem dX6_contradicts_65 : decode cX6_contradicts 65 = .ok (.iconst 1, 1) := by decide +kernel
theorem dX6_contradicts_66 : decode cX6_contradicts 66 = .ok (.iload_n 1, 1) := by decide +kernel
theorem dX6_contradicts_67 : decode cX6_contradicts 67 = .ok (.ishl, 1) := by decide +kernel
theorem dX6_contradicts_68 : decode cX6_contradicts 68 = .ok (.iconst 1, 1) := by decide +kernel
theorem dX6_contradicts_69 : decode cX6_contradicts 69 = .ok (.iload_n 2, 1) := by decide +kernel
theorem dX6_contradicts_70 : decode cX6_contradicts 70 = .ok (.ishl, 1) := by decide +kernel
theorem dX6_contradicts_71 : decode cX6_contradicts 71 = .ok (.ior, 1) := by decide +kernel
theorem dX6_contradicts_72 : decode cX6_contradicts 72 = .ok (.istore_n 3, 1) := by decide +kernel
theorem dX6_contradicts_73 : decode cX6_contradicts 73 = .ok (.iconst 0, 1) := by decide +kernel
theorem dX6_contradicts_74 : decode cX6_contradicts 74 = .ok (.istore 4, 2) := by decide +kernel
theorem dX6_contradicts_76 : decode cX6_contradicts 76 = .ok (.iconst 0, 1) := by decide +kernel
theorem dX6_contradicts_77 : decode cX6_contradicts 77 = .ok (.istore 5, 2) := by decide +kernel
theorem dX6_contradicts_79 : decode cX6_contradicts 79 = .ok (.iload 5, 2) := by decide +kernel
theorem dX6_contradicts_81 : decode cX6_contradicts 81 = .ok (.ldc 116, 2) := by decide +kernel
theorem dX6_contradicts_83 : decode cX6_contradicts 83 = .ok (.if_icmp .ge 32, 3) := by decide +kernel
theorem dX6_contradicts_86 : decode cX6_contradicts 86 = .ok (.iload 4, 2) := by decide +kernel
theorem dX6_contradicts_88 : decode cX6_contradicts 88 = .ok (.aload_n 0, 1) := by decide +kernel
theorem dX6_contradicts_89 : decode cX6_contradicts 89 = .ok (.iconst 0, 1) := by decide +kernel
theorem dX6_contradicts_90 : decode cX6_contradicts 90 = .ok (.iload 5, 2) := by decide +kernel
theorem dX6_contradicts_92 : decode cX6_contradicts 92 = .ok (.invokevirtual 112, 3) := by decide +kernel
theorem dX6_contradicts_95 : decode cX6_contradicts 95 = .ok (.iload_n 3, 1) := by decide +kernel
theorem dX6_contradicts_96 : decode cX6_contradicts 96 = .ok (.iand, 1) := by decide +kernel
theorem dX6_contradicts_97 : decode cX6_contradicts 97 = .ok (.iload_n 3, 1) := by decide +kernel
theorem dX6_contradicts_98 : decode cX6_contradicts 98 = .ok (.if_icmp .ne 7, 3) := by decide +kernel
theorem dX6_contradicts_101 : decode cX6_contradicts 101 = .ok (.iconst 1, 1) := by decide +kernel
theorem dX6_contradicts_102 : decode cX6_contradicts 102 = .ok (.goto 4, 3) := by decide +kernel
theorem dX6_contradicts_105 : decode cX6_contradicts 105 = .ok (.iconst 0, 1) := by decide +kernel
theorem dX6_contradicts_106 : decode cX6_contradicts 106 = .ok (.iadd, 1) := by decide +kernel
theorem dX6_contradicts_107 : decode cX6_contradicts 107 = .ok (.istore 4, 2) := by decide +kernel
theorem dX6_contradicts_109 : decode cX6_contradicts 109 = .ok (.iinc 5 1, 3) := by decide +kernel
theorem dX6_contradicts_112 : decode cX6_contradicts 112 = .ok (.goto (-33), 3) := by decide +kernel
theorem dX6_contradicts_115 : decode cX6_contradicts 115 = .ok (.iload 4, 2) := by decide +kernel
theorem dX6_contradicts_117 : decode cX6_contradicts 117 = .ok (.ireturn, 1) := by decide +kernel
theorem dX6_isOtherwise_0 : decode cX6_isOtherwise 0 = .ok (.aload_n 0, 1) := by decide +kernel
theorem dX6_isOtherwise_1 : decode cX6_isOtherwise 1 = .ok (.bipush 33, 2) := by decide +kernel
theorem dX6_isOtherwise_3 : decode cX6_isOtherwise 3 = .ok (.aload_n 0, 1) := by decide +kernel
theorem dX6_isOtherwise_4 : decode cX6_isOtherwise 4 = .ok (.iconst 0, 1) := by decide +kernel
theorem dX6_isOtherwise_5 : decode cX6_isOtherwise 5 = .ok (.iload_n 1, 1) := by decide +kernel
theorem dX6_isOtherwise_6 : decode cX6_isOtherwise 6 = .ok (.invokevirtual 112, 3) := by decide +kernel
theorem dX6_isOtherwise_9 : decode cX6_isOtherwise 9 = .ok (.invokevirtual 121, 3) := by decide +kernel
theorem dX6_isOtherwise_12 : decode cX6_isOtherwise 12 = .ok (.aload_n 0, 1) := by decide +kernel
theorem dX6_isOtherwise_13 : decode cX6_isOtherwise 13 = .ok (.sipush 166, 3) := by decide +kernel
theorem dX6_isOtherwise_16 : decode cX6_isOtherwise 16 = .ok (.aload_n 0, 1) := by decide +kernel
theorem dX6_isOtherwise_17 : decode cX6_isOtherwise 17 = .ok (.bipush 82, 2) := by decide +kernel
theorem dX6_isOtherwise_19 : decode cX6_isOtherwise 19 = .ok (.iload_n 1, 1) := by decide +kernel
theorem dX6_isOtherwise_20 : decode cX6_isOtherwise 20 = .ok (.invokevirtual 112, 3) := by decide +kernel
theorem dX6_isOtherwise_23 : decode cX6_isOtherwise 23 = .ok (.invokevirtual 121, 3) := by decide +kernel
theorem dX6_isOtherwise_26 : decode cX6_isOtherwise 26 = .ok (.if_icmp .eq 7, 3) := by decide +kernel
theorem dX6_isOtherwise_29 : decode cX6_isOtherwise 29 = .ok (.iconst 1, 1) := by decide +kernel
theorem dX6_isOtherwise_30 : decode cX6_isOtherwise 30 = .ok (.goto 4, 3) := by decide +kernel
theorem dX6_isOtherwise_33 : decode cX6_isOtherwise 33 = .ok (.iconst 0, 1) := by decide +kernel
theorem dX6_isOtherwise_34 : decode cX6_isOtherwise 34 = .ok (.ireturn, 1) := by decide +kernel
theorem dX6_tellOf_0 : decode cX6_tellOf 0 = .ok (.iload_n 2, 1) := by decide +kernel
theorem dX6_tellOf_1 : decode cX6_tellOf 1 = .ok (.tableswitch 69 1 5 #[35, 40, 45, 50, 54], 35) := by decide +kernel
theorem dX6_tellOf_36 : decode cX6_tellOf 36 = .ok (.iload_n 1, 1) := by decide +kernel
theorem dX6_tellOf_37 : decode cX6_tellOf 37 = .ok (.invokestatic 89, 3) := by decide +kernel
theorem dX6_tellOf_40 : decode cX6_tellOf 40 = .ok (.ireturn, 1) := by decide +kernel
theorem dX6_tellOf_41 : decode cX6_tellOf 41 = .ok (.iload_n 1, 1) := by decide +kernel
theorem dX6_tellOf_42 : decode cX6_tellOf 42 = .ok (.invokestatic 92, 3) := by decide +kernel
theorem dX6_tellOf_45 : decode cX6_tellOf 45 = .ok (.ireturn, 1) := by decide +kernel
theorem dX6_tellOf_46 : decode cX6_tellOf 46 = .ok (.iload_n 1, 1) := by decide +kernel
theorem dX6_tellOf_47 : decode cX6_tellOf 47 = .ok (.invokestatic 95, 3) := by decide +kernel
theorem dX6_tellOf_50 : decode cX6_tellOf 50 = .ok (.ireturn, 1) := by decide +kernel
theorem dX6_tellOf_51 : decode cX6_tellOf 51 = .ok (.iload_n 1, 1) := by decide +kernel
theorem dX6_tellOf_52 : decode cX6_tellOf 52 = .ok (.iconst 2, 1) := by decide +kernel
theorem dX6_tellOf_53 : decode cX6_tellOf 53 = .ok (.irem, 1) := by decide +kernel
theorem dX6_tellOf_54 : decode cX6_tellOf 54 = .ok (.ireturn, 1) := by decide +kernel
theorem dX6_tellOf_55 : decode cX6_tellOf 55 = .ok (.aload_n 0, 1) := by decide +kernel
theorem dX6_tellOf_56 : decode cX6_tellOf 56 = .ok (.sipush 166, 3) := by decide +kernel
theorem dX6_tellOf_59 : decode cX6_tellOf 59 = .ok (.aload_n 0, 1) := by decide +kernel
theorem dX6_tellOf_60 : decode cX6_tellOf 60 = .ok (.bipush 82, 2) := by decide +kernel
theorem dX6_tellOf_62 : decode cX6_tellOf 62 = .ok (.iload_n 1, 1) := by decide +kernel
theorem dX6_tellOf_63 : decode cX6_tellOf 63 = .ok (.invokevirtual 112, 3) := by decide +kernel
theorem dX6_tellOf_66 : decode cX6_tellOf 66 = .ok (.invokevirtual 121, 3) := by decide +kernel
theorem dX6_tellOf_69 : decode cX6_tellOf 69 = .ok (.ireturn, 1) := by decide +kernel
theorem dX6_tellOf_70 : decode cX6_tellOf 70 = .ok (.aload_n 0, 1) := by decide +kernel
theorem dX6_tellOf_71 : decode cX6_tellOf 71 = .ok (.bipush 33, 2) := by decide +kernel
theorem dX6_tellOf_73 : decode cX6_tellOf 73 = .ok (.aload_n 0, 1) := by decide +kernel
theorem dX6_tellOf_74 : decode cX6_tellOf 74 = .ok (.iconst 0, 1) := by decide +kernel
theorem dX6_tellOf_75 : decode cX6_tellOf 75 = .ok (.iload_n 1, 1) := by decide +kernel
theorem dX6_tellOf_76 : decode cX6_tellOf 76 = .ok (.invokevirtual 112, 3) := by decide +kernel
theorem dX6_tellOf_79 : decode cX6_tellOf 79 = .ok (.invokevirtual 121, 3) := by decide +kernel
theorem dX6_tellOf_82 : decode cX6_tellOf 82 = .ok (.ireturn, 1) := by decide +kernel
theorem dX6_change_0 : decode cX6_change 0 = .ok (.iload_n 1, 1) := by decide +kernel
theorem dX6_change_1 : decode cX6_change 1 = .ok (.iconst 0, 1) := by decide +kernel
theorem dX6_change_2 : decode cX6_change 2 = .ok (.bipush 6, 2) := by decide +kernel
theorem dX6_change_4 : decode cX6_change 4 = .ok (.invokestatic 39, 3) := by decide +kernel
theorem dX6_change_7 : decode cX6_change 7 = .ok (.ifCond .ne 8, 3) := by decide +kernel
theorem dX6_change_10 : decode cX6_change 10 = .ok (.aload_n 0, 1) := by decide +kernel
theorem dX6_change_11 : decode cX6_change 11 = .ok (.invokevirtual 47, 3) := by decide +kernel
theorem dX6_change_14 : decode cX6_change 14 = .ok (.ireturn, 1) := by decide +kernel
theorem dX6_change_15 : decode cX6_change 15 = .ok (.aload_n 0, 1) := by decide +kernel
theorem dX6_change_16 : decode cX6_change 16 = .ok (.invokevirtual 105, 3) := by decide +kernel
theorem dX6_change_19 : decode cX6_change 19 = .ok (.aload_n 0, 1) := by decide +kernel
theorem dX6_change_20 : decode cX6_change 20 = .ok (.sipush 166, 3) := by decide +kernel
theorem dX6_change_23 : decode cX6_change 23 = .ok (.aload_n 0, 1) := by decide +kernel
theorem dX6_change_24 : decode cX6_change 24 = .ok (.getfield 7, 3) := by decide +kernel
theorem dX6_change_27 : decode cX6_change 27 = .ok (.sipush 165, 3) := by decide +kernel
theorem dX6_change_30 : decode cX6_change 30 = .ok (.iaload, 1) := by decide +kernel
theorem dX6_change_31 : decode cX6_change 31 = .ok (.bipush 82, 2) := by decide +kernel
theorem dX6_change_33 : decode cX6_change 33 = .ok (.invokevirtual 85, 3) := by decide +kernel
theorem dX6_change_36 : decode cX6_change 36 = .ok (.iconst 0, 1) := by decide +kernel
theorem dX6_change_37 : decode cX6_change 37 = .ok (.istore_n 2, 1) := by decide +kernel
theorem dX6_change_38 : decode cX6_change 38 = .ok (.iconst 0, 1) := by decide +kernel
theorem dX6_change_39 : decode cX6_change 39 = .ok (.istore_n 3, 1) := by decide +kernel
theorem dX6_change_40 : decode cX6_change 40 = .ok (.iload_n 3, 1) := by decide +kernel
theorem dX6_change_41 : decode cX6_change 41 = .ok (.ldc 116, 2) := by decide +kernel
theorem dX6_change_43 : decode cX6_change 43 = .ok (.if_icmp .ge 45, 3) := by decide +kernel
theorem dX6_change_46 : decode cX6_change 46 = .ok (.aload_n 0, 1) := by decide +kernel
theorem dX6_change_47 : decode cX6_change 47 = .ok (.iload_n 3, 1) := by decide +kernel
theorem dX6_change_48 : decode cX6_change 48 = .ok (.invokevirtual 127, 3) := by decide +kernel
theorem dX6_change_51 : decode cX6_change 51 = .ok (.istore 4, 2) := by decide +kernel
theorem dX6_change_53 : decode cX6_change 53 = .ok (.iload 4, 2) := by decide +kernel
theorem dX6_change_55 : decode cX6_change 55 = .ok (.ifCond .eq 14, 3) := by decide +kernel
theorem dX6_change_58 : decode cX6_change 58 = .ok (.iload_n 1, 1) := by decide +kernel
theorem dX6_change_59 : decode cX6_change 59 = .ok (.ifCond .le 10, 3) := by decide +kernel
theorem dX6_change_62 : decode cX6_change 62 = .ok (.aload_n 0, 1) := by decide +kernel
theorem dX6_change_63 : decode cX6_change 63 = .ok (.iload_n 3, 1) := by decide +kernel
theorem dX6_change_64 : decode cX6_change 64 = .ok (.iload_n 1, 1) := by decide +kernel
theorem dX6_change_65 : decode cX6_change 65 = .ok (.invokevirtual 130, 3) := by decide +kernel
theorem dX6_change_68 : decode cX6_change 68 = .ok (.ireturn, 1) := by decide +kernel
theorem dX6_change_69 : decode cX6_change 69 = .ok (.iload_n 2, 1) := by decide +kernel
theorem dX6_change_70 : decode cX6_change 70 = .ok (.iload 4, 2) := by decide +kernel
theorem dX6_change_72 : decode cX6_change 72 = .ok (.ifCond .eq 7, 3) := by decide +kernel
theorem dX6_change_75 : decode cX6_change 75 = .ok (.iconst 1, 1) := by decide +kernel
theorem dX6_change_76 : decode cX6_change 76 = .ok (.goto 4, 3) := by decide +kernel
theorem dX6_change_79 : decode cX6_change 79 = .ok (.iconst 0, 1) := by decide +kernel
theorem dX6_change_80 : decode cX6_change 80 = .ok (.iadd, 1) := by decide +kernel
theorem dX6_change_81 : decode cX6_change 81 = .ok (.istore_n 2, 1) := by decide +kernel
theorem dX6_change_82 : decode cX6_change 82 = .ok (.iinc 3 1, 3) := by decide +kernel
theorem dX6_change_85 : decode cX6_change 85 = .ok (.goto (-45), 3) := by decide +kernel
theorem dX6_change_88 : decode cX6_change 88 = .ok (.iload_n 1, 1) := by decide +kernel
theorem dX6_change_89 : decode cX6_change 89 = .ok (.ifCond .ne 7, 3) := by decide +kernel
theorem dX6_change_92 : decode cX6_change 92 = .ok (.iload_n 2, 1) := by decide +kernel
theorem dX6_change_93 : decode cX6_change 93 = .ok (.goto 4, 3) := by decide +kernel
theorem dX6_change_96 : decode cX6_change 96 = .ok (.iconst (-1), 1) := by decide +kernel
theorem dX6_change_97 : decode cX6_change 97 = .ok (.ireturn, 1) := by decide +kernel
theorem dX6_all_0 : decode cX6_all 0 = .ok (.iload_n 1, 1) := by decide +kernel
theorem dX6_all_1 : decode cX6_all 1 = .ok (.iconst 0, 1) := by decide +kernel
theorem dX6_all_2 : decode cX6_all 2 = .ok (.iconst 2, 1) := by decide +kernel
theorem dX6_all_3 : decode cX6_all 3 = .ok (.invokestatic 39, 3) := by decide +kernel
theorem dX6_all_6 : decode cX6_all 6 = .ok (.ifCond .ne 8, 3) := by decide +kernel
theorem dX6_all_9 : decode cX6_all 9 = .ok (.aload_n 0, 1) := by decide +kernel
theorem dX6_all_10 : decode cX6_all 10 = .ok (.invokevirtual 47, 3) := by decide +kernel
theorem dX6_all_13 : decode cX6_all 13 = .ok (.ireturn, 1) := by decide +kernel
theorem dX6_all_14 : decode cX6_all 14 = .ok (.aload_n 0, 1) := by decide +kernel
theorem dX6_all_15 : decode cX6_all 15 = .ok (.invokevirtual 105, 3) := by decide +kernel
theorem dX6_all_18 : decode cX6_all 18 = .ok (.iconst 0, 1) := by decide +kernel
theorem dX6_all_19 : decode cX6_all 19 = .ok (.istore_n 2, 1) := by decide +kernel
theorem dX6_all_20 : decode cX6_all 20 = .ok (.iconst 0, 1) := by decide +kernel
theorem dX6_all_21 : decode cX6_all 21 = .ok (.istore_n 3, 1) := by decide +kernel
theorem dX6_all_22 : decode cX6_all 22 = .ok (.iload_n 3, 1) := by decide +kernel
theorem dX6_all_23 : decode cX6_all 23 = .ok (.ldc 116, 2) := by decide +kernel
theorem dX6_all_25 : decode cX6_all 25 = .ok (.if_icmp .ge 33, 3) := by decide +kernel
theorem dX6_all_28 : decode cX6_all 28 = .ok (.iload_n 2, 1) := by decide +kernel
theorem dX6_all_29 : decode cX6_all 29 = .ok (.aload_n 0, 1) := by decide +kernel
theorem dX6_all_30 : decode cX6_all 30 = .ok (.bipush 33, 2) := by decide +kernel
theorem dX6_all_32 : decode cX6_all 32 = .ok (.aload_n 0, 1) := by decide +kernel
theorem dX6_all_33 : decode cX6_all 33 = .ok (.iconst 0, 1) := by decide +kernel
theorem dX6_all_34 : decode cX6_all 34 = .ok (.iload_n 3, 1) := by decide +kernel
theorem dX6_all_35 : decode cX6_all 35 = .ok (.invokevirtual 112, 3) := by decide +kernel
theorem dX6_all_38 : decode cX6_all 38 = .ok (.invokevirtual 121, 3) := by decide +kernel
theorem dX6_all_41 : decode cX6_all 41 = .ok (.iload_n 1, 1) := by decide +kernel
theorem dX6_all_42 : decode cX6_all 42 = .ok (.if_icmp .ne 7, 3) := by decide +kernel
theorem dX6_all_45 : decode cX6_all 45 = .ok (.iconst 1, 1) := by decide +kernel
theorem dX6_all_46 : decode cX6_all 46 = .ok (.goto 4, 3) := by decide +kernel
theorem dX6_all_49 : decode cX6_all 49 = .ok (.iconst 0, 1) := by decide +kernel
theorem dX6_all_50 : decode cX6_all 50 = .ok (.iadd, 1) := by decide +kernel
theorem dX6_all_51 : decode cX6_all 51 = .ok (.istore_n 2, 1) := by decide +kernel
theorem dX6_all_52 : decode cX6_all 52 = .ok (.iinc 3 1, 3) := by decide +kernel
theorem dX6_all_55 : decode cX6_all 55 = .ok (.goto (-33), 3) := by decide +kernel
theorem dX6_all_58 : decode cX6_all 58 = .ok (.iload_n 2, 1) := by decide +kernel
theorem dX6_all_59 : decode cX6_all 59 = .ok (.ireturn, 1) := by decide +kernel
theorem dX6_flowAt_0 : decode cX6_flowAt 0 = .ok (.sipush 299, 3) := by decide +kernel
theorem dX6_flowAt_3 : decode cX6_flowAt 3 = .ok (.bipush 7, 2) := by decide +kernel
theorem dX6_flowAt_5 : decode cX6_flowAt 5 = .ok (.iload_n 1, 1) := by decide +kernel
theorem dX6_flowAt_6 : decode cX6_flowAt 6 = .ok (.imul, 1) := by decide +kernel
theorem dX6_flowAt_7 : decode cX6_flowAt 7 = .ok (.iadd, 1) := by decide +kernel
theorem dX6_flowAt_8 : decode cX6_flowAt 8 = .ok (.ireturn, 1) := by decide +kernel
theorem dX6_isSuch_0 : decode cX6_isSuch 0 = .ok (.aload_n 0, 1) := by decide +kernel
theorem dX6_isSuch_1 : decode cX6_isSuch 1 = .ok (.getfield 7, 3) := by decide +kernel
theorem dX6_isSuch_4 : decode cX6_isSuch 4 = .ok (.iload_n 1, 1) := by decide +kernel
theorem dX6_isSuch_5 : decode cX6_isSuch 5 = .ok (.iaload, 1) := by decide +kernel
theorem dX6_isSuch_6 : decode cX6_isSuch 6 = .ok (.iload_n 2, 1) := by decide +kernel
theorem dX6_isSuch_7 : decode cX6_isSuch 7 = .ok (.if_icmp .ne 45, 3) := by decide +kernel
theorem dX6_isSuch_10 : decode cX6_isSuch 10 = .ok (.aload_n 0, 1) := by decide +kernel
theorem dX6_isSuch_11 : decode cX6_isSuch 11 = .ok (.getfield 7, 3) := by decide +kernel
theorem dX6_isSuch_14 : decode cX6_isSuch 14 = .ok (.iload_n 1, 1) := by decide +kernel
theorem dX6_isSuch_15 : decode cX6_isSuch 15 = .ok (.iconst 1, 1) := by decide +kernel
theorem dX6_isSuch_16 : decode cX6_isSuch 16 = .ok (.iadd, 1) := by decide +kernel
theorem dX6_isSuch_17 : decode cX6_isSuch 17 = .ok (.iaload, 1) := by decide +kernel
theorem dX6_isSuch_18 : decode cX6_isSuch 18 = .ok (.iload_n 3, 1) := by decide +kernel
theorem dX6_isSuch_19 : decode cX6_isSuch 19 = .ok (.if_icmp .ne 33, 3) := by decide +kernel
theorem dX6_isSuch_22 : decode cX6_isSuch 22 = .ok (.aload_n 0, 1) := by decide +kernel
theorem dX6_isSuch_23 : decode cX6_isSuch 23 = .ok (.getfield 7, 3) := by decide +kernel
theorem dX6_isSuch_26 : decode cX6_isSuch 26 = .ok (.iload_n 1, 1) := by decide +kernel
theorem dX6_isSuch_27 : decode cX6_isSuch 27 = .ok (.iconst 2, 1) := by decide +kernel
theorem dX6_isSuch_28 : decode cX6_isSuch 28 = .ok (.iadd, 1) := by decide +kernel
theorem dX6_isSuch_29 : decode cX6_isSuch 29 = .ok (.iaload, 1) := by decide +kernel
theorem dX6_isSuch_30 : decode cX6_isSuch 30 = .ok (.iload 4, 2) := by decide +kernel
theorem dX6_isSuch_32 : decode cX6_isSuch 32 = .ok (.if_icmp .ne 20, 3) := by decide +kernel
theorem dX6_isSuch_35 : decode cX6_isSuch 35 = .ok (.aload_n 0, 1) := by decide +kernel
theorem dX6_isSuch_36 : decode cX6_isSuch 36 = .ok (.getfield 7, 3) := by decide +kernel
theorem dX6_isSuch_39 : decode cX6_isSuch 39 = .ok (.iload_n 1, 1) := by decide +kernel
theorem dX6_isSuch_40 : decode cX6_isSuch 40 = .ok (.iconst 3, 1) := by decide +kernel
theorem dX6_isSuch_41 : decode cX6_isSuch 41 = .ok (.iadd, 1) := by decide +kernel
theorem dX6_isSuch_42 : decode cX6_isSuch 42 = .ok (.iaload, 1) := by decide +kernel
theorem dX6_isSuch_43 : decode cX6_isSuch 43 = .ok (.iload 5, 2) := by decide +kernel
theorem dX6_isSuch_45 : decode cX6_isSuch 45 = .ok (.if_icmp .ne 7, 3) := by decide +kernel
theorem dX6_isSuch_48 : decode cX6_isSuch 48 = .ok (.iconst 1, 1) := by decide +kernel
theorem dX6_isSuch_49 : decode cX6_isSuch 49 = .ok (.goto 4, 3) := by decide +kernel
theorem dX6_isSuch_52 : decode cX6_isSuch 52 = .ok (.iconst 0, 1) := by decide +kernel
theorem dX6_isSuch_53 : decode cX6_isSuch 53 = .ok (.ireturn, 1) := by decide +kernel
theorem dX6_flowOf_0 : decode cX6_flowOf 0 = .ok (.iconst (-1), 1) := by decide +kernel
theorem dX6_flowOf_1 : decode cX6_flowOf 1 = .ok (.istore 5, 2) := by decide +kernel
theorem dX6_flowOf_3 : decode cX6_flowOf 3 = .ok (.iconst 0, 1) := by decide +kernel
theorem dX6_flowOf_4 : decode cX6_flowOf 4 = .ok (.istore 6, 2) := by decide +kernel
theorem dX6_flowOf_6 : decode cX6_flowOf 6 = .ok (.iload 6, 2) := by decide +kernel
theorem dX6_flowOf_8 : decode cX6_flowOf 8 = .ok (.aload_n 0, 1) := by decide +kernel
theorem dX6_flowOf_9 : decode cX6_flowOf 9 = .ok (.getfield 7, 3) := by decide +kernel
theorem dX6_flowOf_12 : decode cX6_flowOf 12 = .ok (.sipush 298, 3) := by decide +kernel
theorem dX6_flowOf_15 : decode cX6_flowOf 15 = .ok (.iaload, 1) := by decide +kernel
theorem dX6_flowOf_16 : decode cX6_flowOf 16 = .ok (.if_icmp .ge 71, 3) := by decide +kernel
theorem dX6_flowOf_19 : decode cX6_flowOf 19 = .ok (.aload_n 0, 1) := by decide +kernel
theorem dX6_flowOf_20 : decode cX6_flowOf 20 = .ok (.aload_n 0, 1) := by decide +kernel
theorem dX6_flowOf_21 : decode cX6_flowOf 21 = .ok (.iload 6, 2) := by decide +kernel
theorem dX6_flowOf_23 : decode cX6_flowOf 23 = .ok (.invokevirtual 133, 3) := by decide +kernel
theorem dX6_flowOf_26 : decode cX6_flowOf 26 = .ok (.iload_n 1, 1) := by decide +kernel
theorem dX6_flowOf_27 : decode cX6_flowOf 27 = .ok (.iload_n 2, 1) := by decide +kernel
theorem dX6_flowOf_28 : decode cX6_flowOf 28 = .ok (.iload_n 3, 1) := by decide +kernel
theorem dX6_flowOf_29 : decode cX6_flowOf 29 = .ok (.iload 4, 2) := by decide +kernel
theorem dX6_flowOf_31 : decode cX6_flowOf 31 = .ok (.invokevirtual 136, 3) := by decide +kernel
theorem dX6_flowOf_34 : decode cX6_flowOf 34 = .ok (.ifCond .ne 21, 3) := by decide +kernel
theorem dX6_flowOf_37 : decode cX6_flowOf 37 = .ok (.aload_n 0, 1) := by decide +kernel
theorem dX6_flowOf_38 : decode cX6_flowOf 38 = .ok (.aload_n 0, 1) := by decide +kernel
theorem dX6_flowOf_39 : decode cX6_flowOf 39 = .ok (.iload 6, 2) := by decide +kernel
theorem dX6_flowOf_41 : decode cX6_flowOf 41 = .ok (.invokevirtual 133, 3) := by decide +kernel
theorem dX6_flowOf_44 : decode cX6_flowOf 44 = .ok (.iload_n 2, 1) := by decide +kernel
theorem dX6_flowOf_45 : decode cX6_flowOf 45 = .ok (.iload_n 1, 1) := by decide +kernel
theorem dX6_flowOf_46 : decode cX6_flowOf 46 = .ok (.iload_n 3, 1) := by decide +kernel
theorem dX6_flowOf_47 : decode cX6_flowOf 47 = .ok (.iload 4, 2) := by decide +kernel
theorem dX6_flowOf_49 : decode cX6_flowOf 49 = .ok (.invokevirtual 136, 3) := by decide +kernel
theorem dX6_flowOf_52 : decode cX6_flowOf 52 = .ok (.ifCond .eq 7, 3) := by decide +kernel
theorem dX6_flowOf_55 : decode cX6_flowOf 55 = .ok (.iconst 1, 1) := by decide +kernel
theorem dX6_flowOf_56 : decode cX6_flowOf 56 = .ok (.goto 4, 3) := by decide +kernel
theorem dX6_flowOf_59 : decode cX6_flowOf 59 = .ok (.iconst 0, 1) := by decide +kernel
theorem dX6_flowOf_60 : decode cX6_flowOf 60 = .ok (.istore 7, 2) := by decide +kernel
theorem dX6_flowOf_62 : decode cX6_flowOf 62 = .ok (.iload 7, 2) := by decide +kernel
theorem dX6_flowOf_64 : decode cX6_flowOf 64 = .ok (.ifCond .eq 13, 3) := by decide +kernel
theorem dX6_flowOf_67 : decode cX6_flowOf 67 = .ok (.iload 5, 2) := by decide +kernel
theorem dX6_flowOf_69 : decode cX6_flowOf 69 = .ok (.ifCond .ge 8, 3) := by decide +kernel
theorem dX6_flowOf_72 : decode cX6_flowOf 72 = .ok (.iload 6, 2) := by decide +kernel
theorem dX6_flowOf_74 : decode cX6_flowOf 74 = .ok (.goto 5, 3) := by decide +kernel
theorem dX6_flowOf_77 : decode cX6_flowOf 77 = .ok (.iload 5, 2) := by decide +kernel
theorem dX6_flowOf_79 : decode cX6_flowOf 79 = .ok (.istore 5, 2) := by decide +kernel
theorem dX6_flowOf_81 : decode cX6_flowOf 81 = .ok (.iinc 6 1, 3) := by decide +kernel
theorem dX6_flowOf_84 : decode cX6_flowOf 84 = .ok (.goto (-78), 3) := by decide +kernel
theorem dX6_flowOf_87 : decode cX6_flowOf 87 = .ok (.iload 5, 2) := by decide +kernel
theorem dX6_flowOf_89 : decode cX6_flowOf 89 = .ok (.ireturn, 1) := by decide +kernel
theorem dX6_flowGoes_0 : decode cX6_flowGoes 0 = .ok (.aload_n 0, 1) := by decide +kernel
theorem dX6_flowGoes_1 : decode cX6_flowGoes 1 = .ok (.getfield 7, 3) := by decide +kernel
theorem dX6_flowGoes_4 : decode cX6_flowGoes 4 = .ok (.sipush 298, 3) := by decide +kernel
theorem dX6_flowGoes_7 : decode cX6_flowGoes 7 = .ok (.dup2, 1) := by decide +kernel
theorem dX6_flowGoes_8 : decode cX6_flowGoes 8 = .ok (.iaload, 1) := by decide +kernel
theorem dX6_flowGoes_9 : decode cX6_flowGoes 9 = .ok (.iconst 1, 1) := by decide +kernel
theorem dX6_flowGoes_10 : decode cX6_flowGoes 10 = .ok (.isub, 1) := by decide +kernel
theorem dX6_flowGoes_11 : decode cX6_flowGoes 11 = .ok (.iastore, 1) := by decide +kernel
theorem dX6_flowGoes_12 : decode cX6_flowGoes 12 = .ok (.aload_n 0, 1) := by decide +kernel
theorem dX6_flowGoes_13 : decode cX6_flowGoes 13 = .ok (.iload_n 1, 1) := by decide +kernel
theorem dX6_flowGoes_14 : decode cX6_flowGoes 14 = .ok (.invokevirtual 133, 3) := by decide +kernel
theorem dX6_flowGoes_17 : decode cX6_flowGoes 17 = .ok (.istore_n 2, 1) := by decide +kernel
theorem dX6_flowGoes_18 : decode cX6_flowGoes 18 = .ok (.iload_n 2, 1) := by decide +kernel
theorem dX6_flowGoes_19 : decode cX6_flowGoes 19 = .ok (.aload_n 0, 1) := by decide +kernel
theorem dX6_flowGoes_20 : decode cX6_flowGoes 20 = .ok (.aload_n 0, 1) := by decide +kernel
theorem dX6_flowGoes_21 : decode cX6_flowGoes 21 = .ok (.getfield 7, 3) := by decide +kernel
theorem dX6_flowGoes_24 : decode cX6_flowGoes 24 = .ok (.sipush 298, 3) := by decide +kernel
theorem dX6_flowGoes_27 : decode cX6_flowGoes 27 = .ok (.iaload, 1) := by decide +kernel
theorem dX6_flowGoes_28 : decode cX6_flowGoes 28 = .ok (.invokevirtual 133, 3) := by decide +kernel
theorem dX6_flowGoes_31 : decode cX6_flowGoes 31 = .ok (.if_icmp .ge 24, 3) := by decide +kernel
theorem dX6_flowGoes_34 : decode cX6_flowGoes 34 = .ok (.aload_n 0, 1) := by decide +kernel
theorem dX6_flowGoes_35 : decode cX6_flowGoes 35 = .ok (.getfield 7, 3) := by decide +kernel
theorem dX6_flowGoes_38 : decode cX6_flowGoes 38 = .ok (.iload_n 2, 1) := by decide +kernel
theorem dX6_flowGoes_39 : decode cX6_flowGoes 39 = .ok (.aload_n 0, 1) := by decide +kernel
theorem dX6_flowGoes_40 : decode cX6_flowGoes 40 = .ok (.getfield 7, 3) := by decide +kernel
theorem dX6_flowGoes_43 : decode cX6_flowGoes 43 = .ok (.iload_n 2, 1) := by decide +kernel
theorem dX6_flowGoes_44 : decode cX6_flowGoes 44 = .ok (.bipush 7, 2) := by decide +kernel
theorem dX6_flowGoes_46 : decode cX6_flowGoes 46 = .ok (.iadd, 1) := by decide +kernel
theorem dX6_flowGoes_47 : decode cX6_flowGoes 47 = .ok (.iaload, 1) := by decide +kernel
theorem dX6_flowGoes_48 : decode cX6_flowGoes 48 = .ok (.iastore, 1) := by decide +kernel
theorem dX6_flowGoes_49 : decode cX6_flowGoes 49 = .ok (.iinc 2 1, 3) := by decide +kernel
theorem dX6_flowGoes_52 : decode cX6_flowGoes 52 = .ok (.goto (-34), 3) := by decide +kernel
theorem dX6_flowGoes_55 : decode cX6_flowGoes 55 = .ok (.return_, 1) := by decide +kernel
theorem dX6_saidGoes_0 : decode cX6_saidGoes 0 = .ok (.aload_n 0, 1) := by decide +kernel
theorem dX6_saidGoes_1 : decode cX6_saidGoes 1 = .ok (.getfield 7, 3) := by decide +kernel
theorem dX6_saidGoes_4 : decode cX6_saidGoes 4 = .ok (.sipush 355, 3) := by decide +kernel
theorem dX6_saidGoes_7 : decode cX6_saidGoes 7 = .ok (.dup2, 1) := by decide +kernel
theorem dX6_saidGoes_8 : decode cX6_saidGoes 8 = .ok (.iaload, 1) := by decide +kernel
theorem dX6_saidGoes_9 : decode cX6_saidGoes 9 = .ok (.iconst 1, 1) := by decide +kernel
theorem dX6_saidGoes_10 : decode cX6_saidGoes 10 = .ok (.isub, 1) := by decide +kernel
theorem dX6_saidGoes_11 : decode cX6_saidGoes 11 = .ok (.iastore, 1) := by decide +kernel
theorem dX6_saidGoes_12 : decode cX6_saidGoes 12 = .ok (.sipush 356, 3) := by decide +kernel
theorem dX6_saidGoes_15 : decode cX6_saidGoes 15 = .ok (.iconst 5, 1) := by decide +kernel
theorem dX6_saidGoes_16 : decode cX6_saidGoes 16 = .ok (.iload_n 1, 1) := by decide +kernel
theorem dX6_saidGoes_17 : decode cX6_saidGoes 17 = .ok (.imul, 1) := by decide +kernel
theorem dX6_saidGoes_18 : decode cX6_saidGoes 18 = .ok (.iadd, 1) := by decide +kernel
theorem dX6_saidGoes_19 : decode cX6_saidGoes 19 = .ok (.istore_n 2, 1) := by decide +kernel
theorem dX6_saidGoes_20 : decode cX6_saidGoes 20 = .ok (.iload_n 2, 1) := by decide +kernel
theorem dX6_saidGoes_21 : decode cX6_saidGoes 21 = .ok (.sipush 356, 3) := by decide +kernel
theorem dX6_saidGoes_24 : decode cX6_saidGoes 24 = .ok (.iconst 5, 1) := by decide +kernel
theorem dX6_saidGoes_25 : decode cX6_saidGoes 25 = .ok (.aload_n 0, 1) := by decide +kernel
theorem dX6_saidGoes_26 : decode cX6_saidGoes 26 = .ok (.getfield 7, 3) := by decide +kernel
theorem dX6_saidGoes_29 : decode cX6_saidGoes 29 = .ok (.sipush 355, 3) := by decide +kernel
theorem dX6_saidGoes_32 : decode cX6_saidGoes 32 = .ok (.iaload, 1) := by decide +kernel
theorem dX6_saidGoes_33 : decode cX6_saidGoes 33 = .ok (.imul, 1) := by decide +kernel
theorem dX6_saidGoes_34 : decode cX6_saidGoes 34 = .ok (.iadd, 1) := by decide +kernel
theorem dX6_saidGoes_35 : decode cX6_saidGoes 35 = .ok (.if_icmp .ge 23, 3) := by decide +kernel
theorem dX6_saidGoes_38 : decode cX6_saidGoes 38 = .ok (.aload_n 0, 1) := by decide +kernel
theorem dX6_saidGoes_39 : decode cX6_saidGoes 39 = .ok (.getfield 7, 3) := by decide +kernel
theorem dX6_saidGoes_42 : decode cX6_saidGoes 42 = .ok (.iload_n 2, 1) := by decide +kernel
theorem dX6_saidGoes_43 : decode cX6_saidGoes 43 = .ok (.aload_n 0, 1) := by decide +kernel
theorem dX6_saidGoes_44 : decode cX6_saidGoes 44 = .ok (.getfield 7, 3) := by decide +kernel
theorem dX6_saidGoes_47 : decode cX6_saidGoes 47 = .ok (.iload_n 2, 1) := by decide +kernel
theorem dX6_saidGoes_48 : decode cX6_saidGoes 48 = .ok (.iconst 5, 1) := by decide +kernel
theorem dX6_saidGoes_49 : decode cX6_saidGoes 49 = .ok (.iadd, 1) := by decide +kernel
theorem dX6_saidGoes_50 : decode cX6_saidGoes 50 = .ok (.iaload, 1) := by decide +kernel
theorem dX6_saidGoes_51 : decode cX6_saidGoes 51 = .ok (.iastore, 1) := by decide +kernel
theorem dX6_saidGoes_52 : decode cX6_saidGoes 52 = .ok (.iinc 2 1, 3) := by decide +kernel
theorem dX6_saidGoes_55 : decode cX6_saidGoes 55 = .ok (.goto (-35), 3) := by decide +kernel
theorem dX6_saidGoes_58 : decode cX6_saidGoes 58 = .ok (.return_, 1) := by decide +kernel
theorem dX6_saidOf_0 : decode cX6_saidOf 0 = .ok (.iconst (-1), 1) := by decide +kernel
theorem dX6_saidOf_1 : decode cX6_saidOf 1 = .ok (.istore 5, 2) := by decide +kernel
theorem dX6_saidOf_3 : decode cX6_saidOf 3 = .ok (.aload_n 0, 1) := by decide +kernel
theorem dX6_saidOf_4 : decode cX6_saidOf 4 = .ok (.getfield 7, 3) := by decide +kernel
theorem dX6_saidOf_7 : decode cX6_saidOf 7 = .ok (.sipush 355, 3) := by decide +kernel
theorem dX6_saidOf_10 : decode cX6_saidOf 10 = .ok (.iaload, 1) := by decide +kernel
theorem dX6_saidOf_11 : decode cX6_saidOf 11 = .ok (.iconst 1, 1) := by decide +kernel
theorem dX6_saidOf_12 : decode cX6_saidOf 12 = .ok (.isub, 1) := by decide +kernel
theorem dX6_saidOf_13 : decode cX6_saidOf 13 = .ok (.istore 6, 2) := by decide +kernel
theorem dX6_saidOf_15 : decode cX6_saidOf 15 = .ok (.iload 6, 2) := by decide +kernel
theorem dX6_saidOf_17 : decode cX6_saidOf 17 = .ok (.ifCond .lt 38, 3) := by decide +kernel
theorem dX6_saidOf_20 : decode cX6_saidOf 20 = .ok (.aload_n 0, 1) := by decide +kernel
theorem dX6_saidOf_21 : decode cX6_saidOf 21 = .ok (.sipush 356, 3) := by decide +kernel
theorem dX6_saidOf_24 : decode cX6_saidOf 24 = .ok (.iconst 5, 1) := by decide +kernel
theorem dX6_saidOf_25 : decode cX6_saidOf 25 = .ok (.iload 6, 2) := by decide +kernel
theorem dX6_saidOf_27 : decode cX6_saidOf 27 = .ok (.imul, 1) := by decide +kernel
theorem dX6_saidOf_28 : decode cX6_saidOf 28 = .ok (.iadd, 1) := by decide +kernel
theorem dX6_saidOf_29 : decode cX6_saidOf 29 = .ok (.iload_n 1, 1) := by decide +kernel
theorem dX6_saidOf_30 : decode cX6_saidOf 30 = .ok (.iload_n 2, 1) := by decide +kernel
theorem dX6_saidOf_31 : decode cX6_saidOf 31 = .ok (.iload_n 3, 1) := by decide +kernel
theorem dX6_saidOf_32 : decode cX6_saidOf 32 = .ok (.iload 4, 2) := by decide +kernel
theorem dX6_saidOf_34 : decode cX6_saidOf 34 = .ok (.invokevirtual 136, 3) := by decide +kernel
theorem dX6_saidOf_37 : decode cX6_saidOf 37 = .ok (.ifCond .eq 8, 3) := by decide +kernel
theorem dX6_saidOf_40 : decode cX6_saidOf 40 = .ok (.iload 6, 2) := by decide +kernel
theorem dX6_saidOf_42 : decode cX6_saidOf 42 = .ok (.goto 5, 3) := by decide +kernel
theorem dX6_saidOf_45 : decode cX6_saidOf 45 = .ok (.iload 5, 2) := by decide +kernel
theorem dX6_saidOf_47 : decode cX6_saidOf 47 = .ok (.istore 5, 2) := by decide +kernel
theorem dX6_saidOf_49 : decode cX6_saidOf 49 = .ok (.iinc 6 (-1), 3) := by decide +kernel
theorem dX6_saidOf_52 : decode cX6_saidOf 52 = .ok (.goto (-37), 3) := by decide +kernel
theorem dX6_saidOf_55 : decode cX6_saidOf 55 = .ok (.iload 5, 2) := by decide +kernel
theorem dX6_saidOf_57 : decode cX6_saidOf 57 = .ok (.ireturn, 1) := by decide +kernel
theorem dX6_stageBy_0 : decode cX6_stageBy 0 = .ok (.iload_n 0, 1) := by decide +kernel
theorem dX6_stageBy_1 : decode cX6_stageBy 1 = .ok (.tableswitch 157 1 7 #[43, 59, 74, 94, 157, 123, 145], 43) := by decide +kernel
theorem dX6_stageBy_44 : decode cX6_stageBy 44 = .ok (.iload_n 1, 1) := by decide +kernel
theorem dX6_stageBy_45 : decode cX6_stageBy 45 = .ok (.iconst 1, 1) := by decide +kernel
theorem dX6_stageBy_46 : decode cX6_stageBy 46 = .ok (.if_icmp .ne 12, 3) := by decide +kernel
theorem dX6_stageBy_49 : decode cX6_stageBy 49 = .ok (.iload_n 3, 1) := by decide +kernel
theorem dX6_stageBy_50 : decode cX6_stageBy 50 = .ok (.iconst 1, 1) := by decide +kernel
theorem dX6_stageBy_51 : decode cX6_stageBy 51 = .ok (.if_icmp .ne 7, 3) := by decide +kernel
theorem dX6_stageBy_54 : decode cX6_stageBy 54 = .ok (.iconst 2, 1) := by decide +kernel
theorem dX6_stageBy_55 : decode cX6_stageBy 55 = .ok (.goto 4, 3) := by decide +kernel
theorem dX6_stageBy_58 : decode cX6_stageBy 58 = .ok (.iconst (-1), 1) := by decide +kernel
theorem dX6_stageBy_59 : decode cX6_stageBy 59 = .ok (.ireturn, 1) := by decide +kernel
theorem dX6_stageBy_60 : decode cX6_stageBy 60 = .ok (.iload_n 1, 1) := by decide +kernel
theorem dX6_stageBy_61 : decode cX6_stageBy 61 = .ok (.ifCond .ne 12, 3) := by decide +kernel
theorem dX6_stageBy_64 : decode cX6_stageBy 64 = .ok (.iload_n 3, 1) := by decide +kernel
theorem dX6_stageBy_65 : decode cX6_stageBy 65 = .ok (.iconst 2, 1) := by decide +kernel
theorem dX6_stageBy_66 : decode cX6_stageBy 66 = .ok (.if_icmp .ne 7, 3) := by decide +kernel
theorem dX6_stageBy_69 : decode cX6_stageBy 69 = .ok (.iconst 3, 1) := by decide +kernel
theorem dX6_stageBy_70 : decode cX6_stageBy 70 = .ok (.goto 4, 3) := by decide +kernel
theorem dX6_stageBy_73 : decode cX6_stageBy 73 = .ok (.iconst (-1), 1) := by decide +kernel
theorem dX6_stageBy_74 : decode cX6_stageBy 74 = .ok (.ireturn, 1) := by decide +kernel
theorem dX6_stageBy_75 : decode cX6_stageBy 75 = .ok (.iload_n 3, 1) := by decide +kernel
theorem dX6_stageBy_76 : decode cX6_stageBy 76 = .ok (.iconst 2, 1) := by decide +kernel
theorem dX6_stageBy_77 : decode cX6_stageBy 77 = .ok (.if_icmp .ne 7, 3) := by decide +kernel
theorem dX6_stageBy_80 : decode cX6_stageBy 80 = .ok (.iconst 3, 1) := by decide +kernel
theorem dX6_stageBy_81 : decode cX6_stageBy 81 = .ok (.goto 13, 3) := by decide +kernel
theorem dX6_stageBy_84 : decode cX6_stageBy 84 = .ok (.iload_n 3, 1) := by decide +kernel
theorem dX6_stageBy_85 : decode cX6_stageBy 85 = .ok (.iconst 3, 1) := by decide +kernel
theorem dX6_stageBy_86 : decode cX6_stageBy 86 = .ok (.if_icmp .ne 7, 3) := by decide +kernel
theorem dX6_stageBy_89 : decode cX6_stageBy 89 = .ok (.iconst 4, 1) := by decide +kernel
theorem dX6_stageBy_90 : decode cX6_stageBy 90 = .ok (.goto 4, 3) := by decide +kernel
theorem dX6_stageBy_93 : decode cX6_stageBy 93 = .ok (.iconst (-1), 1) := by decide +kernel
theorem dX6_stageBy_94 : decode cX6_stageBy 94 = .ok (.ireturn, 1) := by decide +kernel
theorem dX6_stageBy_95 : decode cX6_stageBy 95 = .ok (.iload_n 1, 1) := by decide +kernel
theorem dX6_stageBy_96 : decode cX6_stageBy 96 = .ok (.iload_n 2, 1) := by decide +kernel
theorem dX6_stageBy_97 : decode cX6_stageBy 97 = .ok (.if_icmp .ne 7, 3) := by decide +kernel
theorem dX6_stageBy_100 : decode cX6_stageBy 100 = .ok (.iconst (-1), 1) := by decide +kernel
theorem dX6_stageBy_101 : decode cX6_stageBy 101 = .ok (.goto 22, 3) := by decide +kernel
theorem dX6_stageBy_104 : decode cX6_stageBy 104 = .ok (.iload_n 3, 1) := by decide +kernel
theorem dX6_stageBy_105 : decode cX6_stageBy 105 = .ok (.iconst 2, 1) := by decide +kernel
theorem dX6_stageBy_106 : decode cX6_stageBy 106 = .ok (.if_icmp .ne 7, 3) := by decide +kernel
theorem dX6_stageBy_109 : decode cX6_stageBy 109 = .ok (.iconst 4, 1) := by decide +kernel
theorem dX6_stageBy_110 : decode cX6_stageBy 110 = .ok (.goto 13, 3) := by decide +kernel
theorem dX6_stageBy_113 : decode cX6_stageBy 113 = .ok (.iload_n 3, 1) := by decide +kernel
theorem dX6_stageBy_114 : decode cX6_stageBy 114 = .ok (.iconst 3, 1) := by decide +kernel
theorem dX6_stageBy_115 : decode cX6_stageBy 115 = .ok (.if_icmp .ne 7, 3) := by decide +kernel
theorem dX6_stageBy_118 : decode cX6_stageBy 118 = .ok (.iconst 5, 1) := by decide +kernel
theorem dX6_stageBy_119 : decode cX6_stageBy 119 = .ok (.goto 4, 3) := by decide +kernel
theorem dX6_stageBy_122 : decode cX6_stageBy 122 = .ok (.iconst (-1), 1) := by decide +kernel
theorem dX6_stageBy_123 : decode cX6_stageBy 123 = .ok (.ireturn, 1) := by decide +kernel
theorem dX6_stageBy_124 : decode cX6_stageBy 124 = .ok (.iload_n 3, 1) := by decide +kernel
theorem dX6_stageBy_125 : decode cX6_stageBy 125 = .ok (.iconst 2, 1) := by decide +kernel
theorem dX6_stageBy_126 : decode cX6_stageBy 126 = .ok (.if_icmp .eq 7, 3) := by decide +kernel
theorem dX6_stageBy_129 : decode cX6_stageBy 129 = .ok (.iconst (-1), 1) := by decide +kernel
theorem dX6_stageBy_130 : decode cX6_stageBy 130 = .ok (.goto 15, 3) := by decide +kernel
theorem dX6_stageBy_133 : decode cX6_stageBy 133 = .ok (.iload_n 1, 1) := by decide +kernel
theorem dX6_stageBy_134 : decode cX6_stageBy 134 = .ok (.iconst 1, 1) := by decide +kernel
theorem dX6_stageBy_135 : decode cX6_stageBy 135 = .ok (.if_icmp .ne 8, 3) := by decide +kernel
theorem dX6_stageBy_138 : decode cX6_stageBy 138 = .ok (.bipush 7, 2) := by decide +kernel
theorem dX6_stageBy_140 : decode cX6_stageBy 140 = .ok (.goto 5, 3) := by decide +kernel
theorem dX6_stageBy_143 : decode cX6_stageBy 143 = .ok (.bipush 6, 2) := by decide +kernel
theorem dX6_stageBy_145 : decode cX6_stageBy 145 = .ok (.ireturn, 1) := by decide +kernel
theorem dX6_stageBy_146 : decode cX6_stageBy 146 = .ok (.iload_n 3, 1) := by decide +kernel
theorem dX6_stageBy_147 : decode cX6_stageBy 147 = .ok (.iconst 2, 1) := by decide +kernel
theorem dX6_stageBy_148 : decode cX6_stageBy 148 = .ok (.if_icmp .ne 8, 3) := by decide +kernel
theorem dX6_stageBy_151 : decode cX6_stageBy 151 = .ok (.bipush 7, 2) := by decide +kernel
theorem dX6_stageBy_153 : decode cX6_stageBy 153 = .ok (.goto 4, 3) := by decide +kernel
theorem dX6_stageBy_156 : decode cX6_stageBy 156 = .ok (.iconst (-1), 1) := by decide +kernel
theorem dX6_stageBy_157 : decode cX6_stageBy 157 = .ok (.ireturn, 1) := by decide +kernel
theorem dX6_stageBy_158 : decode cX6_stageBy 158 = .ok (.iconst (-1), 1) := by decide +kernel
theorem dX6_stageBy_159 : decode cX6_stageBy 159 = .ok (.ireturn, 1) := by decide +kernel
theorem dX6_becomes_0 : decode cX6_becomes 0 = .ok (.aload_n 0, 1) := by decide +kernel
theorem dX6_becomes_1 : decode cX6_becomes 1 = .ok (.getfield 7, 3) := by decide +kernel
theorem dX6_becomes_4 : decode cX6_becomes 4 = .ok (.iload_n 1, 1) := by decide +kernel
theorem dX6_becomes_5 : decode cX6_becomes 5 = .ok (.iconst 4, 1) := by decide +kernel
theorem dX6_becomes_6 : decode cX6_becomes 6 = .ok (.iadd, 1) := by decide +kernel
theorem dX6_becomes_7 : decode cX6_becomes 7 = .ok (.iload_n 2, 1) := by decide +kernel
theorem dX6_becomes_8 : decode cX6_becomes 8 = .ok (.iastore, 1) := by decide +kernel
theorem dX6_becomes_9 : decode cX6_becomes 9 = .ok (.aload_n 0, 1) := by decide +kernel
theorem dX6_becomes_10 : decode cX6_becomes 10 = .ok (.getfield 7, 3) := by decide +kernel
theorem dX6_becomes_13 : decode cX6_becomes 13 = .ok (.iload_n 1, 1) := by decide +kernel
theorem dX6_becomes_14 : decode cX6_becomes 14 = .ok (.iconst 5, 1) := by decide +kernel
theorem dX6_becomes_15 : decode cX6_becomes 15 = .ok (.iadd, 1) := by decide +kernel
theorem dX6_becomes_16 : decode cX6_becomes 16 = .ok (.aload_n 0, 1) := by decide +kernel
theorem dX6_becomes_17 : decode cX6_becomes 17 = .ok (.getfield 7, 3) := by decide +kernel
theorem dX6_becomes_20 : decode cX6_becomes 20 = .ok (.sipush 394, 3) := by decide +kernel
theorem dX6_becomes_23 : decode cX6_becomes 23 = .ok (.iaload, 1) := by decide +kernel
theorem dX6_becomes_24 : decode cX6_becomes 24 = .ok (.aload_n 0, 1) := by decide +kernel
theorem dX6_becomes_25 : decode cX6_becomes 25 = .ok (.getfield 7, 3) := by decide +kernel
theorem dX6_becomes_28 : decode cX6_becomes 28 = .ok (.sipush 386, 3) := by decide +kernel
theorem dX6_becomes_31 : decode cX6_becomes 31 = .ok (.iload_n 2, 1) := by decide +kernel
theorem dX6_becomes_32 : decode cX6_becomes 32 = .ok (.iadd, 1) := by decide +kernel
theorem dX6_becomes_33 : decode cX6_becomes 33 = .ok (.iaload, 1) := by decide +kernel
theorem dX6_becomes_34 : decode cX6_becomes 34 = .ok (.iadd, 1) := by decide +kernel
theorem dX6_becomes_35 : decode cX6_becomes 35 = .ok (.iastore, 1) := by decide +kernel
theorem dX6_becomes_36 : decode cX6_becomes 36 = .ok (.return_, 1) := by decide +kernel
theorem dX6_goesOn_0 : decode cX6_goesOn 0 = .ok (.aload_n 0, 1) := by decide +kernel
theorem dX6_goesOn_1 : decode cX6_goesOn 1 = .ok (.iload_n 1, 1) := by decide +kernel
theorem dX6_goesOn_2 : decode cX6_goesOn 2 = .ok (.invokevirtual 133, 3) := by decide +kernel
theorem dX6_goesOn_5 : decode cX6_goesOn 5 = .ok (.istore 4, 2) := by decide +kernel
theorem dX6_goesOn_7 : decode cX6_goesOn 7 = .ok (.iload_n 3, 1) := by decide +kernel
theorem dX6_goesOn_8 : decode cX6_goesOn 8 = .ok (.iconst 4, 1) := by decide +kernel
theorem dX6_goesOn_9 : decode cX6_goesOn 9 = .ok (.if_icmp .ne 10, 3) := by decide +kernel
theorem dX6_goesOn_12 : decode cX6_goesOn 12 = .ok (.aload_n 0, 1) := by decide +kernel
theorem dX6_goesOn_13 : decode cX6_goesOn 13 = .ok (.iload_n 1, 1) := by decide +kernel
theorem dX6_goesOn_14 : decode cX6_goesOn 14 = .ok (.invokevirtual 140, 3) := by decide +kernel
theorem dX6_goesOn_17 : decode cX6_goesOn 17 = .ok (.iconst 1, 1) := by decide +kernel
theorem dX6_goesOn_18 : decode cX6_goesOn 18 = .ok (.ireturn, 1) := by decide +kernel
theorem dX6_goesOn_19 : decode cX6_goesOn 19 = .ok (.aload_n 0, 1) := by decide +kernel
theorem dX6_goesOn_20 : decode cX6_goesOn 20 = .ok (.getfield 7, 3) := by decide +kernel
theorem dX6_goesOn_23 : decode cX6_goesOn 23 = .ok (.iload 4, 2) := by decide +kernel
theorem dX6_goesOn_25 : decode cX6_goesOn 25 = .ok (.iconst 4, 1) := by decide +kernel
theorem dX6_goesOn_26 : decode cX6_goesOn 26 = .ok (.iadd, 1) := by decide +kernel
theorem dX6_goesOn_27 : decode cX6_goesOn 27 = .ok (.iaload, 1) := by decide +kernel
