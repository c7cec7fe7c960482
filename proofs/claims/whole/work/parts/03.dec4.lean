theorem dX12_findSets_87 : decode cX12_findSets 87 = .ok (.irem, 1) := by decide +kernel
theorem dX12_findSets_88 : decode cX12_findSets 88 = .ok (.bipush 30, 2) := by decide +kernel
theorem dX12_findSets_90 : decode cX12_findSets 90 = .ok (.idiv, 1) := by decide +kernel
theorem dX12_findSets_91 : decode cX12_findSets 91 = .ok (.iload_n 3, 1) := by decide +kernel
theorem dX12_findSets_92 : decode cX12_findSets 92 = .ok (.if_icmp .ne 16, 3) := by decide +kernel
theorem dX12_findSets_95 : decode cX12_findSets 95 = .ok (.aload_n 0, 1) := by decide +kernel
theorem dX12_findSets_96 : decode cX12_findSets 96 = .ok (.getfield 137, 3) := by decide +kernel
theorem dX12_findSets_99 : decode cX12_findSets 99 = .ok (.aload_n 0, 1) := by decide +kernel
theorem dX12_findSets_100 : decode cX12_findSets 100 = .ok (.iload_n 1, 1) := by decide +kernel
theorem dX12_findSets_101 : decode cX12_findSets 101 = .ok (.iload 4, 2) := by decide +kernel
theorem dX12_findSets_103 : decode cX12_findSets 103 = .ok (.invokevirtual 430, 3) := by decide +kernel
theorem dX12_findSets_106 : decode cX12_findSets 106 = .ok (.iconst 1, 1) := by decide +kernel
theorem dX12_findSets_107 : decode cX12_findSets 107 = .ok (.bastore, 1) := by decide +kernel
theorem dX12_findSets_108 : decode cX12_findSets 108 = .ok (.iinc 4 1, 3) := by decide +kernel
theorem dX12_findSets_111 : decode cX12_findSets 111 = .ok (.goto (-37), 3) := by decide +kernel
theorem dX12_findSets_114 : decode cX12_findSets 114 = .ok (.iconst 0, 1) := by decide +kernel
theorem dX12_findSets_115 : decode cX12_findSets 115 = .ok (.istore 4, 2) := by decide +kernel
theorem dX12_findSets_117 : decode cX12_findSets 117 = .ok (.iload 4, 2) := by decide +kernel
theorem dX12_findSets_119 : decode cX12_findSets 119 = .ok (.sipush 720, 3) := by decide +kernel
theorem dX12_findSets_122 : decode cX12_findSets 122 = .ok (.if_icmp .ge 23, 3) := by decide +kernel
theorem dX12_findSets_125 : decode cX12_findSets 125 = .ok (.aload_n 0, 1) := by decide +kernel
theorem dX12_findSets_126 : decode cX12_findSets 126 = .ok (.getfield 140, 3) := by decide +kernel
theorem dX12_findSets_129 : decode cX12_findSets 129 = .ok (.aload_n 0, 1) := by decide +kernel
theorem dX12_findSets_130 : decode cX12_findSets 130 = .ok (.iload_n 1, 1) := by decide +kernel
theorem dX12_findSets_131 : decode cX12_findSets 131 = .ok (.iload_n 3, 1) := by decide +kernel
theorem dX12_findSets_132 : decode cX12_findSets 132 = .ok (.iload 4, 2) := by decide +kernel
theorem dX12_findSets_134 : decode cX12_findSets 134 = .ok (.invokevirtual 433, 3) := by decide +kernel
theorem dX12_findSets_137 : decode cX12_findSets 137 = .ok (.iconst 1, 1) := by decide +kernel
theorem dX12_findSets_138 : decode cX12_findSets 138 = .ok (.bastore, 1) := by decide +kernel
theorem dX12_findSets_139 : decode cX12_findSets 139 = .ok (.iinc 4 1, 3) := by decide +kernel
theorem dX12_findSets_142 : decode cX12_findSets 142 = .ok (.goto (-25), 3) := by decide +kernel
theorem dX12_findSets_145 : decode cX12_findSets 145 = .ok (.iconst 0, 1) := by decide +kernel
theorem dX12_findSets_146 : decode cX12_findSets 146 = .ok (.istore 4, 2) := by decide +kernel
theorem dX12_findSets_148 : decode cX12_findSets 148 = .ok (.iload 4, 2) := by decide +kernel
theorem dX12_findSets_150 : decode cX12_findSets 150 = .ok (.iload_n 2, 1) := by decide +kernel
theorem dX12_findSets_151 : decode cX12_findSets 151 = .ok (.if_icmp .ge 55, 3) := by decide +kernel
theorem dX12_findSets_154 : decode cX12_findSets 154 = .ok (.iconst 0, 1) := by decide +kernel
theorem dX12_findSets_155 : decode cX12_findSets 155 = .ok (.istore 5, 2) := by decide +kernel
theorem dX12_findSets_157 : decode cX12_findSets 157 = .ok (.iload 5, 2) := by decide +kernel
theorem dX12_findSets_159 : decode cX12_findSets 159 = .ok (.iload_n 2, 1) := by decide +kernel
theorem dX12_findSets_160 : decode cX12_findSets 160 = .ok (.if_icmp .ge 40, 3) := by decide +kernel
theorem dX12_findSets_163 : decode cX12_findSets 163 = .ok (.aload_n 0, 1) := by decide +kernel
theorem dX12_findSets_164 : decode cX12_findSets 164 = .ok (.getfield 137, 3) := by decide +kernel
theorem dX12_findSets_167 : decode cX12_findSets 167 = .ok (.iload 4, 2) := by decide +kernel
theorem dX12_findSets_169 : decode cX12_findSets 169 = .ok (.baload, 1) := by decide +kernel
theorem dX12_findSets_170 : decode cX12_findSets 170 = .ok (.ifCond .eq 30, 3) := by decide +kernel
theorem dX12_findSets_173 : decode cX12_findSets 173 = .ok (.aload_n 0, 1) := by decide +kernel
theorem dX12_findSets_174 : decode cX12_findSets 174 = .ok (.getfield 140, 3) := by decide +kernel
theorem dX12_findSets_177 : decode cX12_findSets 177 = .ok (.iload 5, 2) := by decide +kernel
theorem dX12_findSets_179 : decode cX12_findSets 179 = .ok (.baload, 1) := by decide +kernel
theorem dX12_findSets_180 : decode cX12_findSets 180 = .ok (.ifCond .eq 14, 3) := by decide +kernel
theorem dX12_findSets_183 : decode cX12_findSets 183 = .ok (.aload_n 0, 1) := by decide +kernel
theorem dX12_findSets_184 : decode cX12_findSets 184 = .ok (.getfield 134, 3) := by decide +kernel
theorem dX12_findSets_187 : decode cX12_findSets 187 = .ok (.iload 4, 2) := by decide +kernel
theorem dX12_findSets_189 : decode cX12_findSets 189 = .ok (.iload 5, 2) := by decide +kernel
theorem dX12_findSets_191 : decode cX12_findSets 191 = .ok (.iand, 1) := by decide +kernel
theorem dX12_findSets_192 : decode cX12_findSets 192 = .ok (.iconst 1, 1) := by decide +kernel
theorem dX12_findSets_193 : decode cX12_findSets 193 = .ok (.bastore, 1) := by decide +kernel
theorem dX12_findSets_194 : decode cX12_findSets 194 = .ok (.iinc 5 1, 3) := by decide +kernel
theorem dX12_findSets_197 : decode cX12_findSets 197 = .ok (.goto (-40), 3) := by decide +kernel
theorem dX12_findSets_200 : decode cX12_findSets 200 = .ok (.iinc 4 1, 3) := by decide +kernel
theorem dX12_findSets_203 : decode cX12_findSets 203 = .ok (.goto (-55), 3) := by decide +kernel
theorem dX12_findSets_206 : decode cX12_findSets 206 = .ok (.iinc 3 1, 3) := by decide +kernel
theorem dX12_findSets_209 : decode cX12_findSets 209 = .ok (.goto (-178), 3) := by decide +kernel
theorem dX12_findSets_212 : decode cX12_findSets 212 = .ok (.iconst 0, 1) := by decide +kernel
theorem dX12_findSets_213 : decode cX12_findSets 213 = .ok (.istore_n 3, 1) := by decide +kernel
theorem dX12_findSets_214 : decode cX12_findSets 214 = .ok (.iload_n 3, 1) := by decide +kernel
theorem dX12_findSets_215 : decode cX12_findSets 215 = .ok (.aload_n 0, 1) := by decide +kernel
theorem dX12_findSets_216 : decode cX12_findSets 216 = .ok (.getfield 89, 3) := by decide +kernel
theorem dX12_findSets_219 : decode cX12_findSets 219 = .ok (.iload_n 1, 1) := by decide +kernel
theorem dX12_findSets_220 : decode cX12_findSets 220 = .ok (.iaload, 1) := by decide +kernel
theorem dX12_findSets_221 : decode cX12_findSets 221 = .ok (.if_icmp .ge 55, 3) := by decide +kernel
theorem dX12_findSets_224 : decode cX12_findSets 224 = .ok (.iconst 0, 1) := by decide +kernel
theorem dX12_findSets_225 : decode cX12_findSets 225 = .ok (.istore 4, 2) := by decide +kernel
theorem dX12_findSets_227 : decode cX12_findSets 227 = .ok (.iload 4, 2) := by decide +kernel
theorem dX12_findSets_229 : decode cX12_findSets 229 = .ok (.iload_n 2, 1) := by decide +kernel
theorem dX12_findSets_230 : decode cX12_findSets 230 = .ok (.if_icmp .ge 40, 3) := by decide +kernel
theorem dX12_findSets_233 : decode cX12_findSets 233 = .ok (.iload 4, 2) := by decide +kernel
theorem dX12_findSets_235 : decode cX12_findSets 235 = .ok (.iload_n 3, 1) := by decide +kernel
theorem dX12_findSets_236 : decode cX12_findSets 236 = .ok (.ishr, 1) := by decide +kernel
theorem dX12_findSets_237 : decode cX12_findSets 237 = .ok (.iconst 1, 1) := by decide +kernel
theorem dX12_findSets_238 : decode cX12_findSets 238 = .ok (.iand, 1) := by decide +kernel
theorem dX12_findSets_239 : decode cX12_findSets 239 = .ok (.ifCond .ne 25, 3) := by decide +kernel
theorem dX12_findSets_242 : decode cX12_findSets 242 = .ok (.aload_n 0, 1) := by decide +kernel
theorem dX12_findSets_243 : decode cX12_findSets 243 = .ok (.getfield 134, 3) := by decide +kernel
theorem dX12_findSets_246 : decode cX12_findSets 246 = .ok (.iload 4, 2) := by decide +kernel
theorem dX12_findSets_248 : decode cX12_findSets 248 = .ok (.iconst 1, 1) := by decide +kernel
theorem dX12_findSets_249 : decode cX12_findSets 249 = .ok (.iload_n 3, 1) := by decide +kernel
theorem dX12_findSets_250 : decode cX12_findSets 250 = .ok (.ishl, 1) := by decide +kernel
theorem dX12_findSets_251 : decode cX12_findSets 251 = .ok (.ior, 1) := by decide +kernel
theorem dX12_findSets_252 : decode cX12_findSets 252 = .ok (.baload, 1) := by decide +kernel
theorem dX12_findSets_253 : decode cX12_findSets 253 = .ok (.ifCond .eq 11, 3) := by decide +kernel
theorem dX12_findSets_256 : decode cX12_findSets 256 = .ok (.aload_n 0, 1) := by decide +kernel
theorem dX12_findSets_257 : decode cX12_findSets 257 = .ok (.getfield 134, 3) := by decide +kernel
theorem dX12_findSets_260 : decode cX12_findSets 260 = .ok (.iload 4, 2) := by decide +kernel
theorem dX12_findSets_262 : decode cX12_findSets 262 = .ok (.iconst 1, 1) := by decide +kernel
theorem dX12_findSets_263 : decode cX12_findSets 263 = .ok (.bastore, 1) := by decide +kernel
theorem dX12_findSets_264 : decode cX12_findSets 264 = .ok (.iinc 4 1, 3) := by decide +kernel
theorem dX12_findSets_267 : decode cX12_findSets 267 = .ok (.goto (-40), 3) := by decide +kernel
theorem dX12_findSets_270 : decode cX12_findSets 270 = .ok (.iinc 3 1, 3) := by decide +kernel
theorem dX12_findSets_273 : decode cX12_findSets 273 = .ok (.goto (-59), 3) := by decide +kernel
theorem dX12_findSets_276 : decode cX12_findSets 276 = .ok (.return_, 1) := by decide +kernel
theorem dX12_bitsOf_0 : decode cX12_bitsOf 0 = .ok (.iconst 0, 1) := by decide +kernel
theorem dX12_bitsOf_1 : decode cX12_bitsOf 1 = .ok (.istore_n 1, 1) := by decide +kernel
theorem dX12_bitsOf_2 : decode cX12_bitsOf 2 = .ok (.iconst 0, 1) := by decide +kernel
theorem dX12_bitsOf_3 : decode cX12_bitsOf 3 = .ok (.istore_n 2, 1) := by decide +kernel
theorem dX12_bitsOf_4 : decode cX12_bitsOf 4 = .ok (.iload_n 2, 1) := by decide +kernel
theorem dX12_bitsOf_5 : decode cX12_bitsOf 5 = .ok (.bipush 12, 2) := by decide +kernel
theorem dX12_bitsOf_7 : decode cX12_bitsOf 7 = .ok (.if_icmp .ge 17, 3) := by decide +kernel
theorem dX12_bitsOf_10 : decode cX12_bitsOf 10 = .ok (.iload_n 1, 1) := by decide +kernel
theorem dX12_bitsOf_11 : decode cX12_bitsOf 11 = .ok (.iload_n 0, 1) := by decide +kernel
theorem dX12_bitsOf_12 : decode cX12_bitsOf 12 = .ok (.iload_n 2, 1) := by decide +kernel
theorem dX12_bitsOf_13 : decode cX12_bitsOf 13 = .ok (.ishr, 1) := by decide +kernel
theorem dX12_bitsOf_14 : decode cX12_bitsOf 14 = .ok (.iconst 1, 1) := by decide +kernel
theorem dX12_bitsOf_15 : decode cX12_bitsOf 15 = .ok (.iand, 1) := by decide +kernel
theorem dX12_bitsOf_16 : decode cX12_bitsOf 16 = .ok (.iadd, 1) := by decide +kernel
theorem dX12_bitsOf_17 : decode cX12_bitsOf 17 = .ok (.istore_n 1, 1) := by decide +kernel
theorem dX12_bitsOf_18 : decode cX12_bitsOf 18 = .ok (.iinc 2 1, 3) := by decide +kernel
theorem dX12_bitsOf_21 : decode cX12_bitsOf 21 = .ok (.goto (-17), 3) := by decide +kernel
theorem dX12_bitsOf_24 : decode cX12_bitsOf 24 = .ok (.iload_n 1, 1) := by decide +kernel
theorem dX12_bitsOf_25 : decode cX12_bitsOf 25 = .ok (.ireturn, 1) := by decide +kernel
theorem dX12_quarrel_0 : decode cX12_quarrel 0 = .ok (.aload_n 0, 1) := by decide +kernel
theorem dX12_quarrel_1 : decode cX12_quarrel 1 = .ok (.iload_n 1, 1) := by decide +kernel
theorem dX12_quarrel_2 : decode cX12_quarrel 2 = .ok (.invokevirtual 347, 3) := by decide +kernel
theorem dX12_quarrel_5 : decode cX12_quarrel 5 = .ok (.ifCond .ne 5, 3) := by decide +kernel
theorem dX12_quarrel_8 : decode cX12_quarrel 8 = .ok (.iconst (-1), 1) := by decide +kernel
theorem dX12_quarrel_9 : decode cX12_quarrel 9 = .ok (.ireturn, 1) := by decide +kernel
theorem dX12_quarrel_10 : decode cX12_quarrel 10 = .ok (.aload_n 0, 1) := by decide +kernel
theorem dX12_quarrel_11 : decode cX12_quarrel 11 = .ok (.iload_n 1, 1) := by decide +kernel
theorem dX12_quarrel_12 : decode cX12_quarrel 12 = .ok (.invokevirtual 437, 3) := by decide +kernel
theorem dX12_quarrel_15 : decode cX12_quarrel 15 = .ok (.iconst 1, 1) := by decide +kernel
theorem dX12_quarrel_16 : decode cX12_quarrel 16 = .ok (.aload_n 0, 1) := by decide +kernel
theorem dX12_quarrel_17 : decode cX12_quarrel 17 = .ok (.getfield 89, 3) := by decide +kernel
theorem dX12_quarrel_20 : decode cX12_quarrel 20 = .ok (.iload_n 1, 1) := by decide +kernel
theorem dX12_quarrel_21 : decode cX12_quarrel 21 = .ok (.iaload, 1) := by decide +kernel
theorem dX12_quarrel_22 : decode cX12_quarrel 22 = .ok (.ishl, 1) := by decide +kernel
theorem dX12_quarrel_23 : decode cX12_quarrel 23 = .ok (.istore_n 2, 1) := by decide +kernel
theorem dX12_quarrel_24 : decode cX12_quarrel 24 = .ok (.iconst 0, 1) := by decide +kernel
theorem dX12_quarrel_25 : decode cX12_quarrel 25 = .ok (.istore_n 3, 1) := by decide +kernel
theorem dX12_quarrel_26 : decode cX12_quarrel 26 = .ok (.iconst 0, 1) := by decide +kernel
theorem dX12_quarrel_27 : decode cX12_quarrel 27 = .ok (.istore 4, 2) := by decide +kernel
theorem dX12_quarrel_29 : decode cX12_quarrel 29 = .ok (.iload 4, 2) := by decide +kernel
theorem dX12_quarrel_31 : decode cX12_quarrel 31 = .ok (.iload_n 2, 1) := by decide +kernel
theorem dX12_quarrel_32 : decode cX12_quarrel 32 = .ok (.if_icmp .ge 38, 3) := by decide +kernel
theorem dX12_quarrel_35 : decode cX12_quarrel 35 = .ok (.aload_n 0, 1) := by decide +kernel
theorem dX12_quarrel_36 : decode cX12_quarrel 36 = .ok (.getfield 134, 3) := by decide +kernel
theorem dX12_quarrel_39 : decode cX12_quarrel 39 = .ok (.iload 4, 2) := by decide +kernel
theorem dX12_quarrel_41 : decode cX12_quarrel 41 = .ok (.baload, 1) := by decide +kernel
theorem dX12_quarrel_42 : decode cX12_quarrel 42 = .ok (.ifCond .ne 22, 3) := by decide +kernel
theorem dX12_quarrel_45 : decode cX12_quarrel 45 = .ok (.iload_n 3, 1) := by decide +kernel
theorem dX12_quarrel_46 : decode cX12_quarrel 46 = .ok (.ifCond .eq 15, 3) := by decide +kernel
theorem dX12_quarrel_49 : decode cX12_quarrel 49 = .ok (.iload 4, 2) := by decide +kernel
theorem dX12_quarrel_51 : decode cX12_quarrel 51 = .ok (.invokestatic 440, 3) := by decide +kernel
theorem dX12_quarrel_54 : decode cX12_quarrel 54 = .ok (.iload_n 3, 1) := by decide +kernel
theorem dX12_quarrel_55 : decode cX12_quarrel 55 = .ok (.invokestatic 440, 3) := by decide +kernel
theorem dX12_quarrel_58 : decode cX12_quarrel 58 = .ok (.if_icmp .ge 6, 3) := by decide +kernel
theorem dX12_quarrel_61 : decode cX12_quarrel 61 = .ok (.iload 4, 2) := by decide +kernel
theorem dX12_quarrel_63 : decode cX12_quarrel 63 = .ok (.istore_n 3, 1) := by decide +kernel
theorem dX12_quarrel_64 : decode cX12_quarrel 64 = .ok (.iinc 4 1, 3) := by decide +kernel
theorem dX12_quarrel_67 : decode cX12_quarrel 67 = .ok (.goto (-38), 3) := by decide +kernel
theorem dX12_quarrel_70 : decode cX12_quarrel 70 = .ok (.iload_n 3, 1) := by decide +kernel
theorem dX12_quarrel_71 : decode cX12_quarrel 71 = .ok (.ireturn, 1) := by decide +kernel
theorem dX12_doubt_0 : decode cX12_doubt 0 = .ok (.aload_n 0, 1) := by decide +kernel
theorem dX12_doubt_1 : decode cX12_doubt 1 = .ok (.iload_n 1, 1) := by decide +kernel
theorem dX12_doubt_2 : decode cX12_doubt 2 = .ok (.invokevirtual 347, 3) := by decide +kernel
theorem dX12_doubt_5 : decode cX12_doubt 5 = .ok (.ifCond .eq 12, 3) := by decide +kernel
theorem dX12_doubt_8 : decode cX12_doubt 8 = .ok (.iload_n 2, 1) := by decide +kernel
theorem dX12_doubt_9 : decode cX12_doubt 9 = .ok (.iconst 0, 1) := by decide +kernel
theorem dX12_doubt_10 : decode cX12_doubt 10 = .ok (.iconst 1, 1) := by decide +kernel
theorem dX12_doubt_11 : decode cX12_doubt 11 = .ok (.invokestatic 189, 3) := by decide +kernel
theorem dX12_doubt_14 : decode cX12_doubt 14 = .ok (.ifCond .ne 5, 3) := by decide +kernel
theorem dX12_doubt_17 : decode cX12_doubt 17 = .ok (.iconst (-1), 1) := by decide +kernel
theorem dX12_doubt_18 : decode cX12_doubt 18 = .ok (.ireturn, 1) := by decide +kernel
theorem dX12_doubt_19 : decode cX12_doubt 19 = .ok (.aload_n 0, 1) := by decide +kernel
theorem dX12_doubt_20 : decode cX12_doubt 20 = .ok (.iload_n 1, 1) := by decide +kernel
theorem dX12_doubt_21 : decode cX12_doubt 21 = .ok (.invokevirtual 437, 3) := by decide +kernel
theorem dX12_doubt_24 : decode cX12_doubt 24 = .ok (.iconst 1, 1) := by decide +kernel
theorem dX12_doubt_25 : decode cX12_doubt 25 = .ok (.aload_n 0, 1) := by decide +kernel
theorem dX12_doubt_26 : decode cX12_doubt 26 = .ok (.getfield 89, 3) := by decide +kernel
theorem dX12_doubt_29 : decode cX12_doubt 29 = .ok (.iload_n 1, 1) := by decide +kernel
theorem dX12_doubt_30 : decode cX12_doubt 30 = .ok (.iaload, 1) := by decide +kernel
theorem dX12_doubt_31 : decode cX12_doubt 31 = .ok (.ishl, 1) := by decide +kernel
theorem dX12_doubt_32 : decode cX12_doubt 32 = .ok (.istore_n 3, 1) := by decide +kernel
theorem dX12_doubt_33 : decode cX12_doubt 33 = .ok (.iload_n 3, 1) := by decide +kernel
theorem dX12_doubt_34 : decode cX12_doubt 34 = .ok (.iconst 1, 1) := by decide +kernel
theorem dX12_doubt_35 : decode cX12_doubt 35 = .ok (.isub, 1) := by decide +kernel
theorem dX12_doubt_36 : decode cX12_doubt 36 = .ok (.istore 4, 2) := by decide +kernel
theorem dX12_doubt_38 : decode cX12_doubt 38 = .ok (.iload_n 3, 1) := by decide +kernel
theorem dX12_doubt_39 : decode cX12_doubt 39 = .ok (.iconst 1, 1) := by decide +kernel
theorem dX12_doubt_40 : decode cX12_doubt 40 = .ok (.isub, 1) := by decide +kernel
theorem dX12_doubt_41 : decode cX12_doubt 41 = .ok (.istore 5, 2) := by decide +kernel
theorem dX12_doubt_43 : decode cX12_doubt 43 = .ok (.iload 5, 2) := by decide +kernel
theorem dX12_doubt_45 : decode cX12_doubt 45 = .ok (.ifCond .lt 40, 3) := by decide +kernel
theorem dX12_doubt_48 : decode cX12_doubt 48 = .ok (.aload_n 0, 1) := by decide +kernel
theorem dX12_doubt_49 : decode cX12_doubt 49 = .ok (.getfield 134, 3) := by decide +kernel
theorem dX12_doubt_52 : decode cX12_doubt 52 = .ok (.iload_n 3, 1) := by decide +kernel
theorem dX12_doubt_53 : decode cX12_doubt 53 = .ok (.iconst 1, 1) := by decide +kernel
theorem dX12_doubt_54 : decode cX12_doubt 54 = .ok (.isub, 1) := by decide +kernel
theorem dX12_doubt_55 : decode cX12_doubt 55 = .ok (.iload 5, 2) := by decide +kernel
theorem dX12_doubt_57 : decode cX12_doubt 57 = .ok (.isub, 1) := by decide +kernel
theorem dX12_doubt_58 : decode cX12_doubt 58 = .ok (.baload, 1) := by decide +kernel
theorem dX12_doubt_59 : decode cX12_doubt 59 = .ok (.ifCond .eq 20, 3) := by decide +kernel
theorem dX12_doubt_62 : decode cX12_doubt 62 = .ok (.iload 5, 2) := by decide +kernel
theorem dX12_doubt_64 : decode cX12_doubt 64 = .ok (.invokestatic 440, 3) := by decide +kernel
theorem dX12_doubt_67 : decode cX12_doubt 67 = .ok (.iload 4, 2) := by decide +kernel
theorem dX12_doubt_69 : decode cX12_doubt 69 = .ok (.invokestatic 440, 3) := by decide +kernel
theorem dX12_doubt_72 : decode cX12_doubt 72 = .ok (.if_icmp .gt 7, 3) := by decide +kernel
theorem dX12_doubt_75 : decode cX12_doubt 75 = .ok (.iload 5, 2) := by decide +kernel
theorem dX12_doubt_77 : decode cX12_doubt 77 = .ok (.istore 4, 2) := by decide +kernel
theorem dX12_doubt_79 : decode cX12_doubt 79 = .ok (.iinc 5 (-1), 3) := by decide +kernel
theorem dX12_doubt_82 : decode cX12_doubt 82 = .ok (.goto (-39), 3) := by decide +kernel
theorem dX12_doubt_85 : decode cX12_doubt 85 = .ok (.iconst 0, 1) := by decide +kernel
theorem dX12_doubt_86 : decode cX12_doubt 86 = .ok (.istore 5, 2) := by decide +kernel
theorem dX12_doubt_88 : decode cX12_doubt 88 = .ok (.iconst 0, 1) := by decide +kernel
theorem dX12_doubt_89 : decode cX12_doubt 89 = .ok (.istore 6, 2) := by decide +kernel
theorem dX12_doubt_91 : decode cX12_doubt 91 = .ok (.iload 6, 2) := by decide +kernel
theorem dX12_doubt_93 : decode cX12_doubt 93 = .ok (.iload_n 3, 1) := by decide +kernel
theorem dX12_doubt_94 : decode cX12_doubt 94 = .ok (.if_icmp .ge 46, 3) := by decide +kernel
theorem dX12_doubt_97 : decode cX12_doubt 97 = .ok (.iload 5, 2) := by decide +kernel
theorem dX12_doubt_99 : decode cX12_doubt 99 = .ok (.aload_n 0, 1) := by decide +kernel
theorem dX12_doubt_100 : decode cX12_doubt 100 = .ok (.getfield 134, 3) := by decide +kernel
theorem dX12_doubt_103 : decode cX12_doubt 103 = .ok (.iload_n 3, 1) := by decide +kernel
theorem dX12_doubt_104 : decode cX12_doubt 104 = .ok (.iconst 1, 1) := by decide +kernel
theorem dX12_doubt_105 : decode cX12_doubt 105 = .ok (.isub, 1) := by decide +kernel
theorem dX12_doubt_106 : decode cX12_doubt 106 = .ok (.iload 6, 2) := by decide +kernel
theorem dX12_doubt_108 : decode cX12_doubt 108 = .ok (.isub, 1) := by decide +kernel
theorem dX12_doubt_109 : decode cX12_doubt 109 = .ok (.baload, 1) := by decide +kernel
theorem dX12_doubt_110 : decode cX12_doubt 110 = .ok (.ifCond .eq 20, 3) := by decide +kernel
theorem dX12_doubt_113 : decode cX12_doubt 113 = .ok (.iload 6, 2) := by decide +kernel
theorem dX12_doubt_115 : decode cX12_doubt 115 = .ok (.invokestatic 440, 3) := by decide +kernel
theorem dX12_doubt_118 : decode cX12_doubt 118 = .ok (.iload 4, 2) := by decide +kernel
theorem dX12_doubt_120 : decode cX12_doubt 120 = .ok (.invokestatic 440, 3) := by decide +kernel
theorem dX12_doubt_123 : decode cX12_doubt 123 = .ok (.if_icmp .ne 7, 3) := by decide +kernel
theorem dX12_doubt_126 : decode cX12_doubt 126 = .ok (.iconst 1, 1) := by decide +kernel
theorem dX12_doubt_127 : decode cX12_doubt 127 = .ok (.goto 4, 3) := by decide +kernel
theorem dX12_doubt_130 : decode cX12_doubt 130 = .ok (.iconst 0, 1) := by decide +kernel
theorem dX12_doubt_131 : decode cX12_doubt 131 = .ok (.iadd, 1) := by decide +kernel
theorem dX12_doubt_132 : decode cX12_doubt 132 = .ok (.istore 5, 2) := by decide +kernel
theorem dX12_doubt_134 : decode cX12_doubt 134 = .ok (.iinc 6 1, 3) := by decide +kernel
theorem dX12_doubt_137 : decode cX12_doubt 137 = .ok (.goto (-46), 3) := by decide +kernel
theorem dX12_doubt_140 : decode cX12_doubt 140 = .ok (.iload_n 2, 1) := by decide +kernel
theorem dX12_doubt_141 : decode cX12_doubt 141 = .ok (.ifCond .ne 8, 3) := by decide +kernel
theorem dX12_doubt_144 : decode cX12_doubt 144 = .ok (.iload 4, 2) := by decide +kernel
theorem dX12_doubt_146 : decode cX12_doubt 146 = .ok (.goto 5, 3) := by decide +kernel
theorem dX12_doubt_149 : decode cX12_doubt 149 = .ok (.iload 5, 2) := by decide +kernel
theorem dX12_doubt_151 : decode cX12_doubt 151 = .ok (.ireturn, 1) := by decide +kernel
theorem dX12_isOwnPost_0 : decode cX12_isOwnPost 0 = .ok (.bipush 12, 2) := by decide +kernel
theorem dX12_isOwnPost_2 : decode cX12_isOwnPost 2 = .ok (.iload_n 1, 1) := by decide +kernel
theorem dX12_isOwnPost_3 : decode cX12_isOwnPost 3 = .ok (.imul, 1) := by decide +kernel
theorem dX12_isOwnPost_4 : decode cX12_isOwnPost 4 = .ok (.istore 4, 2) := by decide +kernel
theorem dX12_isOwnPost_6 : decode cX12_isOwnPost 6 = .ok (.iload 4, 2) := by decide +kernel
theorem dX12_isOwnPost_8 : decode cX12_isOwnPost 8 = .ok (.bipush 12, 2) := by decide +kernel
theorem dX12_isOwnPost_10 : decode cX12_isOwnPost 10 = .ok (.iload_n 1, 1) := by decide +kernel
theorem dX12_isOwnPost_11 : decode cX12_isOwnPost 11 = .ok (.imul, 1) := by decide +kernel
theorem dX12_isOwnPost_12 : decode cX12_isOwnPost 12 = .ok (.aload_n 0, 1) := by decide +kernel
theorem dX12_isOwnPost_13 : decode cX12_isOwnPost 13 = .ok (.getfield 89, 3) := by decide +kernel
theorem dX12_isOwnPost_16 : decode cX12_isOwnPost 16 = .ok (.iload_n 1, 1) := by decide +kernel
theorem dX12_isOwnPost_17 : decode cX12_isOwnPost 17 = .ok (.iaload, 1) := by decide +kernel
theorem dX12_isOwnPost_18 : decode cX12_isOwnPost 18 = .ok (.iadd, 1) := by decide +kernel
theorem dX12_isOwnPost_19 : decode cX12_isOwnPost 19 = .ok (.if_icmp .ge 104, 3) := by decide +kernel
theorem dX12_isOwnPost_22 : decode cX12_isOwnPost 22 = .ok (.aload_n 0, 1) := by decide +kernel
theorem dX12_isOwnPost_23 : decode cX12_isOwnPost 23 = .ok (.getfield 92, 3) := by decide +kernel
theorem dX12_isOwnPost_26 : decode cX12_isOwnPost 26 = .ok (.iload 4, 2) := by decide +kernel
theorem dX12_isOwnPost_28 : decode cX12_isOwnPost 28 = .ok (.iaload, 1) := by decide +kernel
theorem dX12_isOwnPost_29 : decode cX12_isOwnPost 29 = .ok (.bipush 8, 2) := by decide +kernel
theorem dX12_isOwnPost_31 : decode cX12_isOwnPost 31 = .ok (.if_icmp .ge 6, 3) := by decide +kernel
theorem dX12_isOwnPost_34 : decode cX12_isOwnPost 34 = .ok (.goto 83, 3) := by decide +kernel
theorem dX12_isOwnPost_37 : decode cX12_isOwnPost 37 = .ok (.bipush 10, 2) := by decide +kernel
theorem dX12_isOwnPost_39 : decode cX12_isOwnPost 39 = .ok (.aload_n 0, 1) := by decide +kernel
theorem dX12_isOwnPost_40 : decode cX12_isOwnPost 40 = .ok (.getfield 312, 3) := by decide +kernel
theorem dX12_isOwnPost_43 : decode cX12_isOwnPost 43 = .ok (.imul, 1) := by decide +kernel
theorem dX12_isOwnPost_44 : decode cX12_isOwnPost 44 = .ok (.aload_n 0, 1) := by decide +kernel
theorem dX12_isOwnPost_45 : decode cX12_isOwnPost 45 = .ok (.getfield 95, 3) := by decide +kernel
theorem dX12_isOwnPost_48 : decode cX12_isOwnPost 48 = .ok (.iload 4, 2) := by decide +kernel
theorem dX12_isOwnPost_50 : decode cX12_isOwnPost 50 = .ok (.iaload, 1) := by decide +kernel
theorem dX12_isOwnPost_51 : decode cX12_isOwnPost 51 = .ok (.iadd, 1) := by decide +kernel
theorem dX12_isOwnPost_52 : decode cX12_isOwnPost 52 = .ok (.istore 5, 2) := by decide +kernel
theorem dX12_isOwnPost_54 : decode cX12_isOwnPost 54 = .ok (.bipush 10, 2) := by decide +kernel
theorem dX12_isOwnPost_56 : decode cX12_isOwnPost 56 = .ok (.aload_n 0, 1) := by decide +kernel
theorem dX12_isOwnPost_57 : decode cX12_isOwnPost 57 = .ok (.getfield 312, 3) := by decide +kernel
theorem dX12_isOwnPost_60 : decode cX12_isOwnPost 60 = .ok (.imul, 1) := by decide +kernel
theorem dX12_isOwnPost_61 : decode cX12_isOwnPost 61 = .ok (.aload_n 0, 1) := by decide +kernel
theorem dX12_isOwnPost_62 : decode cX12_isOwnPost 62 = .ok (.getfield 98, 3) := by decide +kernel
theorem dX12_isOwnPost_65 : decode cX12_isOwnPost 65 = .ok (.iload 4, 2) := by decide +kernel
theorem dX12_isOwnPost_67 : decode cX12_isOwnPost 67 = .ok (.iaload, 1) := by decide +kernel
theorem dX12_isOwnPost_68 : decode cX12_isOwnPost 68 = .ok (.iadd, 1) := by decide +kernel
theorem dX12_isOwnPost_69 : decode cX12_isOwnPost 69 = .ok (.istore 6, 2) := by decide +kernel
theorem dX12_isOwnPost_71 : decode cX12_isOwnPost 71 = .ok (.aload_n 0, 1) := by decide +kernel
theorem dX12_isOwnPost_72 : decode cX12_isOwnPost 72 = .ok (.getfield 59, 3) := by decide +kernel
theorem dX12_isOwnPost_75 : decode cX12_isOwnPost 75 = .ok (.iload 5, 2) := by decide +kernel
theorem dX12_isOwnPost_77 : decode cX12_isOwnPost 77 = .ok (.iaload, 1) := by decide +kernel
theorem dX12_isOwnPost_78 : decode cX12_isOwnPost 78 = .ok (.iload_n 2, 1) := by decide +kernel
theorem dX12_isOwnPost_79 : decode cX12_isOwnPost 79 = .ok (.if_icmp .ne 14, 3) := by decide +kernel
theorem dX12_isOwnPost_82 : decode cX12_isOwnPost 82 = .ok (.aload_n 0, 1) := by decide +kernel
theorem dX12_isOwnPost_83 : decode cX12_isOwnPost 83 = .ok (.getfield 62, 3) := by decide +kernel
theorem dX12_isOwnPost_86 : decode cX12_isOwnPost 86 = .ok (.iload 5, 2) := by decide +kernel
theorem dX12_isOwnPost_88 : decode cX12_isOwnPost 88 = .ok (.iaload, 1) := by decide +kernel
theorem dX12_isOwnPost_89 : decode cX12_isOwnPost 89 = .ok (.iload_n 3, 1) := by decide +kernel
theorem dX12_isOwnPost_90 : decode cX12_isOwnPost 90 = .ok (.if_icmp .eq 25, 3) := by decide +kernel
theorem dX12_isOwnPost_93 : decode cX12_isOwnPost 93 = .ok (.aload_n 0, 1) := by decide +kernel
theorem dX12_isOwnPost_94 : decode cX12_isOwnPost 94 = .ok (.getfield 59, 3) := by decide +kernel
theorem dX12_isOwnPost_97 : decode cX12_isOwnPost 97 = .ok (.iload 6, 2) := by decide +kernel
theorem dX12_isOwnPost_99 : decode cX12_isOwnPost 99 = .ok (.iaload, 1) := by decide +kernel
theorem dX12_isOwnPost_100 : decode cX12_isOwnPost 100 = .ok (.iload_n 2, 1) := by decide +kernel
theorem dX12_isOwnPost_101 : decode cX12_isOwnPost 101 = .ok (.if_icmp .ne 16, 3) := by decide +kernel
theorem dX12_isOwnPost_104 : decode cX12_isOwnPost 104 = .ok (.aload_n 0, 1) := by decide +kernel
theorem dX12_isOwnPost_105 : decode cX12_isOwnPost 105 = .ok (.getfield 62, 3) := by decide +kernel
theorem dX12_isOwnPost_108 : decode cX12_isOwnPost 108 = .ok (.iload 6, 2) := by decide +kernel
theorem dX12_isOwnPost_110 : decode cX12_isOwnPost 110 = .ok (.iaload, 1) := by decide +kernel
theorem dX12_isOwnPost_111 : decode cX12_isOwnPost 111 = .ok (.iload_n 3, 1) := by decide +kernel
theorem dX12_isOwnPost_112 : decode cX12_isOwnPost 112 = .ok (.if_icmp .ne 5, 3) := by decide +kernel
theorem dX12_isOwnPost_115 : decode cX12_isOwnPost 115 = .ok (.iconst 1, 1) := by decide +kernel
theorem dX12_isOwnPost_116 : decode cX12_isOwnPost 116 = .ok (.ireturn, 1) := by decide +kernel
theorem dX12_isOwnPost_117 : decode cX12_isOwnPost 117 = .ok (.iinc 4 1, 3) := by decide +kernel
theorem dX12_isOwnPost_120 : decode cX12_isOwnPost 120 = .ok (.goto (-114), 3) := by decide +kernel
theorem dX12_isOwnPost_123 : decode cX12_isOwnPost 123 = .ok (.iconst 0, 1) := by decide +kernel
theorem dX12_isOwnPost_124 : decode cX12_isOwnPost 124 = .ok (.ireturn, 1) := by decide +kernel
theorem dX12_isSo_0 : decode cX12_isSo 0 = .ok (.bipush 10, 2) := by decide +kernel
theorem dX12_isSo_2 : decode cX12_isSo 2 = .ok (.aload_n 0, 1) := by decide +kernel
theorem dX12_isSo_3 : decode cX12_isSo 3 = .ok (.getfield 312, 3) := by decide +kernel
theorem dX12_isSo_6 : decode cX12_isSo 6 = .ok (.imul, 1) := by decide +kernel
theorem dX12_isSo_7 : decode cX12_isSo 7 = .ok (.aload_n 0, 1) := by decide +kernel
theorem dX12_isSo_8 : decode cX12_isSo 8 = .ok (.getfield 95, 3) := by decide +kernel
theorem dX12_isSo_11 : decode cX12_isSo 11 = .ok (.iload_n 1, 1) := by decide +kernel
theorem dX12_isSo_12 : decode cX12_isSo 12 = .ok (.iaload, 1) := by decide +kernel
theorem dX12_isSo_13 : decode cX12_isSo 13 = .ok (.iadd, 1) := by decide +kernel
theorem dX12_isSo_14 : decode cX12_isSo 14 = .ok (.istore 5, 2) := by decide +kernel
theorem dX12_isSo_16 : decode cX12_isSo 16 = .ok (.bipush 10, 2) := by decide +kernel
theorem dX12_isSo_18 : decode cX12_isSo 18 = .ok (.aload_n 0, 1) := by decide +kernel
theorem dX12_isSo_19 : decode cX12_isSo 19 = .ok (.getfield 312, 3) := by decide +kernel
theorem dX12_isSo_22 : decode cX12_isSo 22 = .ok (.imul, 1) := by decide +kernel
theorem dX12_isSo_23 : decode cX12_isSo 23 = .ok (.aload_n 0, 1) := by decide +kernel
theorem dX12_isSo_24 : decode cX12_isSo 24 = .ok (.getfield 98, 3) := by decide +kernel
theorem dX12_isSo_27 : decode cX12_isSo 27 = .ok (.iload_n 1, 1) := by decide +kernel
theorem dX12_isSo_28 : decode cX12_isSo 28 = .ok (.iaload, 1) := by decide +kernel
theorem dX12_isSo_29 : decode cX12_isSo 29 = .ok (.iadd, 1) := by decide +kernel
theorem dX12_isSo_30 : decode cX12_isSo 30 = .ok (.istore 6, 2) := by decide +kernel
theorem dX12_isSo_32 : decode cX12_isSo 32 = .ok (.aload_n 0, 1) := by decide +kernel
theorem dX12_isSo_33 : decode cX12_isSo 33 = .ok (.getfield 59, 3) := by decide +kernel
theorem dX12_isSo_36 : decode cX12_isSo 36 = .ok (.iload 5, 2) := by decide +kernel
theorem dX12_isSo_38 : decode cX12_isSo 38 = .ok (.iaload, 1) := by decide +kernel
theorem dX12_isSo_39 : decode cX12_isSo 39 = .ok (.iload_n 2, 1) := by decide +kernel
theorem dX12_isSo_40 : decode cX12_isSo 40 = .ok (.isub, 1) := by decide +kernel
theorem dX12_isSo_41 : decode cX12_isSo 41 = .ok (.istore 7, 2) := by decide +kernel
theorem dX12_isSo_43 : decode cX12_isSo 43 = .ok (.aload_n 0, 1) := by decide +kernel
theorem dX12_isSo_44 : decode cX12_isSo 44 = .ok (.getfield 62, 3) := by decide +kernel
theorem dX12_isSo_47 : decode cX12_isSo 47 = .ok (.iload 5, 2) := by decide +kernel
theorem dX12_isSo_49 : decode cX12_isSo 49 = .ok (.iaload, 1) := by decide +kernel
theorem dX12_isSo_50 : decode cX12_isSo 50 = .ok (.iload_n 3, 1) := by decide +kernel
theorem dX12_isSo_51 : decode cX12_isSo 51 = .ok (.isub, 1) := by decide +kernel
theorem dX12_isSo_52 : decode cX12_isSo 52 = .ok (.istore 8, 2) := by decide +kernel
theorem dX12_isSo_54 : decode cX12_isSo 54 = .ok (.aload_n 0, 1) := by decide +kernel
theorem dX12_isSo_55 : decode cX12_isSo 55 = .ok (.getfield 59, 3) := by decide +kernel
theorem dX12_isSo_58 : decode cX12_isSo 58 = .ok (.iload 6, 2) := by decide +kernel
theorem dX12_isSo_60 : decode cX12_isSo 60 = .ok (.iaload, 1) := by decide +kernel
theorem dX12_isSo_61 : decode cX12_isSo 61 = .ok (.iload_n 2, 1) := by decide +kernel
theorem dX12_isSo_62 : decode cX12_isSo 62 = .ok (.isub, 1) := by decide +kernel
theorem dX12_isSo_63 : decode cX12_isSo 63 = .ok (.istore 9, 2) := by decide +kernel
theorem dX12_isSo_65 : decode cX12_isSo 65 = .ok (.aload_n 0, 1) := by decide +kernel
theorem dX12_isSo_66 : decode cX12_isSo 66 = .ok (.getfield 62, 3) := by decide +kernel
theorem dX12_isSo_69 : decode cX12_isSo 69 = .ok (.iload 6, 2) := by decide +kernel
theorem dX12_isSo_71 : decode cX12_isSo 71 = .ok (.iaload, 1) := by decide +kernel
theorem dX12_isSo_72 : decode cX12_isSo 72 = .ok (.iload_n 3, 1) := by decide +kernel
theorem dX12_isSo_73 : decode cX12_isSo 73 = .ok (.isub, 1) := by decide +kernel
theorem dX12_isSo_74 : decode cX12_isSo 74 = .ok (.istore 10, 2) := by decide +kernel
theorem dX12_isSo_76 : decode cX12_isSo 76 = .ok (.iload 7, 2) := by decide +kernel
theorem dX12_isSo_78 : decode cX12_isSo 78 = .ok (.iload 10, 2) := by decide +kernel
theorem dX12_isSo_80 : decode cX12_isSo 80 = .ok (.imul, 1) := by decide +kernel
theorem dX12_isSo_81 : decode cX12_isSo 81 = .ok (.iload 8, 2) := by decide +kernel
theorem dX12_isSo_83 : decode cX12_isSo 83 = .ok (.iload 9, 2) := by decide +kernel
theorem dX12_isSo_85 : decode cX12_isSo 85 = .ok (.imul, 1) := by decide +kernel
theorem dX12_isSo_86 : decode cX12_isSo 86 = .ok (.isub, 1) := by decide +kernel
theorem dX12_isSo_87 : decode cX12_isSo 87 = .ok (.istore 11, 2) := by decide +kernel
theorem dX12_isSo_89 : decode cX12_isSo 89 = .ok (.aload_n 0, 1) := by decide +kernel
theorem dX12_isSo_90 : decode cX12_isSo 90 = .ok (.getfield 92, 3) := by decide +kernel
theorem dX12_isSo_93 : decode cX12_isSo 93 = .ok (.iload_n 1, 1) := by decide +kernel
theorem dX12_isSo_94 : decode cX12_isSo 94 = .ok (.iaload, 1) := by decide +kernel
theorem dX12_isSo_95 : decode cX12_isSo 95 = .ok (.bipush 9, 2) := by decide +kernel
theorem dX12_isSo_97 : decode cX12_isSo 97 = .ok (.if_icmp .ne 32, 3) := by decide +kernel
theorem dX12_isSo_100 : decode cX12_isSo 100 = .ok (.iload 4, 2) := by decide +kernel
theorem dX12_isSo_102 : decode cX12_isSo 102 = .ok (.ifCond .eq 16, 3) := by decide +kernel
theorem dX12_isSo_105 : decode cX12_isSo 105 = .ok (.iload 11, 2) := by decide +kernel
theorem dX12_isSo_107 : decode cX12_isSo 107 = .ok (.ifCond .le 7, 3) := by decide +kernel
theorem dX12_isSo_110 : decode cX12_isSo 110 = .ok (.iconst 1, 1) := by decide +kernel
theorem dX12_isSo_111 : decode cX12_isSo 111 = .ok (.goto 17, 3) := by decide +kernel
theorem dX12_isSo_114 : decode cX12_isSo 114 = .ok (.iconst 0, 1) := by decide +kernel
theorem dX12_isSo_115 : decode cX12_isSo 115 = .ok (.goto 13, 3) := by decide +kernel
theorem dX12_isSo_118 : decode cX12_isSo 118 = .ok (.iload 11, 2) := by decide +kernel
theorem dX12_isSo_120 : decode cX12_isSo 120 = .ok (.ifCond .ge 7, 3) := by decide +kernel
theorem dX12_isSo_123 : decode cX12_isSo 123 = .ok (.iconst 1, 1) := by decide +kernel
theorem dX12_isSo_124 : decode cX12_isSo 124 = .ok (.goto 4, 3) := by decide +kernel
theorem dX12_isSo_127 : decode cX12_isSo 127 = .ok (.iconst 0, 1) := by decide +kernel
theorem dX12_isSo_128 : decode cX12_isSo 128 = .ok (.ireturn, 1) := by decide +kernel
theorem dX12_isSo_129 : decode cX12_isSo 129 = .ok (.iload 11, 2) := by decide +kernel
theorem dX12_isSo_131 : decode cX12_isSo 131 = .ok (.ifCond .ne 46, 3) := by decide +kernel
theorem dX12_isSo_134 : decode cX12_isSo 134 = .ok (.iload 7, 2) := by decide +kernel
theorem dX12_isSo_136 : decode cX12_isSo 136 = .ok (.iload 9, 2) := by decide +kernel
theorem dX12_isSo_138 : decode cX12_isSo 138 = .ok (.imul, 1) := by decide +kernel
theorem dX12_isSo_139 : decode cX12_isSo 139 = .ok (.iload 8, 2) := by decide +kernel
theorem dX12_isSo_141 : decode cX12_isSo 141 = .ok (.iload 10, 2) := by decide +kernel
theorem dX12_isSo_143 : decode cX12_isSo 143 = .ok (.imul, 1) := by decide +kernel
theorem dX12_isSo_144 : decode cX12_isSo 144 = .ok (.iadd, 1) := by decide +kernel
theorem dX12_isSo_145 : decode cX12_isSo 145 = .ok (.ifCond .le 32, 3) := by decide +kernel
theorem dX12_isSo_148 : decode cX12_isSo 148 = .ok (.iload 7, 2) := by decide +kernel
theorem dX12_isSo_150 : decode cX12_isSo 150 = .ok (.iload 7, 2) := by decide +kernel
theorem dX12_isSo_152 : decode cX12_isSo 152 = .ok (.imul, 1) := by decide +kernel
theorem dX12_isSo_153 : decode cX12_isSo 153 = .ok (.iload 8, 2) := by decide +kernel
theorem dX12_isSo_155 : decode cX12_isSo 155 = .ok (.iload 8, 2) := by decide +kernel
theorem dX12_isSo_157 : decode cX12_isSo 157 = .ok (.imul, 1) := by decide +kernel
theorem dX12_isSo_158 : decode cX12_isSo 158 = .ok (.iadd, 1) := by decide +kernel
theorem dX12_isSo_159 : decode cX12_isSo 159 = .ok (.iload 9, 2) := by decide +kernel
theorem dX12_isSo_161 : decode cX12_isSo 161 = .ok (.iload 9, 2) := by decide +kernel
theorem dX12_isSo_163 : decode cX12_isSo 163 = .ok (.imul, 1) := by decide +kernel
theorem dX12_isSo_164 : decode cX12_isSo 164 = .ok (.iload 10, 2) := by decide +kernel
theorem dX12_isSo_166 : decode cX12_isSo 166 = .ok (.iload 10, 2) := by decide +kernel
theorem dX12_isSo_168 : decode cX12_isSo 168 = .ok (.imul, 1) := by decide +kernel
theorem dX12_isSo_169 : decode cX12_isSo 169 = .ok (.iadd, 1) := by decide +kernel
theorem dX12_isSo_170 : decode cX12_isSo 170 = .ok (.if_icmp .ge 7, 3) := by decide +kernel
theorem dX12_isSo_173 : decode cX12_isSo 173 = .ok (.iconst 1, 1) := by decide +kernel
theorem dX12_isSo_174 : decode cX12_isSo 174 = .ok (.goto 4, 3) := by decide +kernel
theorem dX12_isSo_177 : decode cX12_isSo 177 = .ok (.iconst 0, 1) := by decide +kernel
theorem dX12_isSo_178 : decode cX12_isSo 178 = .ok (.ireturn, 1) := by decide +kernel
theorem dX12_couldStand_0 : decode cX12_couldStand 0 = .ok (.aload_n 0, 1) := by decide +kernel
theorem dX12_couldStand_1 : decode cX12_couldStand 1 = .ok (.iload_n 1, 1) := by decide +kernel
theorem dX12_couldStand_2 : decode cX12_couldStand 2 = .ok (.iload_n 2, 1) := by decide +kernel
theorem dX12_couldStand_3 : decode cX12_couldStand 3 = .ok (.iload_n 3, 1) := by decide +kernel
theorem dX12_couldStand_4 : decode cX12_couldStand 4 = .ok (.invokevirtual 443, 3) := by decide +kernel
theorem dX12_couldStand_7 : decode cX12_couldStand 7 = .ok (.ifCond .eq 5, 3) := by decide +kernel
theorem dX12_couldStand_10 : decode cX12_couldStand 10 = .ok (.iconst 0, 1) := by decide +kernel
theorem dX12_couldStand_11 : decode cX12_couldStand 11 = .ok (.ireturn, 1) := by decide +kernel
theorem dX12_couldStand_12 : decode cX12_couldStand 12 = .ok (.bipush 12, 2) := by decide +kernel
theorem dX12_couldStand_14 : decode cX12_couldStand 14 = .ok (.iload_n 1, 1) := by decide +kernel
theorem dX12_couldStand_15 : decode cX12_couldStand 15 = .ok (.imul, 1) := by decide +kernel
theorem dX12_couldStand_16 : decode cX12_couldStand 16 = .ok (.istore 5, 2) := by decide +kernel
theorem dX12_couldStand_18 : decode cX12_couldStand 18 = .ok (.iload 5, 2) := by decide +kernel
theorem dX12_couldStand_20 : decode cX12_couldStand 20 = .ok (.bipush 12, 2) := by decide +kernel
theorem dX12_couldStand_22 : decode cX12_couldStand 22 = .ok (.iload_n 1, 1) := by decide +kernel
theorem dX12_couldStand_23 : decode cX12_couldStand 23 = .ok (.imul, 1) := by decide +kernel
theorem dX12_couldStand_24 : decode cX12_couldStand 24 = .ok (.aload_n 0, 1) := by decide +kernel
theorem dX12_couldStand_25 : decode cX12_couldStand 25 = .ok (.getfield 89, 3) := by decide +kernel
theorem dX12_couldStand_28 : decode cX12_couldStand 28 = .ok (.iload_n 1, 1) := by decide +kernel
theorem dX12_couldStand_29 : decode cX12_couldStand 29 = .ok (.iaload, 1) := by decide +kernel
theorem dX12_couldStand_30 : decode cX12_couldStand 30 = .ok (.iadd, 1) := by decide +kernel
theorem dX12_couldStand_31 : decode cX12_couldStand 31 = .ok (.if_icmp .ge 36, 3) := by decide +kernel
theorem dX12_couldStand_34 : decode cX12_couldStand 34 = .ok (.aload_n 0, 1) := by decide +kernel
theorem dX12_couldStand_35 : decode cX12_couldStand 35 = .ok (.getfield 92, 3) := by decide +kernel
theorem dX12_couldStand_38 : decode cX12_couldStand 38 = .ok (.iload 5, 2) := by decide +kernel
theorem dX12_couldStand_40 : decode cX12_couldStand 40 = .ok (.iaload, 1) := by decide +kernel
theorem dX12_couldStand_41 : decode cX12_couldStand 41 = .ok (.bipush 8, 2) := by decide +kernel
theorem dX12_couldStand_43 : decode cX12_couldStand 43 = .ok (.if_icmp .lt 18, 3) := by decide +kernel
theorem dX12_couldStand_46 : decode cX12_couldStand 46 = .ok (.aload_n 0, 1) := by decide +kernel
theorem dX12_couldStand_47 : decode cX12_couldStand 47 = .ok (.iload 5, 2) := by decide +kernel
theorem dX12_couldStand_49 : decode cX12_couldStand 49 = .ok (.iload_n 2, 1) := by decide +kernel
theorem dX12_couldStand_50 : decode cX12_couldStand 50 = .ok (.iload_n 3, 1) := by decide +kernel
theorem dX12_couldStand_51 : decode cX12_couldStand 51 = .ok (.iload 4, 2) := by decide +kernel
theorem dX12_couldStand_53 : decode cX12_couldStand 53 = .ok (.invokevirtual 446, 3) := by decide +kernel
theorem dX12_couldStand_56 : decode cX12_couldStand 56 = .ok (.ifCond .ne 5, 3) := by decide +kernel
theorem dX12_couldStand_59 : decode cX12_couldStand 59 = .ok (.iconst 0, 1) := by decide +kernel
theorem dX12_couldStand_60 : decode cX12_couldStand 60 = .ok (.ireturn, 1) := by decide +kernel
theorem dX12_couldStand_61 : decode cX12_couldStand 61 = .ok (.iinc 5 1, 3) := by decide +kernel
theorem dX12_couldStand_64 : decode cX12_couldStand 64 = .ok (.goto (-46), 3) := by decide +kernel
theorem dX12_couldStand_67 : decode cX12_couldStand 67 = .ok (.iconst 1, 1) := by decide +kernel
theorem dX12_couldStand_68 : decode cX12_couldStand 68 = .ok (.ireturn, 1) := by decide +kernel
theorem dX12_stood_0 : decode cX12_stood 0 = .ok (.aload_n 0, 1) := by decide +kernel
theorem dX12_stood_1 : decode cX12_stood 1 = .ok (.iload_n 1, 1) := by decide +kernel
theorem dX12_stood_2 : decode cX12_stood 2 = .ok (.invokevirtual 347, 3) := by decide +kernel
theorem dX12_stood_5 : decode cX12_stood 5 = .ok (.ifCond .eq 8, 3) := by decide +kernel
theorem dX12_stood_8 : decode cX12_stood 8 = .ok (.iload_n 3, 1) := by decide +kernel
theorem dX12_stood_9 : decode cX12_stood 9 = .ok (.iconst (-1), 1) := by decide +kernel
theorem dX12_stood_10 : decode cX12_stood 10 = .ok (.if_icmp .ge 5, 3) := by decide +kernel
theorem dX12_stood_13 : decode cX12_stood 13 = .ok (.iconst (-1), 1) := by decide +kernel
theorem dX12_stood_14 : decode cX12_stood 14 = .ok (.ireturn, 1) := by decide +kernel
theorem dX12_stood_15 : decode cX12_stood 15 = .ok (.iconst 0, 1) := by decide +kernel
theorem dX12_stood_16 : decode cX12_stood 16 = .ok (.istore 4, 2) := by decide +kernel
theorem dX12_stood_18 : decode cX12_stood 18 = .ok (.iconst 0, 1) := by decide +kernel
theorem dX12_stood_19 : decode cX12_stood 19 = .ok (.istore 5, 2) := by decide +kernel
theorem dX12_stood_21 : decode cX12_stood 21 = .ok (.iload 5, 2) := by decide +kernel
theorem dX12_stood_23 : decode cX12_stood 23 = .ok (.sipush 1024, 3) := by decide +kernel
theorem dX12_stood_26 : decode cX12_stood 26 = .ok (.if_icmp .ge 43, 3) := by decide +kernel
theorem dX12_stood_29 : decode cX12_stood 29 = .ok (.aload_n 0, 1) := by decide +kernel
theorem dX12_stood_30 : decode cX12_stood 30 = .ok (.iload_n 1, 1) := by decide +kernel
theorem dX12_stood_31 : decode cX12_stood 31 = .ok (.iload 5, 2) := by decide +kernel
theorem dX12_stood_33 : decode cX12_stood 33 = .ok (.bipush 32, 2) := by decide +kernel
theorem dX12_stood_35 : decode cX12_stood 35 = .ok (.irem, 1) := by decide +kernel
theorem dX12_stood_36 : decode cX12_stood 36 = .ok (.iload 5, 2) := by decide +kernel
theorem dX12_stood_38 : decode cX12_stood 38 = .ok (.bipush 32, 2) := by decide +kernel
theorem dX12_stood_40 : decode cX12_stood 40 = .ok (.idiv, 1) := by decide +kernel
theorem dX12_stood_41 : decode cX12_stood 41 = .ok (.iload_n 2, 1) := by decide +kernel
theorem dX12_stood_42 : decode cX12_stood 42 = .ok (.invokevirtual 450, 3) := by decide +kernel
theorem dX12_stood_45 : decode cX12_stood 45 = .ok (.ifCond .ne 6, 3) := by decide +kernel
theorem dX12_stood_48 : decode cX12_stood 48 = .ok (.goto 15, 3) := by decide +kernel
theorem dX12_stood_51 : decode cX12_stood 51 = .ok (.iload 4, 2) := by decide +kernel
theorem dX12_stood_53 : decode cX12_stood 53 = .ok (.iload_n 3, 1) := by decide +kernel
theorem dX12_stood_54 : decode cX12_stood 54 = .ok (.if_icmp .ne 6, 3) := by decide +kernel
theorem dX12_stood_57 : decode cX12_stood 57 = .ok (.iload 5, 2) := by decide +kernel
theorem dX12_stood_59 : decode cX12_stood 59 = .ok (.ireturn, 1) := by decide +kernel
theorem dX12_stood_60 : decode cX12_stood 60 = .ok (.iinc 4 1, 3) := by decide +kernel
theorem dX12_stood_63 : decode cX12_stood 63 = .ok (.iinc 5 1, 3) := by decide +kernel
theorem dX12_stood_66 : decode cX12_stood 66 = .ok (.goto (-45), 3) := by decide +kernel
theorem dX12_stood_69 : decode cX12_stood 69 = .ok (.iload_n 3, 1) := by decide +kernel
theorem dX12_stood_70 : decode cX12_stood 70 = .ok (.iconst (-1), 1) := by decide +kernel
theorem dX12_stood_71 : decode cX12_stood 71 = .ok (.if_icmp .ne 8, 3) := by decide +kernel
theorem dX12_stood_74 : decode cX12_stood 74 = .ok (.iload 4, 2) := by decide +kernel
theorem dX12_stood_76 : decode cX12_stood 76 = .ok (.goto 4, 3) := by decide +kernel
theorem dX12_stood_79 : decode cX12_stood 79 = .ok (.iconst (-1), 1) := by decide +kernel
theorem dX12_stood_80 : decode cX12_stood 80 = .ok (.ireturn, 1) := by decide +kernel
theorem dX12_lateBy_0 : decode cX12_lateBy 0 = .ok (.aload_n 0, 1) := by decide +kernel
theorem dX12_lateBy_1 : decode cX12_lateBy 1 = .ok (.iload_n 2, 1) := by decide +kernel
theorem dX12_lateBy_2 : decode cX12_lateBy 2 = .ok (.putfield 377, 3) := by decide +kernel
theorem dX12_lateBy_5 : decode cX12_lateBy 5 = .ok (.aload_n 0, 1) := by decide +kernel
theorem dX12_lateBy_6 : decode cX12_lateBy 6 = .ok (.iload_n 1, 1) := by decide +kernel
theorem dX12_lateBy_7 : decode cX12_lateBy 7 = .ok (.invokevirtual 408, 3) := by decide +kernel
theorem dX12_lateBy_10 : decode cX12_lateBy 10 = .ok (.aload_n 0, 1) := by decide +kernel
theorem dX12_lateBy_11 : decode cX12_lateBy 11 = .ok (.iconst 0, 1) := by decide +kernel
theorem dX12_lateBy_12 : decode cX12_lateBy 12 = .ok (.putfield 377, 3) := by decide +kernel
theorem dX12_lateBy_15 : decode cX12_lateBy 15 = .ok (.aload_n 0, 1) := by decide +kernel
theorem dX12_lateBy_16 : decode cX12_lateBy 16 = .ok (.invokevirtual 417, 3) := by decide +kernel
theorem dX12_lateBy_19 : decode cX12_lateBy 19 = .ok (.ireturn, 1) := by decide +kernel
theorem dX12_late_0 : decode cX12_late 0 = .ok (.aload_n 0, 1) := by decide +kernel
theorem dX12_late_1 : decode cX12_late 1 = .ok (.iload_n 1, 1) := by decide +kernel
theorem dX12_late_2 : decode cX12_late 2 = .ok (.invokevirtual 347, 3) := by decide +kernel
theorem dX12_late_5 : decode cX12_late 5 = .ok (.ifCond .eq 13, 3) := by decide +kernel
theorem dX12_late_8 : decode cX12_late 8 = .ok (.iload_n 2, 1) := by decide +kernel
theorem dX12_late_9 : decode cX12_late 9 = .ok (.iconst (-1), 1) := by decide +kernel
theorem dX12_late_10 : decode cX12_late 10 = .ok (.bipush 99, 2) := by decide +kernel
theorem dX12_late_12 : decode cX12_late 12 = .ok (.invokestatic 189, 3) := by decide +kernel
theorem dX12_late_15 : decode cX12_late 15 = .ok (.ifCond .ne 5, 3) := by decide +kernel
theorem dX12_late_18 : decode cX12_late 18 = .ok (.iconst (-1), 1) := by decide +kernel
theorem dX12_late_19 : decode cX12_late 19 = .ok (.ireturn, 1) := by decide +kernel
theorem dX12_late_20 : decode cX12_late 20 = .ok (.aload_n 0, 1) := by decide +kernel
theorem dX12_late_21 : decode cX12_late 21 = .ok (.iload_n 1, 1) := by decide +kernel
theorem dX12_late_22 : decode cX12_late 22 = .ok (.invokevirtual 411, 3) := by decide +kernel
theorem dX12_late_25 : decode cX12_late 25 = .ok (.iload_n 2, 1) := by decide +kernel
theorem dX12_late_26 : decode cX12_late 26 = .ok (.ifCond .lt 10, 3) := by decide +kernel
theorem dX12_late_29 : decode cX12_late 29 = .ok (.aload_n 0, 1) := by decide +kernel
theorem dX12_late_30 : decode cX12_late 30 = .ok (.iload_n 1, 1) := by decide +kernel
theorem dX12_late_31 : decode cX12_late 31 = .ok (.iload_n 2, 1) := by decide +kernel
theorem dX12_late_32 : decode cX12_late 32 = .ok (.invokevirtual 453, 3) := by decide +kernel
theorem dX12_late_35 : decode cX12_late 35 = .ok (.ireturn, 1) := by decide +kernel
theorem dX12_late_36 : decode cX12_late 36 = .ok (.iconst 0, 1) := by decide +kernel
theorem dX12_late_37 : decode cX12_late 37 = .ok (.istore_n 3, 1) := by decide +kernel
theorem dX12_late_38 : decode cX12_late 38 = .ok (.iload_n 3, 1) := by decide +kernel
theorem dX12_late_39 : decode cX12_late 39 = .ok (.bipush 100, 2) := by decide +kernel
theorem dX12_late_41 : decode cX12_late 41 = .ok (.if_icmp .ge 20, 3) := by decide +kernel
theorem dX12_late_44 : decode cX12_late 44 = .ok (.aload_n 0, 1) := by decide +kernel
theorem dX12_late_45 : decode cX12_late 45 = .ok (.iload_n 1, 1) := by decide +kernel
theorem dX12_late_46 : decode cX12_late 46 = .ok (.iload_n 3, 1) := by decide +kernel
theorem dX12_late_47 : decode cX12_late 47 = .ok (.invokevirtual 453, 3) := by decide +kernel
theorem dX12_late_50 : decode cX12_late 50 = .ok (.ifCond .le 5, 3) := by decide +kernel
theorem dX12_late_53 : decode cX12_late 53 = .ok (.iload_n 3, 1) := by decide +kernel
theorem dX12_late_54 : decode cX12_late 54 = .ok (.ireturn, 1) := by decide +kernel
theorem dX12_late_55 : decode cX12_late 55 = .ok (.iinc 3 1, 3) := by decide +kernel
theorem dX12_late_58 : decode cX12_late 58 = .ok (.goto (-20), 3) := by decide +kernel
theorem dX12_late_61 : decode cX12_late 61 = .ok (.iconst (-1), 1) := by decide +kernel
theorem dX12_late_62 : decode cX12_late 62 = .ok (.ireturn, 1) := by decide +kernel
theorem dX12_keepsAside_0 : decode cX12_keepsAside 0 = .ok (.iconst 0, 1) := by decide +kernel
theorem dX12_keepsAside_1 : decode cX12_keepsAside 1 = .ok (.istore_n 1, 1) := by decide +kernel
theorem dX12_keepsAside_2 : decode cX12_keepsAside 2 = .ok (.iload_n 1, 1) := by decide +kernel
theorem dX12_keepsAside_3 : decode cX12_keepsAside 3 = .ok (.sipush 3600, 3) := by decide +kernel
theorem dX12_keepsAside_6 : decode cX12_keepsAside 6 = .ok (.if_icmp .ge 21, 3) := by decide +kernel
theorem dX12_keepsAside_9 : decode cX12_keepsAside 9 = .ok (.aload_n 0, 1) := by decide +kernel
theorem dX12_keepsAside_10 : decode cX12_keepsAside 10 = .ok (.getfield 143, 3) := by decide +kernel
theorem dX12_keepsAside_13 : decode cX12_keepsAside 13 = .ok (.iload_n 1, 1) := by decide +kernel
theorem dX12_keepsAside_14 : decode cX12_keepsAside 14 = .ok (.aload_n 0, 1) := by decide +kernel
theorem dX12_keepsAside_15 : decode cX12_keepsAside 15 = .ok (.getfield 121, 3) := by decide +kernel
theorem dX12_keepsAside_18 : decode cX12_keepsAside 18 = .ok (.iload_n 1, 1) := by decide +kernel
theorem dX12_keepsAside_19 : decode cX12_keepsAside 19 = .ok (.baload, 1) := by decide +kernel
theorem dX12_keepsAside_20 : decode cX12_keepsAside 20 = .ok (.bastore, 1) := by decide +kernel
theorem dX12_keepsAside_21 : decode cX12_keepsAside 21 = .ok (.iinc 1 1, 3) := by decide +kernel
theorem dX12_keepsAside_24 : decode cX12_keepsAside 24 = .ok (.goto (-22), 3) := by decide +kernel
theorem dX12_keepsAside_27 : decode cX12_keepsAside 27 = .ok (.iconst 0, 1) := by decide +kernel
theorem dX12_keepsAside_28 : decode cX12_keepsAside 28 = .ok (.istore_n 1, 1) := by decide +kernel
theorem dX12_keepsAside_29 : decode cX12_keepsAside 29 = .ok (.iload_n 1, 1) := by decide +kernel
theorem dX12_keepsAside_30 : decode cX12_keepsAside 30 = .ok (.sipush 8640, 3) := by decide +kernel
theorem dX12_keepsAside_33 : decode cX12_keepsAside 33 = .ok (.if_icmp .ge 21, 3) := by decide +kernel
theorem dX12_keepsAside_36 : decode cX12_keepsAside 36 = .ok (.aload_n 0, 1) := by decide +kernel
theorem dX12_keepsAside_37 : decode cX12_keepsAside 37 = .ok (.getfield 146, 3) := by decide +kernel
theorem dX12_keepsAside_40 : decode cX12_keepsAside 40 = .ok (.iload_n 1, 1) := by decide +kernel
theorem dX12_keepsAside_41 : decode cX12_keepsAside 41 = .ok (.aload_n 0, 1) := by decide +kernel
theorem dX12_keepsAside_42 : decode cX12_keepsAside 42 = .ok (.getfield 125, 3) := by decide +kernel
theorem dX12_keepsAside_45 : decode cX12_keepsAside 45 = .ok (.iload_n 1, 1) := by decide +kernel
theorem dX12_keepsAside_46 : decode cX12_keepsAside 46 = .ok (.baload, 1) := by decide +kernel
theorem dX12_keepsAside_47 : decode cX12_keepsAside 47 = .ok (.bastore, 1) := by decide +kernel
theorem dX12_keepsAside_48 : decode cX12_keepsAside 48 = .ok (.iinc 1 1, 3) := by decide +kernel
theorem dX12_keepsAside_51 : decode cX12_keepsAside 51 = .ok (.goto (-22), 3) := by decide +kernel
theorem dX12_keepsAside_54 : decode cX12_keepsAside 54 = .ok (.return_, 1) := by decide +kernel
theorem dX12_couplesIn_0 : decode cX12_couplesIn 0 = .ok (.lconst 0, 1) := by decide +kernel
theorem dX12_couplesIn_1 : decode cX12_couplesIn 1 = .ok (.lstore 4, 2) := by decide +kernel
theorem dX12_couplesIn_3 : decode cX12_couplesIn 3 = .ok (.iconst 0, 1) := by decide +kernel
theorem dX12_couplesIn_4 : decode cX12_couplesIn 4 = .ok (.istore 6, 2) := by decide +kernel
theorem dX12_couplesIn_6 : decode cX12_couplesIn 6 = .ok (.iload 6, 2) := by decide +kernel
theorem dX12_couplesIn_8 : decode cX12_couplesIn 8 = .ok (.sipush 720, 3) := by decide +kernel
theorem dX12_couplesIn_11 : decode cX12_couplesIn 11 = .ok (.if_icmp .ge 110, 3) := by decide +kernel
theorem dX12_couplesIn_14 : decode cX12_couplesIn 14 = .ok (.aload_n 0, 1) := by decide +kernel
theorem dX12_couplesIn_15 : decode cX12_couplesIn 15 = .ok (.getfield 146, 3) := by decide +kernel
theorem dX12_couplesIn_18 : decode cX12_couplesIn 18 = .ok (.sipush 720, 3) := by decide +kernel
theorem dX12_couplesIn_21 : decode cX12_couplesIn 21 = .ok (.iload_n 1, 1) := by decide +kernel
theorem dX12_couplesIn_22 : decode cX12_couplesIn 22 = .ok (.imul, 1) := by decide +kernel
theorem dX12_couplesIn_23 : decode cX12_couplesIn 23 = .ok (.iload 6, 2) := by decide +kernel
theorem dX12_couplesIn_25 : decode cX12_couplesIn 25 = .ok (.iadd, 1) := by decide +kernel
theorem dX12_couplesIn_26 : decode cX12_couplesIn 26 = .ok (.baload, 1) := by decide +kernel
theorem dX12_couplesIn_27 : decode cX12_couplesIn 27 = .ok (.ifCond .ne 6, 3) := by decide +kernel
theorem dX12_couplesIn_30 : decode cX12_couplesIn 30 = .ok (.goto 85, 3) := by decide +kernel
theorem dX12_couplesIn_33 : decode cX12_couplesIn 33 = .ok (.iload 6, 2) := by decide +kernel
theorem dX12_couplesIn_35 : decode cX12_couplesIn 35 = .ok (.iload_n 2, 1) := by decide +kernel
theorem dX12_couplesIn_36 : decode cX12_couplesIn 36 = .ok (.iadd, 1) := by decide +kernel
theorem dX12_couplesIn_37 : decode cX12_couplesIn 37 = .ok (.ifCond .ge 7, 3) := by decide +kernel
theorem dX12_couplesIn_40 : decode cX12_couplesIn 40 = .ok (.iconst 0, 1) := by decide +kernel
theorem dX12_couplesIn_41 : decode cX12_couplesIn 41 = .ok (.goto 7, 3) := by decide +kernel
theorem dX12_couplesIn_44 : decode cX12_couplesIn 44 = .ok (.iload 6, 2) := by decide +kernel
theorem dX12_couplesIn_46 : decode cX12_couplesIn 46 = .ok (.iload_n 2, 1) := by decide +kernel
theorem dX12_couplesIn_47 : decode cX12_couplesIn 47 = .ok (.iadd, 1) := by decide +kernel
theorem dX12_couplesIn_48 : decode cX12_couplesIn 48 = .ok (.istore 7, 2) := by decide +kernel
theorem dX12_couplesIn_50 : decode cX12_couplesIn 50 = .ok (.iload 6, 2) := by decide +kernel
theorem dX12_couplesIn_52 : decode cX12_couplesIn 52 = .ok (.iload_n 3, 1) := by decide +kernel
theorem dX12_couplesIn_53 : decode cX12_couplesIn 53 = .ok (.iadd, 1) := by decide +kernel
theorem dX12_couplesIn_54 : decode cX12_couplesIn 54 = .ok (.sipush 719, 3) := by decide +kernel
theorem dX12_couplesIn_57 : decode cX12_couplesIn 57 = .ok (.if_icmp .le 9, 3) := by decide +kernel
theorem dX12_couplesIn_60 : decode cX12_couplesIn 60 = .ok (.sipush 719, 3) := by decide +kernel
theorem dX12_couplesIn_63 : decode cX12_couplesIn 63 = .ok (.goto 7, 3) := by decide +kernel
theorem dX12_couplesIn_66 : decode cX12_couplesIn 66 = .ok (.iload 6, 2) := by decide +kernel
theorem dX12_couplesIn_68 : decode cX12_couplesIn 68 = .ok (.iload_n 3, 1) := by decide +kernel
theorem dX12_couplesIn_69 : decode cX12_couplesIn 69 = .ok (.iadd, 1) := by decide +kernel
theorem dX12_couplesIn_70 : decode cX12_couplesIn 70 = .ok (.istore 8, 2) := by decide +kernel
theorem dX12_couplesIn_72 : decode cX12_couplesIn 72 = .ok (.iload 7, 2) := by decide +kernel
theorem dX12_couplesIn_74 : decode cX12_couplesIn 74 = .ok (.istore 9, 2) := by decide +kernel
theorem dX12_couplesIn_76 : decode cX12_couplesIn 76 = .ok (.iload 9, 2) := by decide +kernel
theorem dX12_couplesIn_78 : decode cX12_couplesIn 78 = .ok (.iload 8, 2) := by decide +kernel
theorem dX12_couplesIn_80 : decode cX12_couplesIn 80 = .ok (.if_icmp .gt 35, 3) := by decide +kernel
theorem dX12_couplesIn_83 : decode cX12_couplesIn 83 = .ok (.lload 4, 2) := by decide +kernel
theorem dX12_couplesIn_85 : decode cX12_couplesIn 85 = .ok (.aload_n 0, 1) := by decide +kernel
theorem dX12_couplesIn_86 : decode cX12_couplesIn 86 = .ok (.getfield 125, 3) := by decide +kernel
theorem dX12_couplesIn_89 : decode cX12_couplesIn 89 = .ok (.sipush 720, 3) := by decide +kernel
theorem dX12_couplesIn_92 : decode cX12_couplesIn 92 = .ok (.iload_n 1, 1) := by decide +kernel
theorem dX12_couplesIn_93 : decode cX12_couplesIn 93 = .ok (.imul, 1) := by decide +kernel
theorem dX12_couplesIn_94 : decode cX12_couplesIn 94 = .ok (.iload 9, 2) := by decide +kernel
theorem dX12_couplesIn_96 : decode cX12_couplesIn 96 = .ok (.iadd, 1) := by decide +kernel
theorem dX12_couplesIn_97 : decode cX12_couplesIn 97 = .ok (.baload, 1) := by decide +kernel
theorem dX12_couplesIn_98 : decode cX12_couplesIn 98 = .ok (.ifCond .eq 7, 3) := by decide +kernel
theorem dX12_couplesIn_101 : decode cX12_couplesIn 101 = .ok (.lconst 1, 1) := by decide +kernel
theorem dX12_couplesIn_102 : decode cX12_couplesIn 102 = .ok (.goto 4, 3) := by decide +kernel
theorem dX12_couplesIn_105 : decode cX12_couplesIn 105 = .ok (.lconst 0, 1) := by decide +kernel
theorem dX12_couplesIn_106 : decode cX12_couplesIn 106 = .ok (.ladd, 1) := by decide +kernel
theorem dX12_couplesIn_107 : decode cX12_couplesIn 107 = .ok (.lstore 4, 2) := by decide +kernel
theorem dX12_couplesIn_109 : decode cX12_couplesIn 109 = .ok (.iinc 9 1, 3) := by decide +kernel
theorem dX12_couplesIn_112 : decode cX12_couplesIn 112 = .ok (.goto (-36), 3) := by decide +kernel
theorem dX12_couplesIn_115 : decode cX12_couplesIn 115 = .ok (.iinc 6 1, 3) := by decide +kernel
theorem dX12_couplesIn_118 : decode cX12_couplesIn 118 = .ok (.goto (-112), 3) := by decide +kernel
theorem dX12_couplesIn_121 : decode cX12_couplesIn 121 = .ok (.lload 4, 2) := by decide +kernel
theorem dX12_couplesIn_123 : decode cX12_couplesIn 123 = .ok (.lreturn, 1) := by decide +kernel
theorem dX12_couples_0 : decode cX12_couples 0 = .ok (.aload_n 0, 1) := by decide +kernel
theorem dX12_couples_1 : decode cX12_couples 1 = .ok (.iload_n 1, 1) := by decide +kernel
theorem dX12_couples_2 : decode cX12_couples 2 = .ok (.invokevirtual 347, 3) := by decide +kernel
theorem dX12_couples_5 : decode cX12_couples 5 = .ok (.ifCond .eq 41, 3) := by decide +kernel
theorem dX12_couples_8 : decode cX12_couples 8 = .ok (.aload_n 0, 1) := by decide +kernel
theorem dX12_couples_9 : decode cX12_couples 9 = .ok (.iload_n 2, 1) := by decide +kernel
theorem dX12_couples_10 : decode cX12_couples 10 = .ok (.invokevirtual 347, 3) := by decide +kernel
theorem dX12_couples_13 : decode cX12_couples 13 = .ok (.ifCond .eq 33, 3) := by decide +kernel
theorem dX12_couples_16 : decode cX12_couples 16 = .ok (.iload_n 3, 1) := by decide +kernel
theorem dX12_couples_17 : decode cX12_couples 17 = .ok (.sipush (-719), 3) := by decide +kernel
theorem dX12_couples_20 : decode cX12_couples 20 = .ok (.iload 4, 2) := by decide +kernel
theorem dX12_couples_22 : decode cX12_couples 22 = .ok (.invokestatic 189, 3) := by decide +kernel
theorem dX12_couples_25 : decode cX12_couples 25 = .ok (.ifCond .eq 21, 3) := by decide +kernel
theorem dX12_couples_28 : decode cX12_couples 28 = .ok (.iload 4, 2) := by decide +kernel
theorem dX12_couples_30 : decode cX12_couples 30 = .ok (.sipush 719, 3) := by decide +kernel
theorem dX12_couples_33 : decode cX12_couples 33 = .ok (.if_icmp .gt 13, 3) := by decide +kernel
theorem dX12_couples_36 : decode cX12_couples 36 = .ok (.iload 5, 2) := by decide +kernel
theorem dX12_couples_38 : decode cX12_couples 38 = .ok (.iconst 0, 1) := by decide +kernel
theorem dX12_couples_39 : decode cX12_couples 39 = .ok (.iconst 2, 1) := by decide +kernel
theorem dX12_couples_40 : decode cX12_couples 40 = .ok (.invokestatic 189, 3) := by decide +kernel
theorem dX12_couples_43 : decode cX12_couples 43 = .ok (.ifCond .ne 7, 3) := by decide +kernel
theorem dX12_couples_46 : decode cX12_couples 46 = .ok (.ldc2_w 177, 3) := by decide +kernel
theorem dX12_couples_49 : decode cX12_couples 49 = .ok (.lreturn, 1) := by decide +kernel
theorem dX12_couples_50 : decode cX12_couples 50 = .ok (.aload_n 0, 1) := by decide +kernel
theorem dX12_couples_51 : decode cX12_couples 51 = .ok (.iload_n 1, 1) := by decide +kernel
theorem dX12_couples_52 : decode cX12_couples 52 = .ok (.invokevirtual 414, 3) := by decide +kernel
theorem dX12_couples_55 : decode cX12_couples 55 = .ok (.aload_n 0, 1) := by decide +kernel
theorem dX12_couples_56 : decode cX12_couples 56 = .ok (.invokevirtual 456, 3) := by decide +kernel
theorem dX12_couples_59 : decode cX12_couples 59 = .ok (.aload_n 0, 1) := by decide +kernel
theorem dX12_couples_60 : decode cX12_couples 60 = .ok (.iload_n 2, 1) := by decide +kernel
theorem dX12_couples_61 : decode cX12_couples 61 = .ok (.invokevirtual 414, 3) := by decide +kernel
theorem dX12_couples_64 : decode cX12_couples 64 = .ok (.iconst 0, 1) := by decide +kernel
theorem dX12_couples_65 : decode cX12_couples 65 = .ok (.istore 6, 2) := by decide +kernel
theorem dX12_couples_67 : decode cX12_couples 67 = .ok (.iload 6, 2) := by decide +kernel
theorem dX12_couples_69 : decode cX12_couples 69 = .ok (.bipush 12, 2) := by decide +kernel
theorem dX12_couples_71 : decode cX12_couples 71 = .ok (.if_icmp .ge 25, 3) := by decide +kernel
theorem dX12_couples_74 : decode cX12_couples 74 = .ok (.aload_n 0, 1) := by decide +kernel
theorem dX12_couples_75 : decode cX12_couples 75 = .ok (.getfield 149, 3) := by decide +kernel
theorem dX12_couples_78 : decode cX12_couples 78 = .ok (.iload 6, 2) := by decide +kernel
theorem dX12_couples_80 : decode cX12_couples 80 = .ok (.aload_n 0, 1) := by decide +kernel
theorem dX12_couples_81 : decode cX12_couples 81 = .ok (.iload 6, 2) := by decide +kernel
theorem dX12_couples_83 : decode cX12_couples 83 = .ok (.iload_n 3, 1) := by decide +kernel
theorem dX12_couples_84 : decode cX12_couples 84 = .ok (.iload 4, 2) := by decide +kernel
theorem dX12_couples_86 : decode cX12_couples 86 = .ok (.invokevirtual 459, 3) := by decide +kernel
theorem dX12_couples_89 : decode cX12_couples 89 = .ok (.lastore, 1) := by decide +kernel
theorem dX12_couples_90 : decode cX12_couples 90 = .ok (.iinc 6 1, 3) := by decide +kernel
theorem dX12_couples_93 : decode cX12_couples 93 = .ok (.goto (-26), 3) := by decide +kernel
theorem dX12_couples_96 : decode cX12_couples 96 = .ok (.lconst 0, 1) := by decide +kernel
theorem dX12_couples_97 : decode cX12_couples 97 = .ok (.lstore 6, 2) := by decide +kernel
theorem dX12_couples_99 : decode cX12_couples 99 = .ok (.iconst 0, 1) := by decide +kernel
theorem dX12_couples_100 : decode cX12_couples 100 = .ok (.istore 8, 2) := by decide +kernel
theorem dX12_couples_102 : decode cX12_couples 102 = .ok (.iconst (-1), 1) := by decide +kernel
theorem dX12_couples_103 : decode cX12_couples 103 = .ok (.istore 9, 2) := by decide +kernel
theorem dX12_couples_105 : decode cX12_couples 105 = .ok (.iconst 0, 1) := by decide +kernel
theorem dX12_couples_106 : decode cX12_couples 106 = .ok (.istore 10, 2) := by decide +kernel
theorem dX12_couples_108 : decode cX12_couples 108 = .ok (.iload 10, 2) := by decide +kernel
theorem dX12_couples_110 : decode cX12_couples 110 = .ok (.sipush 3600, 3) := by decide +kernel
theorem dX12_couples_113 : decode cX12_couples 113 = .ok (.if_icmp .ge 78, 3) := by decide +kernel
theorem dX12_couples_116 : decode cX12_couples 116 = .ok (.aload_n 0, 1) := by decide +kernel
theorem dX12_couples_117 : decode cX12_couples 117 = .ok (.getfield 143, 3) := by decide +kernel
theorem dX12_couples_120 : decode cX12_couples 120 = .ok (.iload 10, 2) := by decide +kernel
theorem dX12_couples_122 : decode cX12_couples 122 = .ok (.baload, 1) := by decide +kernel
theorem dX12_couples_123 : decode cX12_couples 123 = .ok (.ifCond .eq 30, 3) := by decide +kernel
theorem dX12_couples_126 : decode cX12_couples 126 = .ok (.aload_n 0, 1) := by decide +kernel
theorem dX12_couples_127 : decode cX12_couples 127 = .ok (.getfield 121, 3) := by decide +kernel
theorem dX12_couples_130 : decode cX12_couples 130 = .ok (.iload 10, 2) := by decide +kernel
theorem dX12_couples_132 : decode cX12_couples 132 = .ok (.baload, 1) := by decide +kernel
theorem dX12_couples_133 : decode cX12_couples 133 = .ok (.ifCond .eq 20, 3) := by decide +kernel
theorem dX12_couples_136 : decode cX12_couples 136 = .ok (.aload_n 0, 1) := by decide +kernel
theorem dX12_couples_137 : decode cX12_couples 137 = .ok (.getfield 149, 3) := by decide +kernel
theorem dX12_couples_140 : decode cX12_couples 140 = .ok (.iload 10, 2) := by decide +kernel
theorem dX12_couples_142 : decode cX12_couples 142 = .ok (.sipush 360, 3) := by decide +kernel
theorem dX12_couples_145 : decode cX12_couples 145 = .ok (.irem, 1) := by decide +kernel
theorem dX12_couples_146 : decode cX12_couples 146 = .ok (.bipush 30, 2) := by decide +kernel
theorem dX12_couples_148 : decode cX12_couples 148 = .ok (.idiv, 1) := by decide +kernel
theorem dX12_couples_149 : decode cX12_couples 149 = .ok (.laload, 1) := by decide +kernel
theorem dX12_couples_150 : decode cX12_couples 150 = .ok (.goto 4, 3) := by decide +kernel
theorem dX12_couples_153 : decode cX12_couples 153 = .ok (.lconst 0, 1) := by decide +kernel
theorem dX12_couples_154 : decode cX12_couples 154 = .ok (.lstore 11, 2) := by decide +kernel
theorem dX12_couples_156 : decode cX12_couples 156 = .ok (.lload 11, 2) := by decide +kernel
theorem dX12_couples_158 : decode cX12_couples 158 = .ok (.lconst 0, 1) := by decide +kernel
theorem dX12_couples_159 : decode cX12_couples 159 = .ok (.lcmp, 1) := by decide +kernel
theorem dX12_couples_160 : decode cX12_couples 160 = .ok (.ifCond .ne 6, 3) := by decide +kernel
theorem dX12_couples_163 : decode cX12_couples 163 = .ok (.goto 22, 3) := by decide +kernel
theorem dX12_couples_166 : decode cX12_couples 166 = .ok (.lload 6, 2) := by decide +kernel
theorem dX12_couples_168 : decode cX12_couples 168 = .ok (.lload 11, 2) := by decide +kernel
theorem dX12_couples_170 : decode cX12_couples 170 = .ok (.ladd, 1) := by decide +kernel
theorem dX12_couples_171 : decode cX12_couples 171 = .ok (.lstore 6, 2) := by decide +kernel
theorem dX12_couples_173 : decode cX12_couples 173 = .ok (.iinc 8 1, 3) := by decide +kernel
theorem dX12_couples_176 : decode cX12_couples 176 = .ok (.iload 9, 2) := by decide +kernel
theorem dX12_couples_178 : decode cX12_couples 178 = .ok (.ifCond .ge 7, 3) := by decide +kernel
theorem dX12_couples_181 : decode cX12_couples 181 = .ok (.iload 10, 2) := by decide +kernel
theorem dX12_couples_183 : decode cX12_couples 183 = .ok (.istore 9, 2) := by decide +kernel
theorem dX12_couples_185 : decode cX12_couples 185 = .ok (.iinc 10 1, 3) := by decide +kernel
theorem dX12_couples_188 : decode cX12_couples 188 = .ok (.goto (-80), 3) := by decide +kernel
theorem dX12_couples_191 : decode cX12_couples 191 = .ok (.iload 5, 2) := by decide +kernel
theorem dX12_couples_193 : decode cX12_couples 193 = .ok (.ifCond .ne 8, 3) := by decide +kernel
theorem dX12_couples_196 : decode cX12_couples 196 = .ok (.lload 6, 2) := by decide +kernel
theorem dX12_couples_198 : decode cX12_couples 198 = .ok (.goto 18, 3) := by decide +kernel
theorem dX12_couples_201 : decode cX12_couples 201 = .ok (.iload 5, 2) := by decide +kernel
theorem dX12_couples_203 : decode cX12_couples 203 = .ok (.iconst 1, 1) := by decide +kernel
theorem dX12_couples_204 : decode cX12_couples 204 = .ok (.if_icmp .ne 9, 3) := by decide +kernel
theorem dX12_couples_207 : decode cX12_couples 207 = .ok (.iload 8, 2) := by decide +kernel
theorem dX12_couples_209 : decode cX12_couples 209 = .ok (.i2l, 1) := by decide +kernel
theorem dX12_couples_210 : decode cX12_couples 210 = .ok (.goto 6, 3) := by decide +kernel
theorem dX12_couples_213 : decode cX12_couples 213 = .ok (.iload 9, 2) := by decide +kernel
theorem dX12_couples_215 : decode cX12_couples 215 = .ok (.i2l, 1) := by decide +kernel
theorem dX12_couples_216 : decode cX12_couples 216 = .ok (.lreturn, 1) := by decide +kernel
theorem dX12_weight_0 : decode cX12_weight 0 = .ok (.iload_n 1, 1) := by decide +kernel
theorem dX12_weight_1 : decode cX12_weight 1 = .ok (.iconst 0, 1) := by decide +kernel
theorem dX12_weight_2 : decode cX12_weight 2 = .ok (.bipush 11, 2) := by decide +kernel
theorem dX12_weight_4 : decode cX12_weight 4 = .ok (.invokestatic 189, 3) := by decide +kernel
theorem dX12_weight_7 : decode cX12_weight 7 = .ok (.ifCond .eq 13, 3) := by decide +kernel
theorem dX12_weight_10 : decode cX12_weight 10 = .ok (.iload_n 2, 1) := by decide +kernel
theorem dX12_weight_11 : decode cX12_weight 11 = .ok (.iconst 0, 1) := by decide +kernel
theorem dX12_weight_12 : decode cX12_weight 12 = .ok (.bipush 99, 2) := by decide +kernel
theorem dX12_weight_14 : decode cX12_weight 14 = .ok (.invokestatic 189, 3) := by decide +kernel
theorem dX12_weight_17 : decode cX12_weight 17 = .ok (.ifCond .ne 5, 3) := by decide +kernel
theorem dX12_weight_20 : decode cX12_weight 20 = .ok (.iconst 0, 1) := by decide +kernel
theorem dX12_weight_21 : decode cX12_weight 21 = .ok (.ireturn, 1) := by decide +kernel
theorem dX12_weight_22 : decode cX12_weight 22 = .ok (.aload_n 0, 1) := by decide +kernel
theorem dX12_weight_23 : decode cX12_weight 23 = .ok (.getfield 107, 3) := by decide +kernel
theorem dX12_weight_26 : decode cX12_weight 26 = .ok (.iload_n 1, 1) := by decide +kernel
theorem dX12_weight_27 : decode cX12_weight 27 = .ok (.iload_n 2, 1) := by decide +kernel
theorem dX12_weight_28 : decode cX12_weight 28 = .ok (.iastore, 1) := by decide +kernel
theorem dX12_weight_29 : decode cX12_weight 29 = .ok (.iconst 1, 1) := by decide +kernel
theorem dX12_weight_30 : decode cX12_weight 30 = .ok (.ireturn, 1) := by decide +kernel
theorem dX12_likely_0 : decode cX12_likely 0 = .ok (.aload_n 0, 1) := by decide +kernel
theorem dX12_likely_1 : decode cX12_likely 1 = .ok (.iload_n 1, 1) := by decide +kernel
theorem dX12_likely_2 : decode cX12_likely 2 = .ok (.invokevirtual 347, 3) := by decide +kernel
theorem dX12_likely_5 : decode cX12_likely 5 = .ok (.ifCond .eq 12, 3) := by decide +kernel
theorem dX12_likely_8 : decode cX12_likely 8 = .ok (.iload_n 2, 1) := by decide +kernel
theorem dX12_likely_9 : decode cX12_likely 9 = .ok (.iconst 0, 1) := by decide +kernel
theorem dX12_likely_10 : decode cX12_likely 10 = .ok (.iconst 2, 1) := by decide +kernel
theorem dX12_likely_11 : decode cX12_likely 11 = .ok (.invokestatic 189, 3) := by decide +kernel
theorem dX12_likely_14 : decode cX12_likely 14 = .ok (.ifCond .ne 7, 3) := by decide +kernel
theorem dX12_likely_17 : decode cX12_likely 17 = .ok (.ldc2_w 177, 3) := by decide +kernel
theorem dX12_likely_20 : decode cX12_likely 20 = .ok (.lreturn, 1) := by decide +kernel
theorem dX12_likely_21 : decode cX12_likely 21 = .ok (.aload_n 0, 1) := by decide +kernel
theorem dX12_likely_22 : decode cX12_likely 22 = .ok (.iload_n 1, 1) := by decide +kernel
theorem dX12_likely_23 : decode cX12_likely 23 = .ok (.invokevirtual 414, 3) := by decide +kernel
theorem dX12_likely_26 : decode cX12_likely 26 = .ok (.lconst 0, 1) := by decide +kernel
theorem dX12_likely_27 : decode cX12_likely 27 = .ok (.lstore_n 3, 1) := by decide +kernel
theorem dX12_likely_28 : decode cX12_likely 28 = .ok (.lconst 0, 1) := by decide +kernel
theorem dX12_likely_29 : decode cX12_likely 29 = .ok (.lstore 5, 2) := by decide +kernel
theorem dX12_likely_31 : decode cX12_likely 31 = .ok (.iconst (-1), 1) := by decide +kernel
theorem dX12_likely_32 : decode cX12_likely 32 = .ok (.istore 7, 2) := by decide +kernel
theorem dX12_likely_34 : decode cX12_likely 34 = .ok (.iconst 0, 1) := by decide +kernel
theorem dX12_likely_35 : decode cX12_likely 35 = .ok (.istore 8, 2) := by decide +kernel
theorem dX12_likely_37 : decode cX12_likely 37 = .ok (.iload 8, 2) := by decide +kernel
theorem dX12_likely_39 : decode cX12_likely 39 = .ok (.sipush 3600, 3) := by decide +kernel
theorem dX12_likely_42 : decode cX12_likely 42 = .ok (.if_icmp .ge 58, 3) := by decide +kernel
theorem dX12_likely_45 : decode cX12_likely 45 = .ok (.aload_n 0, 1) := by decide +kernel
theorem dX12_likely_46 : decode cX12_likely 46 = .ok (.iload 8, 2) := by decide +kernel
theorem dX12_likely_48 : decode cX12_likely 48 = .ok (.invokevirtual 405, 3) := by decide +kernel
theorem dX12_likely_51 : decode cX12_likely 51 = .ok (.i2l, 1) := by decide +kernel
theorem dX12_likely_52 : decode cX12_likely 52 = .ok (.aload_n 0, 1) := by decide +kernel
theorem dX12_likely_53 : decode cX12_likely 53 = .ok (.getfield 107, 3) := by decide +kernel
theorem dX12_likely_56 : decode cX12_likely 56 = .ok (.iload 8, 2) := by decide +kernel
theorem dX12_likely_58 : decode cX12_likely 58 = .ok (.sipush 360, 3) := by decide +kernel
theorem dX12_likely_61 : decode cX12_likely 61 = .ok (.irem, 1) := by decide +kernel
theorem dX12_likely_62 : decode cX12_likely 62 = .ok (.bipush 30, 2) := by decide +kernel
theorem dX12_likely_64 : decode cX12_likely 64 = .ok (.idiv, 1) := by decide +kernel
theorem dX12_likely_65 : decode cX12_likely 65 = .ok (.iaload, 1) := by decide +kernel
theorem dX12_likely_66 : decode cX12_likely 66 = .ok (.i2l, 1) := by decide +kernel
theorem dX12_likely_67 : decode cX12_likely 67 = .ok (.lmul, 1) := by decide +kernel
theorem dX12_likely_68 : decode cX12_likely 68 = .ok (.lstore 9, 2) := by decide +kernel
theorem dX12_likely_70 : decode cX12_likely 70 = .ok (.lload_n 3, 1) := by decide +kernel
theorem dX12_likely_71 : decode cX12_likely 71 = .ok (.lload 9, 2) := by decide +kernel
theorem dX12_likely_73 : decode cX12_likely 73 = .ok (.ladd, 1) := by decide +kernel
theorem dX12_likely_74 : decode cX12_likely 74 = .ok (.lstore_n 3, 1) := by decide +kernel
theorem dX12_likely_75 : decode cX12_likely 75 = .ok (.lload 9, 2) := by decide +kernel
theorem dX12_likely_77 : decode cX12_likely 77 = .ok (.lload 5, 2) := by decide +kernel
theorem dX12_likely_79 : decode cX12_likely 79 = .ok (.lcmp, 1) := by decide +kernel
theorem dX12_likely_80 : decode cX12_likely 80 = .ok (.ifCond .gt 6, 3) := by decide +kernel
theorem dX12_likely_83 : decode cX12_likely 83 = .ok (.goto 11, 3) := by decide +kernel
theorem dX12_likely_86 : decode cX12_likely 86 = .ok (.lload 9, 2) := by decide +kernel
theorem dX12_likely_88 : decode cX12_likely 88 = .ok (.lstore 5, 2) := by decide +kernel
theorem dX12_likely_90 : decode cX12_likely 90 = .ok (.iload 8, 2) := by decide +kernel
theorem dX12_likely_92 : decode cX12_likely 92 = .ok (.istore 7, 2) := by decide +kernel
theorem dX12_likely_94 : decode cX12_likely 94 = .ok (.iinc 8 1, 3) := by decide +kernel
theorem dX12_likely_97 : decode cX12_likely 97 = .ok (.goto (-60), 3) := by decide +kernel
theorem dX12_likely_100 : decode cX12_likely 100 = .ok (.iload 7, 2) := by decide +kernel
theorem dX12_likely_102 : decode cX12_likely 102 = .ok (.ifCond .ge 7, 3) := by decide +kernel
theorem dX12_likely_105 : decode cX12_likely 105 = .ok (.ldc2_w 177, 3) := by decide +kernel
theorem dX12_likely_108 : decode cX12_likely 108 = .ok (.lreturn, 1) := by decide +kernel
theorem dX12_likely_109 : decode cX12_likely 109 = .ok (.lload 5, 2) := by decide +kernel
theorem dX12_likely_111 : decode cX12_likely 111 = .ok (.lload_n 3, 1) := by decide +kernel
theorem dX12_likely_112 : decode cX12_likely 112 = .ok (.invokestatic 370, 3) := by decide +kernel
theorem dX12_likely_115 : decode cX12_likely 115 = .ok (.lstore 8, 2) := by decide +kernel
theorem dX12_likely_117 : decode cX12_likely 117 = .ok (.iload_n 2, 1) := by decide +kernel
theorem dX12_likely_118 : decode cX12_likely 118 = .ok (.ifCond .ne 9, 3) := by decide +kernel
theorem dX12_likely_121 : decode cX12_likely 121 = .ok (.iload 7, 2) := by decide +kernel
theorem dX12_likely_123 : decode cX12_likely 123 = .ok (.i2l, 1) := by decide +kernel
theorem dX12_likely_124 : decode cX12_likely 124 = .ok (.goto 20, 3) := by decide +kernel
theorem dX12_likely_127 : decode cX12_likely 127 = .ok (.iload_n 2, 1) := by decide +kernel
theorem dX12_likely_128 : decode cX12_likely 128 = .ok (.iconst 1, 1) := by decide +kernel
theorem dX12_likely_129 : decode cX12_likely 129 = .ok (.if_icmp .ne 11, 3) := by decide +kernel
theorem dX12_likely_132 : decode cX12_likely 132 = .ok (.lload 5, 2) := by decide +kernel
theorem dX12_likely_134 : decode cX12_likely 134 = .ok (.lload 8, 2) := by decide +kernel
theorem dX12_likely_136 : decode cX12_likely 136 = .ok (.ldiv, 1) := by decide +kernel
theorem dX12_likely_137 : decode cX12_likely 137 = .ok (.goto 7, 3) := by decide +kernel
theorem dX12_likely_140 : decode cX12_likely 140 = .ok (.lload_n 3, 1) := by decide +kernel
theorem dX12_likely_141 : decode cX12_likely 141 = .ok (.lload 8, 2) := by decide +kernel
theorem dX12_likely_143 : decode cX12_likely 143 = .ok (.ldiv, 1) := by decide +kernel
theorem dX12_likely_144 : decode cX12_likely 144 = .ok (.lreturn, 1) := by decide +kernel
theorem dX12_looks_0 : decode cX12_looks 0 = .ok (.bipush 12, 2) := by decide +kernel
theorem dX12_looks_2 : decode cX12_looks 2 = .ok (.aload_n 0, 1) := by decide +kernel
theorem dX12_looks_3 : decode cX12_looks 3 = .ok (.getfield 312, 3) := by decide +kernel
theorem dX12_looks_6 : decode cX12_looks 6 = .ok (.imul, 1) := by decide +kernel
theorem dX12_looks_7 : decode cX12_looks 7 = .ok (.iload_n 2, 1) := by decide +kernel
theorem dX12_looks_8 : decode cX12_looks 8 = .ok (.iadd, 1) := by decide +kernel
theorem dX12_looks_9 : decode cX12_looks 9 = .ok (.istore_n 3, 1) := by decide +kernel
theorem dX12_looks_10 : decode cX12_looks 10 = .ok (.aload_n 0, 1) := by decide +kernel
theorem dX12_looks_11 : decode cX12_looks 11 = .ok (.getfield 41, 3) := by decide +kernel
theorem dX12_looks_14 : decode cX12_looks 14 = .ok (.iload_n 3, 1) := by decide +kernel
theorem dX12_looks_15 : decode cX12_looks 15 = .ok (.iaload, 1) := by decide +kernel
theorem dX12_looks_16 : decode cX12_looks 16 = .ok (.aload_n 0, 1) := by decide +kernel
theorem dX12_looks_17 : decode cX12_looks 17 = .ok (.getfield 44, 3) := by decide +kernel
theorem dX12_looks_20 : decode cX12_looks 20 = .ok (.iload_n 3, 1) := by decide +kernel
theorem dX12_looks_21 : decode cX12_looks 21 = .ok (.iaload, 1) := by decide +kernel
theorem dX12_looks_22 : decode cX12_looks 22 = .ok (.isub, 1) := by decide +kernel
theorem dX12_looks_23 : decode cX12_looks 23 = .ok (.istore 4, 2) := by decide +kernel
theorem dX12_looks_25 : decode cX12_looks 25 = .ok (.aload_n 0, 1) := by decide +kernel
theorem dX12_looks_26 : decode cX12_looks 26 = .ok (.getfield 41, 3) := by decide +kernel
theorem dX12_looks_29 : decode cX12_looks 29 = .ok (.iload_n 3, 1) := by decide +kernel
theorem dX12_looks_30 : decode cX12_looks 30 = .ok (.iaload, 1) := by decide +kernel
theorem dX12_looks_31 : decode cX12_looks 31 = .ok (.aload_n 0, 1) := by decide +kernel
theorem dX12_looks_32 : decode cX12_looks 32 = .ok (.getfield 44, 3) := by decide +kernel
theorem dX12_looks_35 : decode cX12_looks 35 = .ok (.iload_n 3, 1) := by decide +kernel
theorem dX12_looks_36 : decode cX12_looks 36 = .ok (.iaload, 1) := by decide +kernel
theorem dX12_looks_37 : decode cX12_looks 37 = .ok (.iadd, 1) := by decide +kernel
theorem dX12_looks_38 : decode cX12_looks 38 = .ok (.istore 5, 2) := by decide +kernel
theorem dX12_looks_40 : decode cX12_looks 40 = .ok (.iload 4, 2) := by decide +kernel
theorem dX12_looks_42 : decode cX12_looks 42 = .ok (.ifCond .ge 6, 3) := by decide +kernel
theorem dX12_looks_45 : decode cX12_looks 45 = .ok (.iconst 0, 1) := by decide +kernel
theorem dX12_looks_46 : decode cX12_looks 46 = .ok (.istore 4, 2) := by decide +kernel
theorem dX12_looks_48 : decode cX12_looks 48 = .ok (.iload 5, 2) := by decide +kernel
theorem dX12_looks_50 : decode cX12_looks 50 = .ok (.sipush 3599, 3) := by decide +kernel
theorem dX12_looks_53 : decode cX12_looks 53 = .ok (.if_icmp .le 8, 3) := by decide +kernel
theorem dX12_looks_56 : decode cX12_looks 56 = .ok (.sipush 3599, 3) := by decide +kernel
theorem dX12_looks_59 : decode cX12_looks 59 = .ok (.istore 5, 2) := by decide +kernel
theorem dX12_looks_61 : decode cX12_looks 61 = .ok (.aload_n 0, 1) := by decide +kernel
theorem dX12_looks_62 : decode cX12_looks 62 = .ok (.getfield 47, 3) := by decide +kernel
theorem dX12_looks_65 : decode cX12_looks 65 = .ok (.iload_n 3, 1) := by decide +kernel
theorem dX12_looks_66 : decode cX12_looks 66 = .ok (.iaload, 1) := by decide +kernel
theorem dX12_looks_67 : decode cX12_looks 67 = .ok (.ifCond .lt 22, 3) := by decide +kernel
theorem dX12_looks_70 : decode cX12_looks 70 = .ok (.iload 5, 2) := by decide +kernel
theorem dX12_looks_72 : decode cX12_looks 72 = .ok (.aload_n 0, 1) := by decide +kernel
theorem dX12_looks_73 : decode cX12_looks 73 = .ok (.getfield 47, 3) := by decide +kernel
theorem dX12_looks_76 : decode cX12_looks 76 = .ok (.iload_n 3, 1) := by decide +kernel
theorem dX12_looks_77 : decode cX12_looks 77 = .ok (.iaload, 1) := by decide +kernel
theorem dX12_looks_78 : decode cX12_looks 78 = .ok (.if_icmp .le 11, 3) := by decide +kernel
theorem dX12_looks_81 : decode cX12_looks 81 = .ok (.aload_n 0, 1) := by decide +kernel
theorem dX12_looks_82 : decode cX12_looks 82 = .ok (.getfield 47, 3) := by decide +kernel
theorem dX12_looks_85 : decode cX12_looks 85 = .ok (.iload_n 3, 1) := by decide +kernel
theorem dX12_looks_86 : decode cX12_looks 86 = .ok (.iaload, 1) := by decide +kernel
theorem dX12_looks_87 : decode cX12_looks 87 = .ok (.istore 5, 2) := by decide +kernel
theorem dX12_looks_89 : decode cX12_looks 89 = .ok (.aload_n 0, 1) := by decide +kernel
theorem dX12_looks_90 : decode cX12_looks 90 = .ok (.lconst 0, 1) := by decide +kernel
theorem dX12_looks_91 : decode cX12_looks 91 = .ok (.putfield 463, 3) := by decide +kernel
theorem dX12_looks_94 : decode cX12_looks 94 = .ok (.aload_n 0, 1) := by decide +kernel
theorem dX12_looks_95 : decode cX12_looks 95 = .ok (.iconst 0, 1) := by decide +kernel
theorem dX12_looks_96 : decode cX12_looks 96 = .ok (.putfield 466, 3) := by decide +kernel
theorem dX12_looks_99 : decode cX12_looks 99 = .ok (.aload_n 0, 1) := by decide +kernel
theorem dX12_looks_100 : decode cX12_looks 100 = .ok (.iload_n 2, 1) := by decide +kernel
theorem dX12_looks_101 : decode cX12_looks 101 = .ok (.putfield 118, 3) := by decide +kernel
theorem dX12_looks_104 : decode cX12_looks 104 = .ok (.iload 4, 2) := by decide +kernel
theorem dX12_looks_106 : decode cX12_looks 106 = .ok (.istore 6, 2) := by decide +kernel
theorem dX12_looks_108 : decode cX12_looks 108 = .ok (.iload 6, 2) := by decide +kernel
theorem dX12_looks_110 : decode cX12_looks 110 = .ok (.iload 5, 2) := by decide +kernel
theorem dX12_looks_112 : decode cX12_looks 112 = .ok (.if_icmp .gt 44, 3) := by decide +kernel
theorem dX12_looks_115 : decode cX12_looks 115 = .ok (.aload_n 0, 1) := by decide +kernel
theorem dX12_looks_116 : decode cX12_looks 116 = .ok (.iload 6, 2) := by decide +kernel
theorem dX12_looks_118 : decode cX12_looks 118 = .ok (.putfield 374, 3) := by decide +kernel
theorem dX12_looks_121 : decode cX12_looks 121 = .ok (.aload_n 0, 1) := by decide +kernel
theorem dX12_looks_122 : decode cX12_looks 122 = .ok (.iload_n 1, 1) := by decide +kernel
theorem dX12_looks_123 : decode cX12_looks 123 = .ok (.invokevirtual 408, 3) := by decide +kernel
theorem dX12_looks_126 : decode cX12_looks 126 = .ok (.aload_n 0, 1) := by decide +kernel
theorem dX12_looks_127 : decode cX12_looks 127 = .ok (.dup, 1) := by decide +kernel
theorem dX12_looks_128 : decode cX12_looks 128 = .ok (.getfield 463, 3) := by decide +kernel
theorem dX12_looks_131 : decode cX12_looks 131 = .ok (.aload_n 0, 1) := by decide +kernel
theorem dX12_looks_132 : decode cX12_looks 132 = .ok (.invokevirtual 417, 3) := by decide +kernel
theorem dX12_looks_135 : decode cX12_looks 135 = .ok (.i2l, 1) := by decide +kernel
theorem dX12_looks_136 : decode cX12_looks 136 = .ok (.ladd, 1) := by decide +kernel
theorem dX12_looks_137 : decode cX12_looks 137 = .ok (.putfield 463, 3) := by decide +kernel
theorem dX12_looks_140 : decode cX12_looks 140 = .ok (.aload_n 0, 1) := by decide +kernel
theorem dX12_looks_141 : decode cX12_looks 141 = .ok (.dup, 1) := by decide +kernel
theorem dX12_looks_142 : decode cX12_looks 142 = .ok (.getfield 466, 3) := by decide +kernel
theorem dX12_looks_145 : decode cX12_looks 145 = .ok (.iconst 1, 1) := by decide +kernel
theorem dX12_looks_146 : decode cX12_looks 146 = .ok (.iadd, 1) := by decide +kernel
theorem dX12_looks_147 : decode cX12_looks 147 = .ok (.putfield 466, 3) := by decide +kernel
theorem dX12_looks_150 : decode cX12_looks 150 = .ok (.iinc 6 1, 3) := by decide +kernel
theorem dX12_looks_153 : decode cX12_looks 153 = .ok (.goto (-45), 3) := by decide +kernel
theorem dX12_looks_156 : decode cX12_looks 156 = .ok (.aload_n 0, 1) := by decide +kernel
theorem dX12_looks_157 : decode cX12_looks 157 = .ok (.iconst (-1), 1) := by decide +kernel
theorem dX12_looks_158 : decode cX12_looks 158 = .ok (.putfield 118, 3) := by decide +kernel
theorem dX12_looks_161 : decode cX12_looks 161 = .ok (.return_, 1) := by decide +kernel
theorem dX12_look_0 : decode cX12_look 0 = .ok (.aload_n 0, 1) := by decide +kernel
theorem dX12_look_1 : decode cX12_look 1 = .ok (.iload_n 1, 1) := by decide +kernel
theorem dX12_look_2 : decode cX12_look 2 = .ok (.invokevirtual 347, 3) := by decide +kernel
theorem dX12_look_5 : decode cX12_look 5 = .ok (.ifCond .eq 48, 3) := by decide +kernel
theorem dX12_look_8 : decode cX12_look 8 = .ok (.iload_n 2, 1) := by decide +kernel
theorem dX12_look_9 : decode cX12_look 9 = .ok (.iconst 0, 1) := by decide +kernel
theorem dX12_look_10 : decode cX12_look 10 = .ok (.aload_n 0, 1) := by decide +kernel
theorem dX12_look_11 : decode cX12_look 11 = .ok (.getfield 7, 3) := by decide +kernel
theorem dX12_look_14 : decode cX12_look 14 = .ok (.aload_n 0, 1) := by decide +kernel
theorem dX12_look_15 : decode cX12_look 15 = .ok (.getfield 312, 3) := by decide +kernel
theorem dX12_look_18 : decode cX12_look 18 = .ok (.iaload, 1) := by decide +kernel
theorem dX12_look_19 : decode cX12_look 19 = .ok (.iconst 1, 1) := by decide +kernel
theorem dX12_look_20 : decode cX12_look 20 = .ok (.isub, 1) := by decide +kernel
theorem dX12_look_21 : decode cX12_look 21 = .ok (.invokestatic 189, 3) := by decide +kernel
theorem dX12_look_24 : decode cX12_look 24 = .ok (.ifCond .eq 29, 3) := by decide +kernel
theorem dX12_look_27 : decode cX12_look 27 = .ok (.iload_n 3, 1) := by decide +kernel
theorem dX12_look_28 : decode cX12_look 28 = .ok (.iconst 0, 1) := by decide +kernel
theorem dX12_look_29 : decode cX12_look 29 = .ok (.iconst 1, 1) := by decide +kernel
theorem dX12_look_30 : decode cX12_look 30 = .ok (.invokestatic 189, 3) := by decide +kernel
theorem dX12_look_33 : decode cX12_look 33 = .ok (.ifCond .eq 20, 3) := by decide +kernel
theorem dX12_look_36 : decode cX12_look 36 = .ok (.aload_n 0, 1) := by decide +kernel
theorem dX12_look_37 : decode cX12_look 37 = .ok (.getfield 44, 3) := by decide +kernel
theorem dX12_look_40 : decode cX12_look 40 = .ok (.bipush 12, 2) := by decide +kernel
theorem dX12_look_42 : decode cX12_look 42 = .ok (.aload_n 0, 1) := by decide +kernel
theorem dX12_look_43 : decode cX12_look 43 = .ok (.getfield 312, 3) := by decide +kernel
theorem dX12_look_46 : decode cX12_look 46 = .ok (.imul, 1) := by decide +kernel
theorem dX12_look_47 : decode cX12_look 47 = .ok (.iload_n 2, 1) := by decide +kernel
theorem dX12_look_48 : decode cX12_look 48 = .ok (.iadd, 1) := by decide +kernel
theorem dX12_look_49 : decode cX12_look 49 = .ok (.iaload, 1) := by decide +kernel
theorem dX12_look_50 : decode cX12_look 50 = .ok (.ifCond .ne 7, 3) := by decide +kernel
theorem dX12_look_53 : decode cX12_look 53 = .ok (.ldc2_w 177, 3) := by decide +kernel
theorem dX12_look_56 : decode cX12_look 56 = .ok (.lreturn, 1) := by decide +kernel
theorem dX12_look_57 : decode cX12_look 57 = .ok (.aload_n 0, 1) := by decide +kernel
theorem dX12_look_58 : decode cX12_look 58 = .ok (.iload_n 1, 1) := by decide +kernel
theorem dX12_look_59 : decode cX12_look 59 = .ok (.invokevirtual 411, 3) := by decide +kernel
theorem dX12_look_62 : decode cX12_look 62 = .ok (.aload_n 0, 1) := by decide +kernel
theorem dX12_look_63 : decode cX12_look 63 = .ok (.iload_n 1, 1) := by decide +kernel
theorem dX12_look_64 : decode cX12_look 64 = .ok (.iload_n 2, 1) := by decide +kernel
theorem dX12_look_65 : decode cX12_look 65 = .ok (.invokevirtual 469, 3) := by decide +kernel
theorem dX12_look_68 : decode cX12_look 68 = .ok (.iload_n 3, 1) := by decide +kernel
theorem dX12_look_69 : decode cX12_look 69 = .ok (.ifCond .ne 10, 3) := by decide +kernel
theorem dX12_look_72 : decode cX12_look 72 = .ok (.aload_n 0, 1) := by decide +kernel
theorem dX12_look_73 : decode cX12_look 73 = .ok (.getfield 463, 3) := by decide +kernel
theorem dX12_look_76 : decode cX12_look 76 = .ok (.goto 8, 3) := by decide +kernel
theorem dX12_look_79 : decode cX12_look 79 = .ok (.aload_n 0, 1) := by decide +kernel
theorem dX12_look_80 : decode cX12_look 80 = .ok (.getfield 466, 3) := by decide +kernel
theorem dX12_look_83 : decode cX12_look 83 = .ok (.i2l, 1) := by decide +kernel
theorem dX12_look_84 : decode cX12_look 84 = .ok (.lreturn, 1) := by decide +kernel
theorem dX12_names_0 : decode cX12_names 0 = .ok (.bipush 12, 2) := by decide +kernel
theorem dX12_names_2 : decode cX12_names 2 = .ok (.iload_n 1, 1) := by decide +kernel
theorem dX12_names_3 : decode cX12_names 3 = .ok (.imul, 1) := by decide +kernel
theorem dX12_names_4 : decode cX12_names 4 = .ok (.istore_n 3, 1) := by decide +kernel
theorem dX12_names_5 : decode cX12_names 5 = .ok (.iload_n 3, 1) := by decide +kernel
theorem dX12_names_6 : decode cX12_names 6 = .ok (.bipush 12, 2) := by decide +kernel
theorem dX12_names_8 : decode cX12_names 8 = .ok (.iload_n 1, 1) := by decide +kernel
theorem dX12_names_9 : decode cX12_names 9 = .ok (.imul, 1) := by decide +kernel
theorem dX12_names_10 : decode cX12_names 10 = .ok (.aload_n 0, 1) := by decide +kernel
theorem dX12_names_11 : decode cX12_names 11 = .ok (.getfield 89, 3) := by decide +kernel
theorem dX12_names_14 : decode cX12_names 14 = .ok (.iload_n 1, 1) := by decide +kernel
theorem dX12_names_15 : decode cX12_names 15 = .ok (.iaload, 1) := by decide +kernel
theorem dX12_names_16 : decode cX12_names 16 = .ok (.iadd, 1) := by decide +kernel
theorem dX12_names_17 : decode cX12_names 17 = .ok (.if_icmp .ge 31, 3) := by decide +kernel
theorem dX12_names_20 : decode cX12_names 20 = .ok (.aload_n 0, 1) := by decide +kernel
theorem dX12_names_21 : decode cX12_names 21 = .ok (.getfield 92, 3) := by decide +kernel
theorem dX12_names_24 : decode cX12_names 24 = .ok (.iload_n 3, 1) := by decide +kernel
theorem dX12_names_25 : decode cX12_names 25 = .ok (.iaload, 1) := by decide +kernel
theorem dX12_names_26 : decode cX12_names 26 = .ok (.iconst 1, 1) := by decide +kernel
theorem dX12_names_27 : decode cX12_names 27 = .ok (.if_icmp .gt 15, 3) := by decide +kernel
theorem dX12_names_30 : decode cX12_names 30 = .ok (.aload_n 0, 1) := by decide +kernel
theorem dX12_names_31 : decode cX12_names 31 = .ok (.getfield 95, 3) := by decide +kernel
theorem dX12_names_34 : decode cX12_names 34 = .ok (.iload_n 3, 1) := by decide +kernel
theorem dX12_names_35 : decode cX12_names 35 = .ok (.iaload, 1) := by decide +kernel
theorem dX12_names_36 : decode cX12_names 36 = .ok (.iload_n 2, 1) := by decide +kernel
theorem dX12_names_37 : decode cX12_names 37 = .ok (.if_icmp .ne 5, 3) := by decide +kernel
theorem dX12_names_40 : decode cX12_names 40 = .ok (.iconst 1, 1) := by decide +kernel
theorem dX12_names_41 : decode cX12_names 41 = .ok (.ireturn, 1) := by decide +kernel
theorem dX12_names_42 : decode cX12_names 42 = .ok (.iinc 3 1, 3) := by decide +kernel
theorem dX12_names_45 : decode cX12_names 45 = .ok (.goto (-40), 3) := by decide +kernel
theorem dX12_names_48 : decode cX12_names 48 = .ok (.iconst 0, 1) := by decide +kernel
theorem dX12_names_49 : decode cX12_names 49 = .ok (.ireturn, 1) := by decide +kernel
theorem dX12_next__0 : decode cX12_next_ 0 = .ok (.aload_n 0, 1) := by decide +kernel
theorem dX12_next__1 : decode cX12_next_ 1 = .ok (.iload_n 1, 1) := by decide +kernel
theorem dX12_next__2 : decode cX12_next_ 2 = .ok (.invokevirtual 347, 3) := by decide +kernel
theorem dX12_next__5 : decode cX12_next_ 5 = .ok (.ifCond .ne 5, 3) := by decide +kernel
theorem dX12_next__8 : decode cX12_next_ 8 = .ok (.iconst (-1), 1) := by decide +kernel
theorem dX12_next__9 : decode cX12_next_ 9 = .ok (.ireturn, 1) := by decide +kernel
theorem dX12_next__10 : decode cX12_next_ 10 = .ok (.aload_n 0, 1) := by decide +kernel
theorem dX12_next__11 : decode cX12_next_ 11 = .ok (.iload_n 1, 1) := by decide +kernel
theorem dX12_next__12 : decode cX12_next_ 12 = .ok (.invokevirtual 411, 3) := by decide +kernel
theorem dX12_next__15 : decode cX12_next_ 15 = .ok (.iconst (-1), 1) := by decide +kernel
theorem dX12_next__16 : decode cX12_next_ 16 = .ok (.istore_n 2, 1) := by decide +kernel
theorem dX12_next__17 : decode cX12_next_ 17 = .ok (.lconst 0, 1) := by decide +kernel
theorem dX12_next__18 : decode cX12_next_ 18 = .ok (.lstore_n 3, 1) := by decide +kernel
theorem dX12_next__19 : decode cX12_next_ 19 = .ok (.lconst 1, 1) := by decide +kernel
theorem dX12_next__20 : decode cX12_next_ 20 = .ok (.lstore 5, 2) := by decide +kernel
theorem dX12_next__22 : decode cX12_next_ 22 = .ok (.iconst 0, 1) := by decide +kernel
theorem dX12_next__23 : decode cX12_next_ 23 = .ok (.istore 7, 2) := by decide +kernel
theorem dX12_next__25 : decode cX12_next_ 25 = .ok (.iload 7, 2) := by decide +kernel
theorem dX12_next__27 : decode cX12_next_ 27 = .ok (.aload_n 0, 1) := by decide +kernel
theorem dX12_next__28 : decode cX12_next_ 28 = .ok (.getfield 7, 3) := by decide +kernel
theorem dX12_next__31 : decode cX12_next_ 31 = .ok (.aload_n 0, 1) := by decide +kernel
theorem dX12_next__32 : decode cX12_next_ 32 = .ok (.getfield 312, 3) := by decide +kernel
theorem dX12_next__35 : decode cX12_next_ 35 = .ok (.iaload, 1) := by decide +kernel
theorem dX12_next__36 : decode cX12_next_ 36 = .ok (.if_icmp .ge 87, 3) := by decide +kernel
theorem dX12_next__39 : decode cX12_next_ 39 = .ok (.aload_n 0, 1) := by decide +kernel
theorem dX12_next__40 : decode cX12_next_ 40 = .ok (.getfield 44, 3) := by decide +kernel
theorem dX12_next__43 : decode cX12_next_ 43 = .ok (.bipush 12, 2) := by decide +kernel
theorem dX12_next__45 : decode cX12_next_ 45 = .ok (.aload_n 0, 1) := by decide +kernel
theorem dX12_next__46 : decode cX12_next_ 46 = .ok (.getfield 312, 3) := by decide +kernel
theorem dX12_next__49 : decode cX12_next_ 49 = .ok (.imul, 1) := by decide +kernel
theorem dX12_next__50 : decode cX12_next_ 50 = .ok (.iload 7, 2) := by decide +kernel
theorem dX12_next__52 : decode cX12_next_ 52 = .ok (.iadd, 1) := by decide +kernel
theorem dX12_next__53 : decode cX12_next_ 53 = .ok (.iaload, 1) := by decide +kernel
theorem dX12_next__54 : decode cX12_next_ 54 = .ok (.ifCond .eq 63, 3) := by decide +kernel
theorem dX12_next__57 : decode cX12_next_ 57 = .ok (.aload_n 0, 1) := by decide +kernel
theorem dX12_next__58 : decode cX12_next_ 58 = .ok (.iload_n 1, 1) := by decide +kernel
theorem dX12_next__59 : decode cX12_next_ 59 = .ok (.iload 7, 2) := by decide +kernel
theorem dX12_next__61 : decode cX12_next_ 61 = .ok (.invokevirtual 472, 3) := by decide +kernel
theorem dX12_next__64 : decode cX12_next_ 64 = .ok (.ifCond .ne 6, 3) := by decide +kernel
theorem dX12_next__67 : decode cX12_next_ 67 = .ok (.goto 50, 3) := by decide +kernel
theorem dX12_next__70 : decode cX12_next_ 70 = .ok (.aload_n 0, 1) := by decide +kernel
theorem dX12_next__71 : decode cX12_next_ 71 = .ok (.iload_n 1, 1) := by decide +kernel
theorem dX12_next__72 : decode cX12_next_ 72 = .ok (.iload 7, 2) := by decide +kernel
theorem dX12_next__74 : decode cX12_next_ 74 = .ok (.invokevirtual 469, 3) := by decide +kernel
theorem dX12_next__77 : decode cX12_next_ 77 = .ok (.iload_n 2, 1) := by decide +kernel
theorem dX12_next__78 : decode cX12_next_ 78 = .ok (.ifCond .lt 24, 3) := by decide +kernel
theorem dX12_next__81 : decode cX12_next_ 81 = .ok (.aload_n 0, 1) := by decide +kernel
theorem dX12_next__82 : decode cX12_next_ 82 = .ok (.getfield 463, 3) := by decide +kernel
theorem dX12_next__85 : decode cX12_next_ 85 = .ok (.lload 5, 2) := by decide +kernel
theorem dX12_next__87 : decode cX12_next_ 87 = .ok (.lmul, 1) := by decide +kernel
theorem dX12_next__88 : decode cX12_next_ 88 = .ok (.lload_n 3, 1) := by decide +kernel
theorem dX12_next__89 : decode cX12_next_ 89 = .ok (.aload_n 0, 1) := by decide +kernel
theorem dX12_next__90 : decode cX12_next_ 90 = .ok (.getfield 466, 3) := by decide +kernel
theorem dX12_next__93 : decode cX12_next_ 93 = .ok (.i2l, 1) := by decide +kernel
theorem dX12_next__94 : decode cX12_next_ 94 = .ok (.lmul, 1) := by decide +kernel
theorem dX12_next__95 : decode cX12_next_ 95 = .ok (.lcmp, 1) := by decide +kernel
theorem dX12_next__96 : decode cX12_next_ 96 = .ok (.ifCond .lt 6, 3) := by decide +kernel
theorem dX12_next__99 : decode cX12_next_ 99 = .ok (.goto 18, 3) := by decide +kernel
theorem dX12_next__102 : decode cX12_next_ 102 = .ok (.iload 7, 2) := by decide +kernel
theorem dX12_next__104 : decode cX12_next_ 104 = .ok (.istore_n 2, 1) := by decide +kernel
theorem dX12_next__105 : decode cX12_next_ 105 = .ok (.aload_n 0, 1) := by decide +kernel
theorem dX12_next__106 : decode cX12_next_ 106 = .ok (.getfield 463, 3) := by decide +kernel
theorem dX12_next__109 : decode cX12_next_ 109 = .ok (.lstore_n 3, 1) := by decide +kernel
theorem dX12_next__110 : decode cX12_next_ 110 = .ok (.aload_n 0, 1) := by decide +kernel
theorem dX12_next__111 : decode cX12_next_ 111 = .ok (.getfield 466, 3) := by decide +kernel
theorem dX12_next__114 : decode cX12_next_ 114 = .ok (.i2l, 1) := by decide +kernel
theorem dX12_next__115 : decode cX12_next_ 115 = .ok (.lstore 5, 2) := by decide +kernel
theorem dX12_next__117 : decode cX12_next_ 117 = .ok (.iinc 7 1, 3) := by decide +kernel
theorem dX12_next__120 : decode cX12_next_ 120 = .ok (.goto (-95), 3) := by decide +kernel
theorem dX12_next__123 : decode cX12_next_ 123 = .ok (.iload_n 2, 1) := by decide +kernel
theorem dX12_next__124 : decode cX12_next_ 124 = .ok (.ireturn, 1) := by decide +kernel
theorem dX12_findClouds_0 : decode cX12_findClouds 0 = .ok (.iconst 0, 1) := by decide +kernel
theorem dX12_findClouds_1 : decode cX12_findClouds 1 = .ok (.istore_n 1, 1) := by decide +kernel
theorem dX12_findClouds_2 : decode cX12_findClouds 2 = .ok (.iload_n 1, 1) := by decide +kernel
theorem dX12_findClouds_3 : decode cX12_findClouds 3 = .ok (.sipush 3600, 3) := by decide +kernel
theorem dX12_findClouds_6 : decode cX12_findClouds 6 = .ok (.if_icmp .ge 16, 3) := by decide +kernel
theorem dX12_findClouds_9 : decode cX12_findClouds 9 = .ok (.aload_n 0, 1) := by decide +kernel
theorem dX12_findClouds_10 : decode cX12_findClouds 10 = .ok (.getfield 152, 3) := by decide +kernel
theorem dX12_findClouds_13 : decode cX12_findClouds 13 = .ok (.iload_n 1, 1) := by decide +kernel
theorem dX12_findClouds_14 : decode cX12_findClouds 14 = .ok (.iconst 0, 1) := by decide +kernel
theorem dX12_findClouds_15 : decode cX12_findClouds 15 = .ok (.iastore, 1) := by decide +kernel
theorem dX12_findClouds_16 : decode cX12_findClouds 16 = .ok (.iinc 1 1, 3) := by decide +kernel
theorem dX12_findClouds_19 : decode cX12_findClouds 19 = .ok (.goto (-17), 3) := by decide +kernel
theorem dX12_findClouds_22 : decode cX12_findClouds 22 = .ok (.iconst 0, 1) := by decide +kernel
theorem dX12_findClouds_23 : decode cX12_findClouds 23 = .ok (.istore_n 1, 1) := by decide +kernel
theorem dX12_findClouds_24 : decode cX12_findClouds 24 = .ok (.iload_n 1, 1) := by decide +kernel
theorem dX12_findClouds_25 : decode cX12_findClouds 25 = .ok (.sipush 8640, 3) := by decide +kernel
theorem dX12_findClouds_28 : decode cX12_findClouds 28 = .ok (.if_icmp .ge 16, 3) := by decide +kernel
theorem dX12_findClouds_31 : decode cX12_findClouds 31 = .ok (.aload_n 0, 1) := by decide +kernel
theorem dX12_findClouds_32 : decode cX12_findClouds 32 = .ok (.getfield 155, 3) := by decide +kernel
theorem dX12_findClouds_35 : decode cX12_findClouds 35 = .ok (.iload_n 1, 1) := by decide +kernel
theorem dX12_findClouds_36 : decode cX12_findClouds 36 = .ok (.iconst 0, 1) := by decide +kernel
theorem dX12_findClouds_37 : decode cX12_findClouds 37 = .ok (.iastore, 1) := by decide +kernel
theorem dX12_findClouds_38 : decode cX12_findClouds 38 = .ok (.iinc 1 1, 3) := by decide +kernel
theorem dX12_findClouds_41 : decode cX12_findClouds 41 = .ok (.goto (-17), 3) := by decide +kernel
theorem dX12_findClouds_44 : decode cX12_findClouds 44 = .ok (.iconst 0, 1) := by decide +kernel
theorem dX12_findClouds_45 : decode cX12_findClouds 45 = .ok (.istore_n 1, 1) := by decide +kernel
theorem dX12_findClouds_46 : decode cX12_findClouds 46 = .ok (.iload_n 1, 1) := by decide +kernel
theorem dX12_findClouds_47 : decode cX12_findClouds 47 = .ok (.aload_n 0, 1) := by decide +kernel
theorem dX12_findClouds_48 : decode cX12_findClouds 48 = .ok (.getfield 86, 3) := by decide +kernel
theorem dX12_findClouds_51 : decode cX12_findClouds 51 = .ok (.iconst 0, 1) := by decide +kernel
theorem dX12_findClouds_52 : decode cX12_findClouds 52 = .ok (.iaload, 1) := by decide +kernel
theorem dX12_findClouds_53 : decode cX12_findClouds 53 = .ok (.if_icmp .ge 94, 3) := by decide +kernel
theorem dX12_findClouds_56 : decode cX12_findClouds 56 = .ok (.aload_n 0, 1) := by decide +kernel
theorem dX12_findClouds_57 : decode cX12_findClouds 57 = .ok (.iload_n 1, 1) := by decide +kernel
theorem dX12_findClouds_58 : decode cX12_findClouds 58 = .ok (.invokevirtual 414, 3) := by decide +kernel
theorem dX12_findClouds_61 : decode cX12_findClouds 61 = .ok (.iconst 0, 1) := by decide +kernel
theorem dX12_findClouds_62 : decode cX12_findClouds 62 = .ok (.istore_n 2, 1) := by decide +kernel
theorem dX12_findClouds_63 : decode cX12_findClouds 63 = .ok (.iload_n 2, 1) := by decide +kernel
theorem dX12_findClouds_64 : decode cX12_findClouds 64 = .ok (.sipush 3600, 3) := by decide +kernel
theorem dX12_findClouds_67 : decode cX12_findClouds 67 = .ok (.if_icmp .ge 34, 3) := by decide +kernel
theorem dX12_findClouds_70 : decode cX12_findClouds 70 = .ok (.aload_n 0, 1) := by decide +kernel
theorem dX12_findClouds_71 : decode cX12_findClouds 71 = .ok (.getfield 152, 3) := by decide +kernel
theorem dX12_findClouds_74 : decode cX12_findClouds 74 = .ok (.iload_n 2, 1) := by decide +kernel
theorem dX12_findClouds_75 : decode cX12_findClouds 75 = .ok (.dup2, 1) := by decide +kernel
theorem dX12_findClouds_76 : decode cX12_findClouds 76 = .ok (.iaload, 1) := by decide +kernel
theorem dX12_findClouds_77 : decode cX12_findClouds 77 = .ok (.aload_n 0, 1) := by decide +kernel
theorem dX12_findClouds_78 : decode cX12_findClouds 78 = .ok (.getfield 121, 3) := by decide +kernel
theorem dX12_findClouds_81 : decode cX12_findClouds 81 = .ok (.iload_n 2, 1) := by decide +kernel
theorem dX12_findClouds_82 : decode cX12_findClouds 82 = .ok (.baload, 1) := by decide +kernel
theorem dX12_findClouds_83 : decode cX12_findClouds 83 = .ok (.ifCond .eq 9, 3) := by decide +kernel
theorem dX12_findClouds_86 : decode cX12_findClouds 86 = .ok (.iconst 1, 1) := by decide +kernel
theorem dX12_findClouds_87 : decode cX12_findClouds 87 = .ok (.iload_n 1, 1) := by decide +kernel
theorem dX12_findClouds_88 : decode cX12_findClouds 88 = .ok (.ishl, 1) := by decide +kernel
theorem dX12_findClouds_89 : decode cX12_findClouds 89 = .ok (.goto 4, 3) := by decide +kernel
theorem dX12_findClouds_92 : decode cX12_findClouds 92 = .ok (.iconst 0, 1) := by decide +kernel
theorem dX12_findClouds_93 : decode cX12_findClouds 93 = .ok (.ior, 1) := by decide +kernel
theorem dX12_findClouds_94 : decode cX12_findClouds 94 = .ok (.iastore, 1) := by decide +kernel
theorem dX12_findClouds_95 : decode cX12_findClouds 95 = .ok (.iinc 2 1, 3) := by decide +kernel
theorem dX12_findClouds_98 : decode cX12_findClouds 98 = .ok (.goto (-35), 3) := by decide +kernel
theorem dX12_findClouds_101 : decode cX12_findClouds 101 = .ok (.iconst 0, 1) := by decide +kernel
theorem dX12_findClouds_102 : decode cX12_findClouds 102 = .ok (.istore_n 2, 1) := by decide +kernel
theorem dX12_findClouds_103 : decode cX12_findClouds 103 = .ok (.iload_n 2, 1) := by decide +kernel
theorem dX12_findClouds_104 : decode cX12_findClouds 104 = .ok (.sipush 8640, 3) := by decide +kernel
theorem dX12_findClouds_107 : decode cX12_findClouds 107 = .ok (.if_icmp .ge 34, 3) := by decide +kernel
theorem dX12_findClouds_110 : decode cX12_findClouds 110 = .ok (.aload_n 0, 1) := by decide +kernel
theorem dX12_findClouds_111 : decode cX12_findClouds 111 = .ok (.getfield 155, 3) := by decide +kernel
theorem dX12_findClouds_114 : decode cX12_findClouds 114 = .ok (.iload_n 2, 1) := by decide +kernel
theorem dX12_findClouds_115 : decode cX12_findClouds 115 = .ok (.dup2, 1) := by decide +kernel
theorem dX12_findClouds_116 : decode cX12_findClouds 116 = .ok (.iaload, 1) := by decide +kernel
theorem dX12_findClouds_117 : decode cX12_findClouds 117 = .ok (.aload_n 0, 1) := by decide +kernel
theorem dX12_findClouds_118 : decode cX12_findClouds 118 = .ok (.getfield 125, 3) := by decide +kernel
theorem dX12_findClouds_121 : decode cX12_findClouds 121 = .ok (.iload_n 2, 1) := by decide +kernel
theorem dX12_findClouds_122 : decode cX12_findClouds 122 = .ok (.baload, 1) := by decide +kernel
theorem dX12_findClouds_123 : decode cX12_findClouds 123 = .ok (.ifCond .eq 9, 3) := by decide +kernel
theorem dX12_findClouds_126 : decode cX12_findClouds 126 = .ok (.iconst 1, 1) := by decide +kernel
theorem dX12_findClouds_127 : decode cX12_findClouds 127 = .ok (.iload_n 1, 1) := by decide +kernel
theorem dX12_findClouds_128 : decode cX12_findClouds 128 = .ok (.ishl, 1) := by decide +kernel
theorem dX12_findClouds_129 : decode cX12_findClouds 129 = .ok (.goto 4, 3) := by decide +kernel
theorem dX12_findClouds_132 : decode cX12_findClouds 132 = .ok (.iconst 0, 1) := by decide +kernel
theorem dX12_findClouds_133 : decode cX12_findClouds 133 = .ok (.ior, 1) := by decide +kernel
theorem dX12_findClouds_134 : decode cX12_findClouds 134 = .ok (.iastore, 1) := by decide +kernel
theorem dX12_findClouds_135 : decode cX12_findClouds 135 = .ok (.iinc 2 1, 3) := by decide +kernel
theorem dX12_findClouds_138 : decode cX12_findClouds 138 = .ok (.goto (-35), 3) := by decide +kernel
theorem dX12_findClouds_141 : decode cX12_findClouds 141 = .ok (.iinc 1 1, 3) := by decide +kernel
theorem dX12_findClouds_144 : decode cX12_findClouds 144 = .ok (.goto (-98), 3) := by decide +kernel
theorem dX12_findClouds_147 : decode cX12_findClouds 147 = .ok (.return_, 1) := by decide +kernel
theorem dX12_mostOf_0 : decode cX12_mostOf 0 = .ok (.iconst 0, 1) := by decide +kernel
theorem dX12_mostOf_1 : decode cX12_mostOf 1 = .ok (.istore_n 2, 1) := by decide +kernel
theorem dX12_mostOf_2 : decode cX12_mostOf 2 = .ok (.iload_n 2, 1) := by decide +kernel
theorem dX12_mostOf_3 : decode cX12_mostOf 3 = .ok (.sipush 256, 3) := by decide +kernel
theorem dX12_mostOf_6 : decode cX12_mostOf 6 = .ok (.if_icmp .ge 16, 3) := by decide +kernel
theorem dX12_mostOf_9 : decode cX12_mostOf 9 = .ok (.aload_n 0, 1) := by decide +kernel
theorem dX12_mostOf_10 : decode cX12_mostOf 10 = .ok (.getfield 158, 3) := by decide +kernel
theorem dX12_mostOf_13 : decode cX12_mostOf 13 = .ok (.iload_n 2, 1) := by decide +kernel
theorem dX12_mostOf_14 : decode cX12_mostOf 14 = .ok (.iconst 0, 1) := by decide +kernel
theorem dX12_mostOf_15 : decode cX12_mostOf 15 = .ok (.bastore, 1) := by decide +kernel
theorem dX12_mostOf_16 : decode cX12_mostOf 16 = .ok (.iinc 2 1, 3) := by decide +kernel
theorem dX12_mostOf_19 : decode cX12_mostOf 19 = .ok (.goto (-17), 3) := by decide +kernel
theorem dX12_mostOf_22 : decode cX12_mostOf 22 = .ok (.iconst 0, 1) := by decide +kernel
theorem dX12_mostOf_23 : decode cX12_mostOf 23 = .ok (.istore_n 2, 1) := by decide +kernel
theorem dX12_mostOf_24 : decode cX12_mostOf 24 = .ok (.iload_n 2, 1) := by decide +kernel
theorem dX12_mostOf_25 : decode cX12_mostOf 25 = .ok (.sipush 3600, 3) := by decide +kernel
theorem dX12_mostOf_28 : decode cX12_mostOf 28 = .ok (.if_icmp .ge 76, 3) := by decide +kernel
theorem dX12_mostOf_31 : decode cX12_mostOf 31 = .ok (.aload_n 0, 1) := by decide +kernel
theorem dX12_mostOf_32 : decode cX12_mostOf 32 = .ok (.getfield 152, 3) := by decide +kernel
theorem dX12_mostOf_35 : decode cX12_mostOf 35 = .ok (.iload_n 2, 1) := by decide +kernel
theorem dX12_mostOf_36 : decode cX12_mostOf 36 = .ok (.iaload, 1) := by decide +kernel
theorem dX12_mostOf_37 : decode cX12_mostOf 37 = .ok (.iload_n 1, 1) := by decide +kernel
theorem dX12_mostOf_38 : decode cX12_mostOf 38 = .ok (.iand, 1) := by decide +kernel
theorem dX12_mostOf_39 : decode cX12_mostOf 39 = .ok (.istore_n 3, 1) := by decide +kernel
theorem dX12_mostOf_40 : decode cX12_mostOf 40 = .ok (.iload_n 2, 1) := by decide +kernel
theorem dX12_mostOf_41 : decode cX12_mostOf 41 = .ok (.sipush 360, 3) := by decide +kernel
theorem dX12_mostOf_44 : decode cX12_mostOf 44 = .ok (.irem, 1) := by decide +kernel
theorem dX12_mostOf_45 : decode cX12_mostOf 45 = .ok (.bipush 30, 2) := by decide +kernel
theorem dX12_mostOf_47 : decode cX12_mostOf 47 = .ok (.idiv, 1) := by decide +kernel
theorem dX12_mostOf_48 : decode cX12_mostOf 48 = .ok (.istore 4, 2) := by decide +kernel
theorem dX12_mostOf_50 : decode cX12_mostOf 50 = .ok (.sipush 720, 3) := by decide +kernel
theorem dX12_mostOf_53 : decode cX12_mostOf 53 = .ok (.iload 4, 2) := by decide +kernel
theorem dX12_mostOf_55 : decode cX12_mostOf 55 = .ok (.imul, 1) := by decide +kernel
theorem dX12_mostOf_56 : decode cX12_mostOf 56 = .ok (.istore 5, 2) := by decide +kernel
theorem dX12_mostOf_58 : decode cX12_mostOf 58 = .ok (.iload 5, 2) := by decide +kernel
theorem dX12_mostOf_60 : decode cX12_mostOf 60 = .ok (.sipush 720, 3) := by decide +kernel
theorem dX12_mostOf_63 : decode cX12_mostOf 63 = .ok (.iload 4, 2) := by decide +kernel
theorem dX12_mostOf_65 : decode cX12_mostOf 65 = .ok (.imul, 1) := by decide +kernel
theorem dX12_mostOf_66 : decode cX12_mostOf 66 = .ok (.sipush 720, 3) := by decide +kernel
theorem dX12_mostOf_69 : decode cX12_mostOf 69 = .ok (.iadd, 1) := by decide +kernel
theorem dX12_mostOf_70 : decode cX12_mostOf 70 = .ok (.if_icmp .ge 28, 3) := by decide +kernel
theorem dX12_mostOf_73 : decode cX12_mostOf 73 = .ok (.iload_n 3, 1) := by decide +kernel
theorem dX12_mostOf_74 : decode cX12_mostOf 74 = .ok (.ifCond .le 24, 3) := by decide +kernel
theorem dX12_mostOf_77 : decode cX12_mostOf 77 = .ok (.aload_n 0, 1) := by decide +kernel
theorem dX12_mostOf_78 : decode cX12_mostOf 78 = .ok (.getfield 158, 3) := by decide +kernel
theorem dX12_mostOf_81 : decode cX12_mostOf 81 = .ok (.iload_n 3, 1) := by decide +kernel
theorem dX12_mostOf_82 : decode cX12_mostOf 82 = .ok (.aload_n 0, 1) := by decide +kernel
theorem dX12_mostOf_83 : decode cX12_mostOf 83 = .ok (.getfield 155, 3) := by decide +kernel
theorem dX12_mostOf_86 : decode cX12_mostOf 86 = .ok (.iload 5, 2) := by decide +kernel
theorem dX12_mostOf_88 : decode cX12_mostOf 88 = .ok (.iaload, 1) := by decide +kernel
theorem dX12_mostOf_89 : decode cX12_mostOf 89 = .ok (.iand, 1) := by decide +kernel
theorem dX12_mostOf_90 : decode cX12_mostOf 90 = .ok (.iconst 1, 1) := by decide +kernel
theorem dX12_mostOf_91 : decode cX12_mostOf 91 = .ok (.bastore, 1) := by decide +kernel
theorem dX12_mostOf_92 : decode cX12_mostOf 92 = .ok (.iinc 5 1, 3) := by decide +kernel
theorem dX12_mostOf_95 : decode cX12_mostOf 95 = .ok (.goto (-37), 3) := by decide +kernel
theorem dX12_mostOf_98 : decode cX12_mostOf 98 = .ok (.iinc 2 1, 3) := by decide +kernel
theorem dX12_mostOf_101 : decode cX12_mostOf 101 = .ok (.goto (-77), 3) := by decide +kernel
theorem dX12_mostOf_104 : decode cX12_mostOf 104 = .ok (.iconst 0, 1) := by decide +kernel
theorem dX12_mostOf_105 : decode cX12_mostOf 105 = .ok (.istore_n 2, 1) := by decide +kernel
theorem dX12_mostOf_106 : decode cX12_mostOf 106 = .ok (.sipush 255, 3) := by decide +kernel
theorem dX12_mostOf_109 : decode cX12_mostOf 109 = .ok (.istore_n 3, 1) := by decide +kernel
theorem dX12_mostOf_110 : decode cX12_mostOf 110 = .ok (.iload_n 3, 1) := by decide +kernel
theorem dX12_mostOf_111 : decode cX12_mostOf 111 = .ok (.ifCond .le 31, 3) := by decide +kernel
theorem dX12_mostOf_114 : decode cX12_mostOf 114 = .ok (.aload_n 0, 1) := by decide +kernel
theorem dX12_mostOf_115 : decode cX12_mostOf 115 = .ok (.getfield 158, 3) := by decide +kernel
theorem dX12_mostOf_118 : decode cX12_mostOf 118 = .ok (.iload_n 3, 1) := by decide +kernel
theorem dX12_mostOf_119 : decode cX12_mostOf 119 = .ok (.baload, 1) := by decide +kernel
theorem dX12_mostOf_120 : decode cX12_mostOf 120 = .ok (.ifCond .eq 16, 3) := by decide +kernel
theorem dX12_mostOf_123 : decode cX12_mostOf 123 = .ok (.iload_n 3, 1) := by decide +kernel
theorem dX12_mostOf_124 : decode cX12_mostOf 124 = .ok (.invokestatic 440, 3) := by decide +kernel
theorem dX12_mostOf_127 : decode cX12_mostOf 127 = .ok (.iload_n 2, 1) := by decide +kernel
theorem dX12_mostOf_128 : decode cX12_mostOf 128 = .ok (.invokestatic 440, 3) := by decide +kernel
theorem dX12_mostOf_131 : decode cX12_mostOf 131 = .ok (.if_icmp .lt 5, 3) := by decide +kernel
theorem dX12_mostOf_134 : decode cX12_mostOf 134 = .ok (.iload_n 3, 1) := by decide +kernel
theorem dX12_mostOf_135 : decode cX12_mostOf 135 = .ok (.istore_n 2, 1) := by decide +kernel
theorem dX12_mostOf_136 : decode cX12_mostOf 136 = .ok (.iinc 3 (-1), 3) := by decide +kernel
theorem dX12_mostOf_139 : decode cX12_mostOf 139 = .ok (.goto (-29), 3) := by decide +kernel
theorem dX12_mostOf_142 : decode cX12_mostOf 142 = .ok (.iload_n 2, 1) := by decide +kernel
theorem dX12_mostOf_143 : decode cX12_mostOf 143 = .ok (.ireturn, 1) := by decide +kernel
theorem dX12_cloud_0 : decode cX12_cloud 0 = .ok (.iload_n 1, 1) := by decide +kernel
theorem dX12_cloud_1 : decode cX12_cloud 1 = .ok (.iconst 1, 1) := by decide +kernel
theorem dX12_cloud_2 : decode cX12_cloud 2 = .ok (.if_icmp .lt 24, 3) := by decide +kernel
theorem dX12_cloud_5 : decode cX12_cloud 5 = .ok (.iload_n 1, 1) := by decide +kernel
theorem dX12_cloud_6 : decode cX12_cloud 6 = .ok (.iconst 1, 1) := by decide +kernel
theorem dX12_cloud_7 : decode cX12_cloud 7 = .ok (.aload_n 0, 1) := by decide +kernel
theorem dX12_cloud_8 : decode cX12_cloud 8 = .ok (.getfield 86, 3) := by decide +kernel
theorem dX12_cloud_11 : decode cX12_cloud 11 = .ok (.iconst 0, 1) := by decide +kernel
theorem dX12_cloud_12 : decode cX12_cloud 12 = .ok (.iaload, 1) := by decide +kernel
theorem dX12_cloud_13 : decode cX12_cloud 13 = .ok (.ishl, 1) := by decide +kernel
theorem dX12_cloud_14 : decode cX12_cloud 14 = .ok (.if_icmp .ge 12, 3) := by decide +kernel
theorem dX12_cloud_17 : decode cX12_cloud 17 = .ok (.iload_n 2, 1) := by decide +kernel
theorem dX12_cloud_18 : decode cX12_cloud 18 = .ok (.iconst 0, 1) := by decide +kernel
theorem dX12_cloud_19 : decode cX12_cloud 19 = .ok (.iconst 2, 1) := by decide +kernel
theorem dX12_cloud_20 : decode cX12_cloud 20 = .ok (.invokestatic 189, 3) := by decide +kernel
theorem dX12_cloud_23 : decode cX12_cloud 23 = .ok (.ifCond .ne 5, 3) := by decide +kernel
theorem dX12_cloud_26 : decode cX12_cloud 26 = .ok (.iconst (-1), 1) := by decide +kernel
theorem dX12_cloud_27 : decode cX12_cloud 27 = .ok (.ireturn, 1) := by decide +kernel
theorem dX12_cloud_28 : decode cX12_cloud 28 = .ok (.aload_n 0, 1) := by decide +kernel
theorem dX12_cloud_29 : decode cX12_cloud 29 = .ok (.invokevirtual 475, 3) := by decide +kernel
theorem dX12_cloud_32 : decode cX12_cloud 32 = .ok (.iload_n 2, 1) := by decide +kernel
theorem dX12_cloud_33 : decode cX12_cloud 33 = .ok (.iconst 2, 1) := by decide +kernel
theorem dX12_cloud_34 : decode cX12_cloud 34 = .ok (.if_icmp .ne 9, 3) := by decide +kernel
theorem dX12_cloud_37 : decode cX12_cloud 37 = .ok (.aload_n 0, 1) := by decide +kernel
theorem dX12_cloud_38 : decode cX12_cloud 38 = .ok (.iload_n 1, 1) := by decide +kernel
theorem dX12_cloud_39 : decode cX12_cloud 39 = .ok (.invokevirtual 478, 3) := by decide +kernel
theorem dX12_cloud_42 : decode cX12_cloud 42 = .ok (.ireturn, 1) := by decide +kernel
theorem dX12_cloud_43 : decode cX12_cloud 43 = .ok (.iconst 0, 1) := by decide +kernel
theorem dX12_cloud_44 : decode cX12_cloud 44 = .ok (.istore_n 3, 1) := by decide +kernel
theorem dX12_cloud_45 : decode cX12_cloud 45 = .ok (.iconst 0, 1) := by decide +kernel
theorem dX12_cloud_46 : decode cX12_cloud 46 = .ok (.istore 4, 2) := by decide +kernel
theorem dX12_cloud_48 : decode cX12_cloud 48 = .ok (.iload 4, 2) := by decide +kernel
theorem dX12_cloud_50 : decode cX12_cloud 50 = .ok (.sipush 3600, 3) := by decide +kernel
theorem dX12_cloud_53 : decode cX12_cloud 53 = .ok (.if_icmp .ge 94, 3) := by decide +kernel
theorem dX12_cloud_56 : decode cX12_cloud 56 = .ok (.aload_n 0, 1) := by decide +kernel
theorem dX12_cloud_57 : decode cX12_cloud 57 = .ok (.getfield 152, 3) := by decide +kernel
theorem dX12_cloud_60 : decode cX12_cloud 60 = .ok (.iload 4, 2) := by decide +kernel
theorem dX12_cloud_62 : decode cX12_cloud 62 = .ok (.iaload, 1) := by decide +kernel
theorem dX12_cloud_63 : decode cX12_cloud 63 = .ok (.iload_n 1, 1) := by decide +kernel
theorem dX12_cloud_64 : decode cX12_cloud 64 = .ok (.iand, 1) := by decide +kernel
theorem dX12_cloud_65 : decode cX12_cloud 65 = .ok (.iload_n 1, 1) := by decide +kernel
theorem dX12_cloud_66 : decode cX12_cloud 66 = .ok (.if_icmp .eq 6, 3) := by decide +kernel
theorem dX12_cloud_69 : decode cX12_cloud 69 = .ok (.goto 72, 3) := by decide +kernel
theorem dX12_cloud_72 : decode cX12_cloud 72 = .ok (.iload 4, 2) := by decide +kernel
theorem dX12_cloud_74 : decode cX12_cloud 74 = .ok (.sipush 360, 3) := by decide +kernel
theorem dX12_cloud_77 : decode cX12_cloud 77 = .ok (.irem, 1) := by decide +kernel
theorem dX12_cloud_78 : decode cX12_cloud 78 = .ok (.bipush 30, 2) := by decide +kernel
theorem dX12_cloud_80 : decode cX12_cloud 80 = .ok (.idiv, 1) := by decide +kernel
theorem dX12_cloud_81 : decode cX12_cloud 81 = .ok (.istore 5, 2) := by decide +kernel
theorem dX12_cloud_83 : decode cX12_cloud 83 = .ok (.iconst 0, 1) := by decide +kernel
theorem dX12_cloud_84 : decode cX12_cloud 84 = .ok (.istore 6, 2) := by decide +kernel
theorem dX12_cloud_86 : decode cX12_cloud 86 = .ok (.iload 6, 2) := by decide +kernel
theorem dX12_cloud_88 : decode cX12_cloud 88 = .ok (.sipush 720, 3) := by decide +kernel
theorem dX12_cloud_91 : decode cX12_cloud 91 = .ok (.if_icmp .ge 50, 3) := by decide +kernel
theorem dX12_cloud_94 : decode cX12_cloud 94 = .ok (.aload_n 0, 1) := by decide +kernel
theorem dX12_cloud_95 : decode cX12_cloud 95 = .ok (.getfield 155, 3) := by decide +kernel
theorem dX12_cloud_98 : decode cX12_cloud 98 = .ok (.sipush 720, 3) := by decide +kernel
theorem dX12_cloud_101 : decode cX12_cloud 101 = .ok (.iload 5, 2) := by decide +kernel
theorem dX12_cloud_103 : decode cX12_cloud 103 = .ok (.imul, 1) := by decide +kernel
theorem dX12_cloud_104 : decode cX12_cloud 104 = .ok (.iload 6, 2) := by decide +kernel
theorem dX12_cloud_106 : decode cX12_cloud 106 = .ok (.iadd, 1) := by decide +kernel
theorem dX12_cloud_107 : decode cX12_cloud 107 = .ok (.iaload, 1) := by decide +kernel
theorem dX12_cloud_108 : decode cX12_cloud 108 = .ok (.iload_n 1, 1) := by decide +kernel
theorem dX12_cloud_109 : decode cX12_cloud 109 = .ok (.iand, 1) := by decide +kernel
theorem dX12_cloud_110 : decode cX12_cloud 110 = .ok (.iload_n 1, 1) := by decide +kernel
theorem dX12_cloud_111 : decode cX12_cloud 111 = .ok (.if_icmp .eq 6, 3) := by decide +kernel
theorem dX12_cloud_114 : decode cX12_cloud 114 = .ok (.goto 21, 3) := by decide +kernel
theorem dX12_cloud_117 : decode cX12_cloud 117 = .ok (.iload_n 2, 1) := by decide +kernel
theorem dX12_cloud_118 : decode cX12_cloud 118 = .ok (.iconst 1, 1) := by decide +kernel
theorem dX12_cloud_119 : decode cX12_cloud 119 = .ok (.if_icmp .ne 13, 3) := by decide +kernel
theorem dX12_cloud_122 : decode cX12_cloud 122 = .ok (.sipush 720, 3) := by decide +kernel
theorem dX12_cloud_125 : decode cX12_cloud 125 = .ok (.iload 4, 2) := by decide +kernel
theorem dX12_cloud_127 : decode cX12_cloud 127 = .ok (.imul, 1) := by decide +kernel
theorem dX12_cloud_128 : decode cX12_cloud 128 = .ok (.iload 6, 2) := by decide +kernel
theorem dX12_cloud_130 : decode cX12_cloud 130 = .ok (.iadd, 1) := by decide +kernel
theorem dX12_cloud_131 : decode cX12_cloud 131 = .ok (.ireturn, 1) := by decide +kernel
theorem dX12_cloud_132 : decode cX12_cloud 132 = .ok (.iinc 3 1, 3) := by decide +kernel
theorem dX12_cloud_135 : decode cX12_cloud 135 = .ok (.iinc 6 1, 3) := by decide +kernel
theorem dX12_cloud_138 : decode cX12_cloud 138 = .ok (.goto (-52), 3) := by decide +kernel
theorem dX12_cloud_141 : decode cX12_cloud 141 = .ok (.iinc 4 1, 3) := by decide +kernel
theorem dX12_cloud_144 : decode cX12_cloud 144 = .ok (.goto (-96), 3) := by decide +kernel
theorem dX12_cloud_147 : decode cX12_cloud 147 = .ok (.iload_n 2, 1) := by decide +kernel
theorem dX12_cloud_148 : decode cX12_cloud 148 = .ok (.ifCond .ne 7, 3) := by decide +kernel
theorem dX12_cloud_151 : decode cX12_cloud 151 = .ok (.iload_n 3, 1) := by decide +kernel
theorem dX12_cloud_152 : decode cX12_cloud 152 = .ok (.goto 4, 3) := by decide +kernel
theorem dX12_cloud_155 : decode cX12_cloud 155 = .ok (.iconst (-1), 1) := by decide +kernel
theorem dX12_cloud_156 : decode cX12_cloud 156 = .ok (.ireturn, 1) := by decide +kernel
theorem dX12_copies_0 : decode cX12_copies 0 = .ok (.aload_n 0, 1) := by decide +kernel
theorem dX12_copies_1 : decode cX12_copies 1 = .ok (.getfield 86, 3) := by decide +kernel
theorem dX12_copies_4 : decode cX12_copies 4 = .ok (.iload_n 2, 1) := by decide +kernel
theorem dX12_copies_5 : decode cX12_copies 5 = .ok (.aload_n 0, 1) := by decide +kernel
theorem dX12_copies_6 : decode cX12_copies 6 = .ok (.getfield 86, 3) := by decide +kernel
theorem dX12_copies_9 : decode cX12_copies 9 = .ok (.iload_n 1, 1) := by decide +kernel
theorem dX12_copies_10 : decode cX12_copies 10 = .ok (.iaload, 1) := by decide +kernel
theorem dX12_copies_11 : decode cX12_copies 11 = .ok (.iastore, 1) := by decide +kernel
theorem dX12_copies_12 : decode cX12_copies 12 = .ok (.iconst 0, 1) := by decide +kernel
theorem dX12_copies_13 : decode cX12_copies 13 = .ok (.istore_n 3, 1) := by decide +kernel
theorem dX12_copies_14 : decode cX12_copies 14 = .ok (.iload_n 3, 1) := by decide +kernel
theorem dX12_copies_15 : decode cX12_copies 15 = .ok (.bipush 8, 2) := by decide +kernel
theorem dX12_copies_17 : decode cX12_copies 17 = .ok (.if_icmp .ge 31, 3) := by decide +kernel
theorem dX12_copies_20 : decode cX12_copies 20 = .ok (.aload_n 0, 1) := by decide +kernel
theorem dX12_copies_21 : decode cX12_copies 21 = .ok (.getfield 89, 3) := by decide +kernel
theorem dX12_copies_24 : decode cX12_copies 24 = .ok (.bipush 8, 2) := by decide +kernel
theorem dX12_copies_26 : decode cX12_copies 26 = .ok (.iload_n 2, 1) := by decide +kernel
theorem dX12_copies_27 : decode cX12_copies 27 = .ok (.imul, 1) := by decide +kernel
theorem dX12_copies_28 : decode cX12_copies 28 = .ok (.iload_n 3, 1) := by decide +kernel
theorem dX12_copies_29 : decode cX12_copies 29 = .ok (.iadd, 1) := by decide +kernel
theorem dX12_copies_30 : decode cX12_copies 30 = .ok (.aload_n 0, 1) := by decide +kernel
theorem dX12_copies_31 : decode cX12_copies 31 = .ok (.getfield 89, 3) := by decide +kernel
theorem dX12_copies_34 : decode cX12_copies 34 = .ok (.bipush 8, 2) := by decide +kernel
theorem dX12_copies_36 : decode cX12_copies 36 = .ok (.iload_n 1, 1) := by decide +kernel
theorem dX12_copies_37 : decode cX12_copies 37 = .ok (.imul, 1) := by decide +kernel
theorem dX12_copies_38 : decode cX12_copies 38 = .ok (.iload_n 3, 1) := by decide +kernel
theorem dX12_copies_39 : decode cX12_copies 39 = .ok (.iadd, 1) := by decide +kernel
theorem dX12_copies_40 : decode cX12_copies 40 = .ok (.iaload, 1) := by decide +kernel
theorem dX12_copies_41 : decode cX12_copies 41 = .ok (.iastore, 1) := by decide +kernel
theorem dX12_copies_42 : decode cX12_copies 42 = .ok (.iinc 3 1, 3) := by decide +kernel
theorem dX12_copies_45 : decode cX12_copies 45 = .ok (.goto (-31), 3) := by decide +kernel
theorem dX12_copies_48 : decode cX12_copies 48 = .ok (.iconst 0, 1) := by decide +kernel
theorem dX12_copies_49 : decode cX12_copies 49 = .ok (.istore_n 3, 1) := by decide +kernel
theorem dX12_copies_50 : decode cX12_copies 50 = .ok (.iload_n 3, 1) := by decide +kernel
theorem dX12_copies_51 : decode cX12_copies 51 = .ok (.bipush 96, 2) := by decide +kernel
theorem dX12_copies_53 : decode cX12_copies 53 = .ok (.if_icmp .ge 119, 3) := by decide +kernel
theorem dX12_copies_56 : decode cX12_copies 56 = .ok (.aload_n 0, 1) := by decide +kernel
theorem dX12_copies_57 : decode cX12_copies 57 = .ok (.getfield 92, 3) := by decide +kernel
theorem dX12_copies_60 : decode cX12_copies 60 = .ok (.bipush 96, 2) := by decide +kernel
theorem dX12_copies_62 : decode cX12_copies 62 = .ok (.iload_n 2, 1) := by decide +kernel
theorem dX12_copies_63 : decode cX12_copies 63 = .ok (.imul, 1) := by decide +kernel
theorem dX12_copies_64 : decode cX12_copies 64 = .ok (.iload_n 3, 1) := by decide +kernel
theorem dX12_copies_65 : decode cX12_copies 65 = .ok (.iadd, 1) := by decide +kernel
theorem dX12_copies_66 : decode cX12_copies 66 = .ok (.aload_n 0, 1) := by decide +kernel
theorem dX12_copies_67 : decode cX12_copies 67 = .ok (.getfield 92, 3) := by decide +kernel
theorem dX12_copies_70 : decode cX12_copies 70 = .ok (.bipush 96, 2) := by decide +kernel
theorem dX12_copies_72 : decode cX12_copies 72 = .ok (.iload_n 1, 1) := by decide +kernel
theorem dX12_copies_73 : decode cX12_copies 73 = .ok (.imul, 1) := by decide +kernel
theorem dX12_copies_74 : decode cX12_copies 74 = .ok (.iload_n 3, 1) := by decide +kernel
theorem dX12_copies_75 : decode cX12_copies 75 = .ok (.iadd, 1) := by decide +kernel
theorem dX12_copies_76 : decode cX12_copies 76 = .ok (.iaload, 1) := by decide +kernel
theorem dX12_copies_77 : decode cX12_copies 77 = .ok (.iastore, 1) := by decide +kernel
theorem dX12_copies_78 : decode cX12_copies 78 = .ok (.aload_n 0, 1) := by decide +kernel
theorem dX12_copies_79 : decode cX12_copies 79 = .ok (.getfield 95, 3) := by decide +kernel
theorem dX12_copies_82 : decode cX12_copies 82 = .ok (.bipush 96, 2) := by decide +kernel
theorem dX12_copies_84 : decode cX12_copies 84 = .ok (.iload_n 2, 1) := by decide +kernel
theorem dX12_copies_85 : decode cX12_copies 85 = .ok (.imul, 1) := by decide +kernel
theorem dX12_copies_86 : decode cX12_copies 86 = .ok (.iload_n 3, 1) := by decide +kernel
theorem dX12_copies_87 : decode cX12_copies 87 = .ok (.iadd, 1) := by decide +kernel
theorem dX12_copies_88 : decode cX12_copies 88 = .ok (.aload_n 0, 1) := by decide +kernel
theorem dX12_copies_89 : decode cX12_copies 89 = .ok (.getfield 95, 3) := by decide +kernel
theorem dX12_copies_92 : decode cX12_copies 92 = .ok (.bipush 96, 2) := by decide +kernel
theorem dX12_copies_94 : decode cX12_copies 94 = .ok (.iload_n 1, 1) := by decide +kernel
theorem dX12_copies_95 : decode cX12_copies 95 = .ok (.imul, 1) := by decide +kernel
theorem dX12_copies_96 : decode cX12_copies 96 = .ok (.iload_n 3, 1) := by decide +kernel
theorem dX12_copies_97 : decode cX12_copies 97 = .ok (.iadd, 1) := by decide +kernel
theorem dX12_copies_98 : decode cX12_copies 98 = .ok (.iaload, 1) := by decide +kernel
theorem dX12_copies_99 : decode cX12_copies 99 = .ok (.iastore, 1) := by decide +kernel
theorem dX12_copies_100 : decode cX12_copies 100 = .ok (.aload_n 0, 1) := by decide +kernel
theorem dX12_copies_101 : decode cX12_copies 101 = .ok (.getfield 98, 3) := by decide +kernel
theorem dX12_copies_104 : decode cX12_copies 104 = .ok (.bipush 96, 2) := by decide +kernel
theorem dX12_copies_106 : decode cX12_copies 106 = .ok (.iload_n 2, 1) := by decide +kernel
theorem dX12_copies_107 : decode cX12_copies 107 = .ok (.imul, 1) := by decide +kernel
theorem dX12_copies_108 : decode cX12_copies 108 = .ok (.iload_n 3, 1) := by decide +kernel
theorem dX12_copies_109 : decode cX12_copies 109 = .ok (.iadd, 1) := by decide +kernel
theorem dX12_copies_110 : decode cX12_copies 110 = .ok (.aload_n 0, 1) := by decide +kernel
theorem dX12_copies_111 : decode cX12_copies 111 = .ok (.getfield 98, 3) := by decide +kernel
theorem dX12_copies_114 : decode cX12_copies 114 = .ok (.bipush 96, 2) := by decide +kernel
theorem dX12_copies_116 : decode cX12_copies 116 = .ok (.iload_n 1, 1) := by decide +kernel
theorem dX12_copies_117 : decode cX12_copies 117 = .ok (.imul, 1) := by decide +kernel
theorem dX12_copies_118 : decode cX12_copies 118 = .ok (.iload_n 3, 1) := by decide +kernel
theorem dX12_copies_119 : decode cX12_copies 119 = .ok (.iadd, 1) := by decide +kernel
theorem dX12_copies_120 : decode cX12_copies 120 = .ok (.iaload, 1) := by decide +kernel
theorem dX12_copies_121 : decode cX12_copies 121 = .ok (.iastore, 1) := by decide +kernel
theorem dX12_copies_122 : decode cX12_copies 122 = .ok (.aload_n 0, 1) := by decide +kernel
theorem dX12_copies_123 : decode cX12_copies 123 = .ok (.getfield 101, 3) := by decide +kernel
theorem dX12_copies_126 : decode cX12_copies 126 = .ok (.bipush 96, 2) := by decide +kernel
theorem dX12_copies_128 : decode cX12_copies 128 = .ok (.iload_n 2, 1) := by decide +kernel
theorem dX12_copies_129 : decode cX12_copies 129 = .ok (.imul, 1) := by decide +kernel
theorem dX12_copies_130 : decode cX12_copies 130 = .ok (.iload_n 3, 1) := by decide +kernel
theorem dX12_copies_131 : decode cX12_copies 131 = .ok (.iadd, 1) := by decide +kernel
theorem dX12_copies_132 : decode cX12_copies 132 = .ok (.aload_n 0, 1) := by decide +kernel
theorem dX12_copies_133 : decode cX12_copies 133 = .ok (.getfield 101, 3) := by decide +kernel
theorem dX12_copies_136 : decode cX12_copies 136 = .ok (.bipush 96, 2) := by decide +kernel
theorem dX12_copies_138 : decode cX12_copies 138 = .ok (.iload_n 1, 1) := by decide +kernel
theorem dX12_copies_139 : decode cX12_copies 139 = .ok (.imul, 1) := by decide +kernel
theorem dX12_copies_140 : decode cX12_copies 140 = .ok (.iload_n 3, 1) := by decide +kernel
theorem dX12_copies_141 : decode cX12_copies 141 = .ok (.iadd, 1) := by decide +kernel
theorem dX12_copies_142 : decode cX12_copies 142 = .ok (.iaload, 1) := by decide +kernel
theorem dX12_copies_143 : decode cX12_copies 143 = .ok (.iastore, 1) := by decide +kernel
theorem dX12_copies_144 : decode cX12_copies 144 = .ok (.aload_n 0, 1) := by decide +kernel
theorem dX12_copies_145 : decode cX12_copies 145 = .ok (.getfield 104, 3) := by decide +kernel
theorem dX12_copies_148 : decode cX12_copies 148 = .ok (.bipush 96, 2) := by decide +kernel
theorem dX12_copies_150 : decode cX12_copies 150 = .ok (.iload_n 2, 1) := by decide +kernel
theorem dX12_copies_151 : decode cX12_copies 151 = .ok (.imul, 1) := by decide +kernel
theorem dX12_copies_152 : decode cX12_copies 152 = .ok (.iload_n 3, 1) := by decide +kernel
theorem dX12_copies_153 : decode cX12_copies 153 = .ok (.iadd, 1) := by decide +kernel
theorem dX12_copies_154 : decode cX12_copies 154 = .ok (.aload_n 0, 1) := by decide +kernel
theorem dX12_copies_155 : decode cX12_copies 155 = .ok (.getfield 104, 3) := by decide +kernel
theorem dX12_copies_158 : decode cX12_copies 158 = .ok (.bipush 96, 2) := by decide +kernel
theorem dX12_copies_160 : decode cX12_copies 160 = .ok (.iload_n 1, 1) := by decide +kernel
theorem dX12_copies_161 : decode cX12_copies 161 = .ok (.imul, 1) := by decide +kernel
theorem dX12_copies_162 : decode cX12_copies 162 = .ok (.iload_n 3, 1) := by decide +kernel
theorem dX12_copies_163 : decode cX12_copies 163 = .ok (.iadd, 1) := by decide +kernel
theorem dX12_copies_164 : decode cX12_copies 164 = .ok (.iaload, 1) := by decide +kernel
theorem dX12_copies_165 : decode cX12_copies 165 = .ok (.iastore, 1) := by decide +kernel
theorem dX12_copies_166 : decode cX12_copies 166 = .ok (.iinc 3 1, 3) := by decide +kernel
theorem dX12_copies_169 : decode cX12_copies 169 = .ok (.goto (-119), 3) := by decide +kernel
theorem dX12_copies_172 : decode cX12_copies 172 = .ok (.iconst 0, 1) := by decide +kernel
theorem dX12_copies_173 : decode cX12_copies 173 = .ok (.istore_n 3, 1) := by decide +kernel
theorem dX12_copies_174 : decode cX12_copies 174 = .ok (.iload_n 3, 1) := by decide +kernel
theorem dX12_copies_175 : decode cX12_copies 175 = .ok (.bipush 12, 2) := by decide +kernel
theorem dX12_copies_177 : decode cX12_copies 177 = .ok (.if_icmp .ge 31, 3) := by decide +kernel
theorem dX12_copies_180 : decode cX12_copies 180 = .ok (.aload_n 0, 1) := by decide +kernel
theorem dX12_copies_181 : decode cX12_copies 181 = .ok (.getfield 107, 3) := by decide +kernel
theorem dX12_copies_184 : decode cX12_copies 184 = .ok (.bipush 12, 2) := by decide +kernel
theorem dX12_copies_186 : decode cX12_copies 186 = .ok (.iload_n 2, 1) := by decide +kernel
theorem dX12_copies_187 : decode cX12_copies 187 = .ok (.imul, 1) := by decide +kernel
theorem dX12_copies_188 : decode cX12_copies 188 = .ok (.iload_n 3, 1) := by decide +kernel
theorem dX12_copies_189 : decode cX12_copies 189 = .ok (.iadd, 1) := by decide +kernel
theorem dX12_copies_190 : decode cX12_copies 190 = .ok (.aload_n 0, 1) := by decide +kernel
theorem dX12_copies_191 : decode cX12_copies 191 = .ok (.getfield 107, 3) := by decide +kernel
theorem dX12_copies_194 : decode cX12_copies 194 = .ok (.bipush 12, 2) := by decide +kernel
theorem dX12_copies_196 : decode cX12_copies 196 = .ok (.iload_n 1, 1) := by decide +kernel
theorem dX12_copies_197 : decode cX12_copies 197 = .ok (.imul, 1) := by decide +kernel
theorem dX12_copies_198 : decode cX12_copies 198 = .ok (.iload_n 3, 1) := by decide +kernel
theorem dX12_copies_199 : decode cX12_copies 199 = .ok (.iadd, 1) := by decide +kernel
theorem dX12_copies_200 : decode cX12_copies 200 = .ok (.iaload, 1) := by decide +kernel
theorem dX12_copies_201 : decode cX12_copies 201 = .ok (.iastore, 1) := by decide +kernel
theorem dX12_copies_202 : decode cX12_copies 202 = .ok (.iinc 3 1, 3) := by decide +kernel
theorem dX12_copies_205 : decode cX12_copies 205 = .ok (.goto (-31), 3) := by decide +kernel
theorem dX12_copies_208 : decode cX12_copies 208 = .ok (.return_, 1) := by decide +kernel
theorem dX12_image_0 : decode cX12_image 0 = .ok (.aload_n 0, 1) := by decide +kernel
theorem dX12_image_1 : decode cX12_image 1 = .ok (.getfield 321, 3) := by decide +kernel
theorem dX12_image_4 : decode cX12_image 4 = .ok (.iconst 4, 1) := by decide +kernel
theorem dX12_image_5 : decode cX12_image 5 = .ok (.if_icmp .ne 5, 3) := by decide +kernel
theorem dX12_image_8 : decode cX12_image 8 = .ok (.iconst (-1), 1) := by decide +kernel
theorem dX12_image_9 : decode cX12_image 9 = .ok (.ireturn, 1) := by decide +kernel
theorem dX12_image_10 : decode cX12_image 10 = .ok (.aload_n 0, 1) := by decide +kernel
theorem dX12_image_11 : decode cX12_image 11 = .ok (.dup, 1) := by decide +kernel
theorem dX12_image_12 : decode cX12_image 12 = .ok (.getfield 321, 3) := by decide +kernel
theorem dX12_image_15 : decode cX12_image 15 = .ok (.iconst 1, 1) := by decide +kernel
theorem dX12_image_16 : decode cX12_image 16 = .ok (.iadd, 1) := by decide +kernel
theorem dX12_image_17 : decode cX12_image 17 = .ok (.putfield 321, 3) := by decide +kernel
theorem dX12_image_20 : decode cX12_image 20 = .ok (.aload_n 0, 1) := by decide +kernel
theorem dX12_image_21 : decode cX12_image 21 = .ok (.iconst 0, 1) := by decide +kernel
theorem dX12_image_22 : decode cX12_image 22 = .ok (.aload_n 0, 1) := by decide +kernel
theorem dX12_image_23 : decode cX12_image 23 = .ok (.getfield 321, 3) := by decide +kernel
theorem dX12_image_26 : decode cX12_image 26 = .ok (.invokevirtual 481, 3) := by decide +kernel
theorem dX12_image_29 : decode cX12_image 29 = .ok (.aload_n 0, 1) := by decide +kernel
theorem dX12_image_30 : decode cX12_image 30 = .ok (.getfield 321, 3) := by decide +kernel
theorem dX12_image_33 : decode cX12_image 33 = .ok (.iconst 1, 1) := by decide +kernel
theorem dX12_image_34 : decode cX12_image 34 = .ok (.isub, 1) := by decide +kernel
theorem dX12_image_35 : decode cX12_image 35 = .ok (.ireturn, 1) := by decide +kernel
theorem dX12_back_0 : decode cX12_back 0 = .ok (.iload_n 1, 1) := by decide +kernel
theorem dX12_back_1 : decode cX12_back 1 = .ok (.iconst 0, 1) := by decide +kernel
theorem dX12_back_2 : decode cX12_back 2 = .ok (.aload_n 0, 1) := by decide +kernel
theorem dX12_back_3 : decode cX12_back 3 = .ok (.getfield 321, 3) := by decide +kernel
theorem dX12_back_6 : decode cX12_back 6 = .ok (.iconst 1, 1) := by decide +kernel
theorem dX12_back_7 : decode cX12_back 7 = .ok (.isub, 1) := by decide +kernel
theorem dX12_back_8 : decode cX12_back 8 = .ok (.invokestatic 189, 3) := by decide +kernel
theorem dX12_back_11 : decode cX12_back 11 = .ok (.ifCond .ne 5, 3) := by decide +kernel
theorem dX12_back_14 : decode cX12_back 14 = .ok (.iconst 0, 1) := by decide +kernel
theorem dX12_back_15 : decode cX12_back 15 = .ok (.ireturn, 1) := by decide +kernel
theorem dX12_back_16 : decode cX12_back 16 = .ok (.aload_n 0, 1) := by decide +kernel
theorem dX12_back_17 : decode cX12_back 17 = .ok (.iload_n 1, 1) := by decide +kernel
theorem dX12_back_18 : decode cX12_back 18 = .ok (.iconst 1, 1) := by decide +kernel
theorem dX12_back_19 : decode cX12_back 19 = .ok (.iadd, 1) := by decide +kernel
theorem dX12_back_20 : decode cX12_back 20 = .ok (.iconst 0, 1) := by decide +kernel
theorem dX12_back_21 : decode cX12_back 21 = .ok (.invokevirtual 481, 3) := by decide +kernel
theorem dX12_back_24 : decode cX12_back 24 = .ok (.iconst 1, 1) := by decide +kernel
theorem dX12_back_25 : decode cX12_back 25 = .ok (.ireturn, 1) := by decide +kernel
theorem dX12_signsInAll_0 : decode cX12_signsInAll 0 = .ok (.iconst 0, 1) := by decide +kernel
theorem dX12_signsInAll_1 : decode cX12_signsInAll 1 = .ok (.istore_n 1, 1) := by decide +kernel
theorem dX12_signsInAll_2 : decode cX12_signsInAll 2 = .ok (.iconst 0, 1) := by decide +kernel
theorem dX12_signsInAll_3 : decode cX12_signsInAll 3 = .ok (.istore_n 2, 1) := by decide +kernel
theorem dX12_signsInAll_4 : decode cX12_signsInAll 4 = .ok (.iload_n 2, 1) := by decide +kernel
theorem dX12_signsInAll_5 : decode cX12_signsInAll 5 = .ok (.aload_n 0, 1) := by decide +kernel
theorem dX12_signsInAll_6 : decode cX12_signsInAll 6 = .ok (.getfield 86, 3) := by decide +kernel
theorem dX12_signsInAll_9 : decode cX12_signsInAll 9 = .ok (.iconst 0, 1) := by decide +kernel
theorem dX12_signsInAll_10 : decode cX12_signsInAll 10 = .ok (.iaload, 1) := by decide +kernel
theorem dX12_signsInAll_11 : decode cX12_signsInAll 11 = .ok (.if_icmp .ge 18, 3) := by decide +kernel
theorem dX12_signsInAll_14 : decode cX12_signsInAll 14 = .ok (.iload_n 1, 1) := by decide +kernel
theorem dX12_signsInAll_15 : decode cX12_signsInAll 15 = .ok (.aload_n 0, 1) := by decide +kernel
theorem dX12_signsInAll_16 : decode cX12_signsInAll 16 = .ok (.getfield 89, 3) := by decide +kernel
theorem dX12_signsInAll_19 : decode cX12_signsInAll 19 = .ok (.iload_n 2, 1) := by decide +kernel
theorem dX12_signsInAll_20 : decode cX12_signsInAll 20 = .ok (.iaload, 1) := by decide +kernel
theorem dX12_signsInAll_21 : decode cX12_signsInAll 21 = .ok (.iadd, 1) := by decide +kernel
theorem dX12_signsInAll_22 : decode cX12_signsInAll 22 = .ok (.istore_n 1, 1) := by decide +kernel
theorem dX12_signsInAll_23 : decode cX12_signsInAll 23 = .ok (.iinc 2 1, 3) := by decide +kernel
theorem dX12_signsInAll_26 : decode cX12_signsInAll 26 = .ok (.goto (-22), 3) := by decide +kernel
theorem dX12_signsInAll_29 : decode cX12_signsInAll 29 = .ok (.iload_n 1, 1) := by decide +kernel
theorem dX12_signsInAll_30 : decode cX12_signsInAll 30 = .ok (.ireturn, 1) := by decide +kernel
theorem dX12_count_0 : decode cX12_count 0 = .ok (.iload_n 1, 1) := by decide +kernel
theorem dX12_count_1 : decode cX12_count 1 = .ok (.bipush 10, 2) := by decide +kernel
theorem dX12_count_3 : decode cX12_count 3 = .ok (.bipush 21, 2) := by decide +kernel
theorem dX12_count_5 : decode cX12_count 5 = .ok (.invokestatic 189, 3) := by decide +kernel
theorem dX12_count_8 : decode cX12_count 8 = .ok (.ifCond .eq 13, 3) := by decide +kernel
theorem dX12_count_11 : decode cX12_count 11 = .ok (.aload_n 0, 1) := by decide +kernel
theorem dX12_count_12 : decode cX12_count 12 = .ok (.getfield 107, 3) := by decide +kernel
theorem dX12_count_15 : decode cX12_count 15 = .ok (.iload_n 1, 1) := by decide +kernel
theorem dX12_count_16 : decode cX12_count 16 = .ok (.bipush 10, 2) := by decide +kernel
theorem dX12_count_18 : decode cX12_count 18 = .ok (.isub, 1) := by decide +kernel
theorem dX12_count_19 : decode cX12_count 19 = .ok (.iaload, 1) := by decide +kernel
theorem dX12_count_20 : decode cX12_count 20 = .ok (.ireturn, 1) := by decide +kernel
theorem dX12_count_21 : decode cX12_count 21 = .ok (.iload_n 1, 1) := by decide +kernel
theorem dX12_count_22 : decode cX12_count 22 = .ok (.tableswitch 61 0 4 #[34, 39, 46, 51, 56], 34) := by decide +kernel
theorem dX12_count_56 : decode cX12_count 56 = .ok (.aload_n 0, 1) := by decide +kernel
theorem dX12_count_57 : decode cX12_count 57 = .ok (.getfield 318, 3) := by decide +kernel
theorem dX12_count_60 : decode cX12_count 60 = .ok (.ireturn, 1) := by decide +kernel
theorem dX12_count_61 : decode cX12_count 61 = .ok (.aload_n 0, 1) := by decide +kernel
theorem dX12_count_62 : decode cX12_count 62 = .ok (.getfield 86, 3) := by decide +kernel
theorem dX12_count_65 : decode cX12_count 65 = .ok (.iconst 0, 1) := by decide +kernel
theorem dX12_count_66 : decode cX12_count 66 = .ok (.iaload, 1) := by decide +kernel
theorem dX12_count_67 : decode cX12_count 67 = .ok (.ireturn, 1) := by decide +kernel
theorem dX12_count_68 : decode cX12_count 68 = .ok (.aload_n 0, 1) := by decide +kernel
theorem dX12_count_69 : decode cX12_count 69 = .ok (.getfield 161, 3) := by decide +kernel
theorem dX12_count_72 : decode cX12_count 72 = .ok (.ireturn, 1) := by decide +kernel
theorem dX12_count_73 : decode cX12_count 73 = .ok (.aload_n 0, 1) := by decide +kernel
theorem dX12_count_74 : decode cX12_count 74 = .ok (.getfield 321, 3) := by decide +kernel
theorem dX12_count_77 : decode cX12_count 77 = .ok (.ireturn, 1) := by decide +kernel
theorem dX12_count_78 : decode cX12_count 78 = .ok (.aload_n 0, 1) := by decide +kernel
theorem dX12_count_79 : decode cX12_count 79 = .ok (.invokevirtual 484, 3) := by decide +kernel
theorem dX12_count_82 : decode cX12_count 82 = .ok (.ireturn, 1) := by decide +kernel
theorem dX12_count_83 : decode cX12_count 83 = .ok (.iconst (-1), 1) := by decide +kernel
theorem dX12_count_84 : decode cX12_count 84 = .ok (.ireturn, 1) := by decide +kernel
theorem dJ6_bitCount_0f7a4_0 : decode cJ6_bitCount_0f7a4 0 = .ok (.iload_n 0, 1) := by decide +kernel
theorem dJ6_bitCount_0f7a4_1 : decode cJ6_bitCount_0f7a4 1 = .ok (.iload_n 0, 1) := by decide +kernel
theorem dJ6_bitCount_0f7a4_2 : decode cJ6_bitCount_0f7a4 2 = .ok (.iconst 1, 1) := by decide +kernel
theorem dJ6_bitCount_0f7a4_3 : decode cJ6_bitCount_0f7a4 3 = .ok (.iushr, 1) := by decide +kernel
theorem dJ6_bitCount_0f7a4_4 : decode cJ6_bitCount_0f7a4 4 = .ok (.ldc_w 265, 3) := by decide +kernel
theorem dJ6_bitCount_0f7a4_7 : decode cJ6_bitCount_0f7a4 7 = .ok (.iand, 1) := by decide +kernel
theorem dJ6_bitCount_0f7a4_8 : decode cJ6_bitCount_0f7a4 8 = .ok (.isub, 1) := by decide +kernel
theorem dJ6_bitCount_0f7a4_9 : decode cJ6_bitCount_0f7a4 9 = .ok (.istore_n 0, 1) := by decide +kernel
theorem dJ6_bitCount_0f7a4_10 : decode cJ6_bitCount_0f7a4 10 = .ok (.iload_n 0, 1) := by decide +kernel
theorem dJ6_bitCount_0f7a4_11 : decode cJ6_bitCount_0f7a4 11 = .ok (.ldc_w 266, 3) := by decide +kernel
theorem dJ6_bitCount_0f7a4_14 : decode cJ6_bitCount_0f7a4 14 = .ok (.iand, 1) := by decide +kernel
theorem dJ6_bitCount_0f7a4_15 : decode cJ6_bitCount_0f7a4 15 = .ok (.iload_n 0, 1) := by decide +kernel
theorem dJ6_bitCount_0f7a4_16 : decode cJ6_bitCount_0f7a4 16 = .ok (.iconst 2, 1) := by decide +kernel
theorem dJ6_bitCount_0f7a4_17 : decode cJ6_bitCount_0f7a4 17 = .ok (.iushr, 1) := by decide +kernel
theorem dJ6_bitCount_0f7a4_18 : decode cJ6_bitCount_0f7a4 18 = .ok (.ldc_w 266, 3) := by decide +kernel
theorem dJ6_bitCount_0f7a4_21 : decode cJ6_bitCount_0f7a4 21 = .ok (.iand, 1) := by decide +kernel
theorem dJ6_bitCount_0f7a4_22 : decode cJ6_bitCount_0f7a4 22 = .ok (.iadd, 1) := by decide +kernel
theorem dJ6_bitCount_0f7a4_23 : decode cJ6_bitCount_0f7a4 23 = .ok (.istore_n 0, 1) := by decide +kernel
theorem dJ6_bitCount_0f7a4_24 : decode cJ6_bitCount_0f7a4 24 = .ok (.iload_n 0, 1) := by decide +kernel
theorem dJ6_bitCount_0f7a4_25 : decode cJ6_bitCount_0f7a4 25 = .ok (.iload_n 0, 1) := by decide +kernel
theorem dJ6_bitCount_0f7a4_26 : decode cJ6_bitCount_0f7a4 26 = .ok (.iconst 4, 1) := by decide +kernel
theorem dJ6_bitCount_0f7a4_27 : decode cJ6_bitCount_0f7a4 27 = .ok (.iushr, 1) := by decide +kernel
theorem dJ6_bitCount_0f7a4_28 : decode cJ6_bitCount_0f7a4 28 = .ok (.iadd, 1) := by decide +kernel
theorem dJ6_bitCount_0f7a4_29 : decode cJ6_bitCount_0f7a4 29 = .ok (.ldc_w 267, 3) := by decide +kernel
theorem dJ6_bitCount_0f7a4_32 : decode cJ6_bitCount_0f7a4 32 = .ok (.iand, 1) := by decide +kernel
theorem dJ6_bitCount_0f7a4_33 : decode cJ6_bitCount_0f7a4 33 = .ok (.istore_n 0, 1) := by decide +kernel
theorem dJ6_bitCount_0f7a4_34 : decode cJ6_bitCount_0f7a4 34 = .ok (.iload_n 0, 1) := by decide +kernel
theorem dJ6_bitCount_0f7a4_35 : decode cJ6_bitCount_0f7a4 35 = .ok (.iload_n 0, 1) := by decide +kernel
theorem dJ6_bitCount_0f7a4_36 : decode cJ6_bitCount_0f7a4 36 = .ok (.bipush 8, 2) := by decide +kernel
theorem dJ6_bitCount_0f7a4_38 : decode cJ6_bitCount_0f7a4 38 = .ok (.iushr, 1) := by decide +kernel
theorem dJ6_bitCount_0f7a4_39 : decode cJ6_bitCount_0f7a4 39 = .ok (.iadd, 1) := by decide +kernel
theorem dJ6_bitCount_0f7a4_40 : decode cJ6_bitCount_0f7a4 40 = .ok (.istore_n 0, 1) := by decide +kernel
theorem dJ6_bitCount_0f7a4_41 : decode cJ6_bitCount_0f7a4 41 = .ok (.iload_n 0, 1) := by decide +kernel
theorem dJ6_bitCount_0f7a4_42 : decode cJ6_bitCount_0f7a4 42 = .ok (.iload_n 0, 1) := by decide +kernel
theorem dJ6_bitCount_0f7a4_43 : decode cJ6_bitCount_0f7a4 43 = .ok (.bipush 16, 2) := by decide +kernel
theorem dJ6_bitCount_0f7a4_45 : decode cJ6_bitCount_0f7a4 45 = .ok (.iushr, 1) := by decide +kernel
theorem dJ6_bitCount_0f7a4_46 : decode cJ6_bitCount_0f7a4 46 = .ok (.iadd, 1) := by decide +kernel
theorem dJ6_bitCount_0f7a4_47 : decode cJ6_bitCount_0f7a4 47 = .ok (.istore_n 0, 1) := by decide +kernel
theorem dJ6_bitCount_0f7a4_48 : decode cJ6_bitCount_0f7a4 48 = .ok (.iload_n 0, 1) := by decide +kernel
theorem dJ6_bitCount_0f7a4_49 : decode cJ6_bitCount_0f7a4 49 = .ok (.bipush 63, 2) := by decide +kernel
theorem dJ6_bitCount_0f7a4_51 : decode cJ6_bitCount_0f7a4 51 = .ok (.iand, 1) := by decide +kernel
theorem dJ6_bitCount_0f7a4_52 : decode cJ6_bitCount_0f7a4 52 = .ok (.ireturn, 1) := by decide +kernel
theorem dJ9_abs_0f7a4_0 : decode cJ9_abs_0f7a4 0 = .ok (.iload_n 0, 1) := by decide +kernel
theorem dJ9_abs_0f7a4_1 : decode cJ9_abs_0f7a4 1 = .ok (.ifCond .ge 8, 3) := by decide +kernel
theorem dJ9_abs_0f7a4_4 : decode cJ9_abs_0f7a4 4 = .ok (.iload_n 0, 1) := by decide +kernel
theorem dJ9_abs_0f7a4_5 : decode cJ9_abs_0f7a4 5 = .ok (.ineg, 1) := by decide +kernel
theorem dJ9_abs_0f7a4_6 : decode cJ9_abs_0f7a4 6 = .ok (.goto 4, 3) := by decide +kernel
theorem dJ9_abs_0f7a4_9 : decode cJ9_abs_0f7a4 9 = .ok (.iload_n 0, 1) := by decide +kernel
theorem dJ9_abs_0f7a4_10 : decode cJ9_abs_0f7a4 10 = .ok (.ireturn, 1) := by decide +kernel
theorem dJ9_abs_067f4_0 : decode cJ9_abs_067f4 0 = .ok (.lload_n 0, 1) := by decide +kernel
theorem dJ9_abs_067f4_1 : decode cJ9_abs_067f4 1 = .ok (.lconst 0, 1) := by decide +kernel
theorem dJ9_abs_067f4_2 : decode cJ9_abs_067f4 2 = .ok (.lcmp, 1) := by decide +kernel
theorem dJ9_abs_067f4_3 : decode cJ9_abs_067f4 3 = .ok (.ifCond .ge 8, 3) := by decide +kernel
theorem dJ9_abs_067f4_6 : decode cJ9_abs_067f4 6 = .ok (.lload_n 0, 1) := by decide +kernel
theorem dJ9_abs_067f4_7 : decode cJ9_abs_067f4 7 = .ok (.lneg, 1) := by decide +kernel
theorem dJ9_abs_067f4_8 : decode cJ9_abs_067f4 8 = .ok (.goto 4, 3) := by decide +kernel
theorem dJ9_abs_067f4_11 : decode cJ9_abs_067f4 11 = .ok (.lload_n 0, 1) := by decide +kernel
theorem dJ9_abs_067f4_12 : decode cJ9_abs_067f4 12 = .ok (.lreturn, 1) := by decide +kernel
theorem dJ9_max_7cf53_0 : decode cJ9_max_7cf53 0 = .ok (.iload_n 0, 1) := by decide +kernel
theorem dJ9_max_7cf53_1 : decode cJ9_max_7cf53 1 = .ok (.iload_n 1, 1) := by decide +kernel
theorem dJ9_max_7cf53_2 : decode cJ9_max_7cf53 2 = .ok (.if_icmp .lt 7, 3) := by decide +kernel
theorem dJ9_max_7cf53_5 : decode cJ9_max_7cf53 5 = .ok (.iload_n 0, 1) := by decide +kernel
theorem dJ9_max_7cf53_6 : decode cJ9_max_7cf53 6 = .ok (.goto 4, 3) := by decide +kernel
theorem dJ9_max_7cf53_9 : decode cJ9_max_7cf53 9 = .ok (.iload_n 1, 1) := by decide +kernel
theorem dJ9_max_7cf53_10 : decode cJ9_max_7cf53 10 = .ok (.ireturn, 1) := by decide +kernel
theorem dJ9_min_7cf53_0 : decode cJ9_min_7cf53 0 = .ok (.iload_n 0, 1) := by decide +kernel
theorem dJ9_min_7cf53_1 : decode cJ9_min_7cf53 1 = .ok (.iload_n 1, 1) := by decide +kernel
theorem dJ9_min_7cf53_2 : decode cJ9_min_7cf53 2 = .ok (.if_icmp .gt 7, 3) := by decide +kernel
theorem dJ9_min_7cf53_5 : decode cJ9_min_7cf53 5 = .ok (.iload_n 0, 1) := by decide +kernel
theorem dJ9_min_7cf53_6 : decode cJ9_min_7cf53 6 = .ok (.goto 4, 3) := by decide +kernel
theorem dJ9_min_7cf53_9 : decode cJ9_min_7cf53 9 = .ok (.iload_n 1, 1) := by decide +kernel
theorem dJ9_min_7cf53_10 : decode cJ9_min_7cf53 10 = .ok (.ireturn, 1) := by decide +kernel
theorem dJ0_length_8abf5_0 : decode cJ0_length_8abf5 0 = .ok (.aload_n 0, 1) := by decide +kernel
theorem dJ0_length_8abf5_1 : decode cJ0_length_8abf5 1 = .ok (.getfield 9, 3) := by decide +kernel
theorem dJ0_length_8abf5_4 : decode cJ0_length_8abf5 4 = .ok (.arraylength, 1) := by decide +kernel
theorem dJ0_length_8abf5_5 : decode cJ0_length_8abf5 5 = .ok (.aload_n 0, 1) := by decide +kernel
theorem dJ0_length_8abf5_6 : decode cJ0_length_8abf5 6 = .ok (.invokevirtual 335, 3) := by decide +kernel
theorem dJ0_length_8abf5_9 : decode cJ0_length_8abf5 9 = .ok (.ishr, 1) := by decide +kernel
theorem dJ0_length_8abf5_10 : decode cJ0_length_8abf5 10 = .ok (.ireturn, 1) := by decide +kernel
theorem dJ0_charAt_5068e_0 : decode cJ0_charAt_5068e 0 = .ok (.aload_n 0, 1) := by decide +kernel
theorem dJ0_charAt_5068e_1 : decode cJ0_charAt_5068e 1 = .ok (.invokevirtual 492, 3) := by decide +kernel
theorem dJ0_charAt_5068e_4 : decode cJ0_charAt_5068e 4 = .ok (.ifCond .eq 12, 3) := by decide +kernel
theorem dJ0_charAt_5068e_7 : decode cJ0_charAt_5068e 7 = .ok (.aload_n 0, 1) := by decide +kernel
theorem dJ0_charAt_5068e_8 : decode cJ0_charAt_5068e 8 = .ok (.getfield 9, 3) := by decide +kernel
theorem dJ0_charAt_5068e_11 : decode cJ0_charAt_5068e 11 = .ok (.iload_n 1, 1) := by decide +kernel
theorem dJ0_charAt_5068e_12 : decode cJ0_charAt_5068e 12 = .ok (.invokestatic 495, 3) := by decide +kernel
theorem dJ0_charAt_5068e_15 : decode cJ0_charAt_5068e 15 = .ok (.ireturn, 1) := by decide +kernel
theorem dJ0_charAt_5068e_16 : decode cJ0_charAt_5068e 16 = .ok (.aload_n 0, 1) := by decide +kernel
theorem dJ0_charAt_5068e_17 : decode cJ0_charAt_5068e 17 = .ok (.getfield 9, 3) := by decide +kernel
theorem dJ0_charAt_5068e_20 : decode cJ0_charAt_5068e 20 = .ok (.iload_n 1, 1) := by decide +kernel
theorem dJ0_charAt_5068e_21 : decode cJ0_charAt_5068e 21 = .ok (.invokestatic 498, 3) := by decide +kernel
theorem dJ0_charAt_5068e_24 : decode cJ0_charAt_5068e 24 = .ok (.ireturn, 1) := by decide +kernel
theorem dJ0_coder_7d493_0 : decode cJ0_coder_7d493 0 = .ok (.getstatic 38, 3) := by decide +kernel
theorem dJ0_coder_7d493_3 : decode cJ0_coder_7d493 3 = .ok (.ifCond .eq 10, 3) := by decide +kernel
theorem dJ0_coder_7d493_6 : decode cJ0_coder_7d493 6 = .ok (.aload_n 0, 1) := by decide +kernel
theorem dJ0_coder_7d493_7 : decode cJ0_coder_7d493 7 = .ok (.getfield 15, 3) := by decide +kernel
theorem dJ0_coder_7d493_10 : decode cJ0_coder_7d493 10 = .ok (.goto 4, 3) := by decide +kernel
theorem dJ0_coder_7d493_13 : decode cJ0_coder_7d493 13 = .ok (.iconst 1, 1) := by decide +kernel
theorem dJ0_coder_7d493_14 : decode cJ0_coder_7d493 14 = .ok (.ireturn, 1) := by decide +kernel
theorem dJ0_isLatin1_aae02_0 : decode cJ0_isLatin1_aae02 0 = .ok (.getstatic 38, 3) := by decide +kernel
theorem dJ0_isLatin1_aae02_3 : decode cJ0_isLatin1_aae02 3 = .ok (.ifCond .eq 14, 3) := by decide +kernel
theorem dJ0_isLatin1_aae02_6 : decode cJ0_isLatin1_aae02 6 = .ok (.aload_n 0, 1) := by decide +kernel
theorem dJ0_isLatin1_aae02_7 : decode cJ0_isLatin1_aae02 7 = .ok (.getfield 15, 3) := by decide +kernel
theorem dJ0_isLatin1_aae02_10 : decode cJ0_isLatin1_aae02 10 = .ok (.ifCond .ne 7, 3) := by decide +kernel
theorem dJ0_isLatin1_aae02_13 : decode cJ0_isLatin1_aae02 13 = .ok (.iconst 1, 1) := by decide +kernel
theorem dJ0_isLatin1_aae02_14 : decode cJ0_isLatin1_aae02 14 = .ok (.goto 4, 3) := by decide +kernel
theorem dJ0_isLatin1_aae02_17 : decode cJ0_isLatin1_aae02 17 = .ok (.iconst 0, 1) := by decide +kernel
theorem dJ0_isLatin1_aae02_18 : decode cJ0_isLatin1_aae02 18 = .ok (.ireturn, 1) := by decide +kernel
theorem dJ0_checkIndex_df160_0 : decode cJ0_checkIndex_df160 0 = .ok (.iload_n 0, 1) := by decide +kernel
theorem dJ0_checkIndex_df160_1 : decode cJ0_checkIndex_df160 1 = .ok (.iload_n 1, 1) := by decide +kernel
theorem dJ0_checkIndex_df160_2 : decode cJ0_checkIndex_df160 2 = .ok (.getstatic 1053, 3) := by decide +kernel
theorem dJ0_checkIndex_df160_5 : decode cJ0_checkIndex_df160 5 = .ok (.invokestatic 1059, 3) := by decide +kernel
theorem dJ0_checkIndex_df160_8 : decode cJ0_checkIndex_df160 8 = .ok (.pop, 1) := by decide +kernel
theorem dJ0_checkIndex_df160_9 : decode cJ0_checkIndex_df160 9 = .ok (.return_, 1) := by decide +kernel
theorem dJ1_charAt_3b067_0 : decode cJ1_charAt_3b067 0 = .ok (.iload_n 1, 1) := by decide +kernel
theorem dJ1_charAt_3b067_1 : decode cJ1_charAt_3b067 1 = .ok (.aload_n 0, 1) := by decide +kernel
theorem dJ1_charAt_3b067_2 : decode cJ1_charAt_3b067 2 = .ok (.arraylength, 1) := by decide +kernel
theorem dJ1_charAt_3b067_3 : decode cJ1_charAt_3b067 3 = .ok (.invokestatic 9, 3) := by decide +kernel
theorem dJ1_charAt_3b067_6 : decode cJ1_charAt_3b067 6 = .ok (.aload_n 0, 1) := by decide +kernel
theorem dJ1_charAt_3b067_7 : decode cJ1_charAt_3b067 7 = .ok (.iload_n 1, 1) := by decide +kernel
theorem dJ1_charAt_3b067_8 : decode cJ1_charAt_3b067 8 = .ok (.baload, 1) := by decide +kernel
theorem dJ1_charAt_3b067_9 : decode cJ1_charAt_3b067 9 = .ok (.sipush 255, 3) := by decide +kernel
theorem dJ1_charAt_3b067_12 : decode cJ1_charAt_3b067 12 = .ok (.iand, 1) := by decide +kernel
theorem dJ1_charAt_3b067_13 : decode cJ1_charAt_3b067 13 = .ok (.i2c, 1) := by decide +kernel
theorem dJ1_charAt_3b067_14 : decode cJ1_charAt_3b067 14 = .ok (.ireturn, 1) := by decide +kernel
theorem dJ2_getChar_3b067_0 : decode cJ2_getChar_3b067 0 = .ok (.getstatic 44, 3) := by decide +kernel
theorem dJ2_getChar_3b067_3 : decode cJ2_getChar_3b067 3 = .ok (.ifCond .ne 25, 3) := by decide +kernel
theorem dJ2_getChar_3b067_6 : decode cJ2_getChar_3b067 6 = .ok (.iload_n 1, 1) := by decide +kernel
theorem dJ2_getChar_3b067_7 : decode cJ2_getChar_3b067 7 = .ok (.ifCond .lt 11, 3) := by decide +kernel
theorem dJ2_getChar_3b067_10 : decode cJ2_getChar_3b067 10 = .ok (.iload_n 1, 1) := by decide +kernel
theorem dJ2_getChar_3b067_11 : decode cJ2_getChar_3b067 11 = .ok (.aload_n 0, 1) := by decide +kernel
theorem dJ2_getChar_3b067_12 : decode cJ2_getChar_3b067 12 = .ok (.invokestatic 48, 3) := by decide +kernel
theorem dJ2_getChar_3b067_15 : decode cJ2_getChar_3b067 15 = .ok (.if_icmp .lt 13, 3) := by decide +kernel
theorem dJ2_getChar_3b067_18 : decode cJ2_getChar_3b067 18 = .ok (.new 52, 3) := by decide +kernel
theorem dJ2_getChar_3b067_21 : decode cJ2_getChar_3b067 21 = .ok (.dup, 1) := by decide +kernel
theorem dJ2_getChar_3b067_22 : decode cJ2_getChar_3b067 22 = .ok (.ldc 54, 2) := by decide +kernel
theorem dJ2_getChar_3b067_24 : decode cJ2_getChar_3b067 24 = .ok (.invokespecial 56, 3) := by decide +kernel
theorem dJ2_getChar_3b067_27 : decode cJ2_getChar_3b067 27 = .ok (.athrow, 1) := by decide +kernel
theorem dJ2_getChar_3b067_28 : decode cJ2_getChar_3b067 28 = .ok (.iload_n 1, 1) := by decide +kernel
theorem dJ2_getChar_3b067_29 : decode cJ2_getChar_3b067 29 = .ok (.iconst 1, 1) := by decide +kernel
theorem dJ2_getChar_3b067_30 : decode cJ2_getChar_3b067 30 = .ok (.ishl, 1) := by decide +kernel
theorem dJ2_getChar_3b067_31 : decode cJ2_getChar_3b067 31 = .ok (.istore_n 1, 1) := by decide +kernel
theorem dJ2_getChar_3b067_32 : decode cJ2_getChar_3b067 32 = .ok (.aload_n 0, 1) := by decide +kernel
theorem dJ2_getChar_3b067_33 : decode cJ2_getChar_3b067 33 = .ok (.iload_n 1, 1) := by decide +kernel
theorem dJ2_getChar_3b067_34 : decode cJ2_getChar_3b067 34 = .ok (.iinc 1 1, 3) := by decide +kernel
theorem dJ2_getChar_3b067_37 : decode cJ2_getChar_3b067 37 = .ok (.baload, 1) := by decide +kernel
theorem dJ2_getChar_3b067_38 : decode cJ2_getChar_3b067 38 = .ok (.sipush 255, 3) := by decide +kernel
theorem dJ2_getChar_3b067_41 : decode cJ2_getChar_3b067 41 = .ok (.iand, 1) := by decide +kernel
theorem dJ2_getChar_3b067_42 : decode cJ2_getChar_3b067 42 = .ok (.getstatic 59, 3) := by decide +kernel
theorem dJ2_getChar_3b067_45 : decode cJ2_getChar_3b067 45 = .ok (.ishl, 1) := by decide +kernel
theorem dJ2_getChar_3b067_46 : decode cJ2_getChar_3b067 46 = .ok (.aload_n 0, 1) := by decide +kernel
theorem dJ2_getChar_3b067_47 : decode cJ2_getChar_3b067 47 = .ok (.iload_n 1, 1) := by decide +kernel
theorem dJ2_getChar_3b067_48 : decode cJ2_getChar_3b067 48 = .ok (.baload, 1) := by decide +kernel
theorem dJ2_getChar_3b067_49 : decode cJ2_getChar_3b067 49 = .ok (.sipush 255, 3) := by decide +kernel
theorem dJ2_getChar_3b067_52 : decode cJ2_getChar_3b067 52 = .ok (.iand, 1) := by decide +kernel
theorem dJ2_getChar_3b067_53 : decode cJ2_getChar_3b067 53 = .ok (.getstatic 63, 3) := by decide +kernel
theorem dJ2_getChar_3b067_56 : decode cJ2_getChar_3b067 56 = .ok (.ishl, 1) := by decide +kernel
theorem dJ2_getChar_3b067_57 : decode cJ2_getChar_3b067 57 = .ok (.ior, 1) := by decide +kernel
theorem dJ2_getChar_3b067_58 : decode cJ2_getChar_3b067 58 = .ok (.i2c, 1) := by decide +kernel
theorem dJ2_getChar_3b067_59 : decode cJ2_getChar_3b067 59 = .ok (.ireturn, 1) := by decide +kernel
theorem dJ2_length_9d52b_0 : decode cJ2_length_9d52b 0 = .ok (.aload_n 0, 1) := by decide +kernel
theorem dJ2_length_9d52b_1 : decode cJ2_length_9d52b 1 = .ok (.arraylength, 1) := by decide +kernel
theorem dJ2_length_9d52b_2 : decode cJ2_length_9d52b 2 = .ok (.iconst 1, 1) := by decide +kernel
theorem dJ2_length_9d52b_3 : decode cJ2_length_9d52b 3 = .ok (.ishr, 1) := by decide +kernel
theorem dJ2_length_9d52b_4 : decode cJ2_length_9d52b 4 = .ok (.ireturn, 1) := by decide +kernel
theorem dJ2_charAt_3b067_0 : decode cJ2_charAt_3b067 0 = .ok (.iload_n 1, 1) := by decide +kernel
theorem dJ2_charAt_3b067_1 : decode cJ2_charAt_3b067 1 = .ok (.aload_n 0, 1) := by decide +kernel
theorem dJ2_charAt_3b067_2 : decode cJ2_charAt_3b067 2 = .ok (.invokestatic 67, 3) := by decide +kernel
theorem dJ2_charAt_3b067_5 : decode cJ2_charAt_3b067 5 = .ok (.aload_n 0, 1) := by decide +kernel
theorem dJ2_charAt_3b067_6 : decode cJ2_charAt_3b067 6 = .ok (.iload_n 1, 1) := by decide +kernel
theorem dJ2_charAt_3b067_7 : decode cJ2_charAt_3b067 7 = .ok (.invokestatic 71, 3) := by decide +kernel
theorem dJ2_charAt_3b067_10 : decode cJ2_charAt_3b067 10 = .ok (.ireturn, 1) := by decide +kernel
theorem dJ2_checkIndex_2214a_0 : decode cJ2_checkIndex_2214a 0 = .ok (.iload_n 0, 1) := by decide +kernel
theorem dJ2_checkIndex_2214a_1 : decode cJ2_checkIndex_2214a 1 = .ok (.aload_n 1, 1) := by decide +kernel
theorem dJ2_checkIndex_2214a_2 : decode cJ2_checkIndex_2214a 2 = .ok (.invokestatic 48, 3) := by decide +kernel
theorem dJ2_checkIndex_2214a_5 : decode cJ2_checkIndex_2214a 5 = .ok (.invokestatic 414, 3) := by decide +kernel
theorem dJ2_checkIndex_2214a_8 : decode cJ2_checkIndex_2214a 8 = .ok (.return_, 1) := by decide +kernel
theorem dJ7_fill_53178_0 : decode cJ7_fill_53178 0 = .ok (.iconst 0, 1) := by decide +kernel
theorem dJ7_fill_53178_1 : decode cJ7_fill_53178 1 = .ok (.istore_n 2, 1) := by decide +kernel
theorem dJ7_fill_53178_2 : decode cJ7_fill_53178 2 = .ok (.aload_n 0, 1) := by decide +kernel
theorem dJ7_fill_53178_3 : decode cJ7_fill_53178 3 = .ok (.arraylength, 1) := by decide +kernel
theorem dJ7_fill_53178_4 : decode cJ7_fill_53178 4 = .ok (.istore_n 3, 1) := by decide +kernel
theorem dJ7_fill_53178_5 : decode cJ7_fill_53178 5 = .ok (.iload_n 2, 1) := by decide +kernel
theorem dJ7_fill_53178_6 : decode cJ7_fill_53178 6 = .ok (.iload_n 3, 1) := by decide +kernel
theorem dJ7_fill_53178_7 : decode cJ7_fill_53178 7 = .ok (.if_icmp .ge 13, 3) := by decide +kernel
theorem dJ7_fill_53178_10 : decode cJ7_fill_53178 10 = .ok (.aload_n 0, 1) := by decide +kernel
theorem dJ7_fill_53178_11 : decode cJ7_fill_53178 11 = .ok (.iload_n 2, 1) := by decide +kernel
theorem dJ7_fill_53178_12 : decode cJ7_fill_53178 12 = .ok (.iload_n 1, 1) := by decide +kernel
theorem dJ7_fill_53178_13 : decode cJ7_fill_53178 13 = .ok (.iastore, 1) := by decide +kernel
theorem dJ7_fill_53178_14 : decode cJ7_fill_53178 14 = .ok (.iinc 2 1, 3) := by decide +kernel
theorem dJ7_fill_53178_17 : decode cJ7_fill_53178 17 = .ok (.goto (-12), 3) := by decide +kernel
theorem dJ7_fill_53178_20 : decode cJ7_fill_53178 20 = .ok (.return_, 1) := by decide +kernel
theorem dJ3_checkIndex_8e157_0 : decode cJ3_checkIndex_8e157 0 = .ok (.iload_n 0, 1) := by decide +kernel
theorem dJ3_checkIndex_8e157_1 : decode cJ3_checkIndex_8e157 1 = .ok (.ifCond .lt 8, 3) := by decide +kernel
theorem dJ3_checkIndex_8e157_4 : decode cJ3_checkIndex_8e157 4 = .ok (.iload_n 0, 1) := by decide +kernel
theorem dJ3_checkIndex_8e157_5 : decode cJ3_checkIndex_8e157 5 = .ok (.iload_n 1, 1) := by decide +kernel
theorem dJ3_checkIndex_8e157_6 : decode cJ3_checkIndex_8e157 6 = .ok (.if_icmp .lt 10, 3) := by decide +kernel
theorem dJ3_checkIndex_8e157_9 : decode cJ3_checkIndex_8e157 9 = .ok (.aload_n 2, 1) := by decide +kernel
theorem dJ3_checkIndex_8e157_10 : decode cJ3_checkIndex_8e157 10 = .ok (.iload_n 0, 1) := by decide +kernel
theorem dJ3_checkIndex_8e157_11 : decode cJ3_checkIndex_8e157 11 = .ok (.iload_n 1, 1) := by decide +kernel
theorem dJ3_checkIndex_8e157_12 : decode cJ3_checkIndex_8e157 12 = .ok (.invokestatic 95, 3) := by decide +kernel
theorem dJ3_checkIndex_8e157_15 : decode cJ3_checkIndex_8e157 15 = .ok (.athrow, 1) := by decide +kernel
theorem dJ3_checkIndex_8e157_16 : decode cJ3_checkIndex_8e157 16 = .ok (.iload_n 0, 1) := by decide +kernel
theorem dJ3_checkIndex_8e157_17 : decode cJ3_checkIndex_8e157 17 = .ok (.ireturn, 1) := by decide +kernel
theorem dL_law_0 : decode cL_law 0 = .ok (.new 7, 3) := by decide +kernel
theorem dL_law_3 : decode cL_law 3 = .ok (.dup, 1) := by decide +kernel
theorem dL_law_4 : decode cL_law 4 = .ok (.invokespecial 9, 3) := by decide +kernel
theorem dL_law_7 : decode cL_law 7 = .ok (.astore_n 1, 1) := by decide +kernel
theorem dL_law_8 : decode cL_law 8 = .ok (.new 10, 3) := by decide +kernel
theorem dL_law_11 : decode cL_law 11 = .ok (.dup, 1) := by decide +kernel
theorem dL_law_12 : decode cL_law 12 = .ok (.invokespecial 12, 3) := by decide +kernel
theorem dL_law_15 : decode cL_law 15 = .ok (.astore_n 2, 1) := by decide +kernel
theorem dL_law_16 : decode cL_law 16 = .ok (.iconst 0, 1) := by decide +kernel
theorem dL_law_17 : decode cL_law 17 = .ok (.istore_n 3, 1) := by decide +kernel
theorem dL_law_18 : decode cL_law 18 = .ok (.iload_n 3, 1) := by decide +kernel
theorem dL_law_19 : decode cL_law 19 = .ok (.aload_n 0, 1) := by decide +kernel
theorem dL_law_20 : decode cL_law 20 = .ok (.arraylength, 1) := by decide +kernel
theorem dL_law_21 : decode cL_law 21 = .ok (.bipush 6, 2) := by decide +kernel
theorem dL_law_23 : decode cL_law 23 = .ok (.isub, 1) := by decide +kernel
theorem dL_law_24 : decode cL_law 24 = .ok (.if_icmp .gt 1041, 3) := by decide +kernel
theorem dL_law_27 : decode cL_law 27 = .ok (.aload_n 0, 1) := by decide +kernel
theorem dL_law_28 : decode cL_law 28 = .ok (.iload_n 3, 1) := by decide +kernel
theorem dL_law_29 : decode cL_law 29 = .ok (.iaload, 1) := by decide +kernel
theorem dL_law_30 : decode cL_law 30 = .ok (.bipush 31, 2) := by decide +kernel
theorem dL_law_32 : decode cL_law 32 = .ok (.iand, 1) := by decide +kernel
theorem dL_law_33 : decode cL_law 33 = .ok (.tableswitch 1026 0 25 #[119, 182, 205, 228, 261, 274, 297, 340, 393, 446, 469, 502, 545, 588, 611, 644, 703, 736, 800, 833, 867, 911, 934, 967, 980, 1003], 119) := by decide +kernel
theorem dL_law_152 : decode cL_law 152 = .ok (.aload_n 1, 1) := by decide +kernel
theorem dL_law_153 : decode cL_law 153 = .ok (.aload_n 0, 1) := by decide +kernel
theorem dL_law_154 : decode cL_law 154 = .ok (.iload_n 3, 1) := by decide +kernel
theorem dL_law_155 : decode cL_law 155 = .ok (.iconst 1, 1) := by decide +kernel
theorem dL_law_156 : decode cL_law 156 = .ok (.iadd, 1) := by decide +kernel
theorem dL_law_157 : decode cL_law 157 = .ok (.iaload, 1) := by decide +kernel
theorem dL_law_158 : decode cL_law 158 = .ok (.aload_n 0, 1) := by decide +kernel
theorem dL_law_159 : decode cL_law 159 = .ok (.iload_n 3, 1) := by decide +kernel
theorem dL_law_160 : decode cL_law 160 = .ok (.iconst 2, 1) := by decide +kernel
theorem dL_law_161 : decode cL_law 161 = .ok (.iadd, 1) := by decide +kernel
theorem dL_law_162 : decode cL_law 162 = .ok (.iaload, 1) := by decide +kernel
theorem dL_law_163 : decode cL_law 163 = .ok (.aload_n 0, 1) := by decide +kernel
theorem dL_law_164 : decode cL_law 164 = .ok (.iload_n 3, 1) := by decide +kernel
theorem dL_law_165 : decode cL_law 165 = .ok (.iconst 3, 1) := by decide +kernel
theorem dL_law_166 : decode cL_law 166 = .ok (.iadd, 1) := by decide +kernel
theorem dL_law_167 : decode cL_law 167 = .ok (.iaload, 1) := by decide +kernel
theorem dL_law_168 : decode cL_law 168 = .ok (.aload_n 0, 1) := by decide +kernel
theorem dL_law_169 : decode cL_law 169 = .ok (.iload_n 3, 1) := by decide +kernel
theorem dL_law_170 : decode cL_law 170 = .ok (.iconst 4, 1) := by decide +kernel
theorem dL_law_171 : decode cL_law 171 = .ok (.iadd, 1) := by decide +kernel
theorem dL_law_172 : decode cL_law 172 = .ok (.iaload, 1) := by decide +kernel
theorem dL_law_173 : decode cL_law 173 = .ok (.aload_n 0, 1) := by decide +kernel
theorem dL_law_174 : decode cL_law 174 = .ok (.iload_n 3, 1) := by decide +kernel
theorem dL_law_175 : decode cL_law 175 = .ok (.iconst 5, 1) := by decide +kernel
theorem dL_law_176 : decode cL_law 176 = .ok (.iadd, 1) := by decide +kernel
theorem dL_law_177 : decode cL_law 177 = .ok (.iaload, 1) := by decide +kernel
theorem dL_law_178 : decode cL_law 178 = .ok (.invokevirtual 13, 3) := by decide +kernel
theorem dL_law_181 : decode cL_law 181 = .ok (.aload_n 2, 1) := by decide +kernel
theorem dL_law_182 : decode cL_law 182 = .ok (.aload_n 0, 1) := by decide +kernel
theorem dL_law_183 : decode cL_law 183 = .ok (.iload_n 3, 1) := by decide +kernel
theorem dL_law_184 : decode cL_law 184 = .ok (.iconst 1, 1) := by decide +kernel
theorem dL_law_185 : decode cL_law 185 = .ok (.iadd, 1) := by decide +kernel
theorem dL_law_186 : decode cL_law 186 = .ok (.iaload, 1) := by decide +kernel
theorem dL_law_187 : decode cL_law 187 = .ok (.aload_n 0, 1) := by decide +kernel
theorem dL_law_188 : decode cL_law 188 = .ok (.iload_n 3, 1) := by decide +kernel
theorem dL_law_189 : decode cL_law 189 = .ok (.iconst 2, 1) := by decide +kernel
theorem dL_law_190 : decode cL_law 190 = .ok (.iadd, 1) := by decide +kernel
theorem dL_law_191 : decode cL_law 191 = .ok (.iaload, 1) := by decide +kernel
theorem dL_law_192 : decode cL_law 192 = .ok (.aload_n 0, 1) := by decide +kernel
theorem dL_law_193 : decode cL_law 193 = .ok (.iload_n 3, 1) := by decide +kernel
theorem dL_law_194 : decode cL_law 194 = .ok (.iconst 3, 1) := by decide +kernel
theorem dL_law_195 : decode cL_law 195 = .ok (.iadd, 1) := by decide +kernel
theorem dL_law_196 : decode cL_law 196 = .ok (.iaload, 1) := by decide +kernel
theorem dL_law_197 : decode cL_law 197 = .ok (.aload_n 0, 1) := by decide +kernel
theorem dL_law_198 : decode cL_law 198 = .ok (.iload_n 3, 1) := by decide +kernel
theorem dL_law_199 : decode cL_law 199 = .ok (.iconst 4, 1) := by decide +kernel
theorem dL_law_200 : decode cL_law 200 = .ok (.iadd, 1) := by decide +kernel
theorem dL_law_201 : decode cL_law 201 = .ok (.iaload, 1) := by decide +kernel
theorem dL_law_202 : decode cL_law 202 = .ok (.aload_n 0, 1) := by decide +kernel
theorem dL_law_203 : decode cL_law 203 = .ok (.iload_n 3, 1) := by decide +kernel
theorem dL_law_204 : decode cL_law 204 = .ok (.iconst 5, 1) := by decide +kernel
theorem dL_law_205 : decode cL_law 205 = .ok (.iadd, 1) := by decide +kernel
theorem dL_law_206 : decode cL_law 206 = .ok (.iaload, 1) := by decide +kernel
theorem dL_law_207 : decode cL_law 207 = .ok (.invokevirtual 17, 3) := by decide +kernel
theorem dL_law_210 : decode cL_law 210 = .ok (.if_icmp .eq 849, 3) := by decide +kernel
theorem dL_law_213 : decode cL_law 213 = .ok (.iconst 0, 1) := by decide +kernel
theorem dL_law_214 : decode cL_law 214 = .ok (.ireturn, 1) := by decide +kernel
theorem dL_law_215 : decode cL_law 215 = .ok (.aload_n 1, 1) := by decide +kernel
theorem dL_law_216 : decode cL_law 216 = .ok (.aload_n 0, 1) := by decide +kernel
theorem dL_law_217 : decode cL_law 217 = .ok (.iload_n 3, 1) := by decide +kernel
theorem dL_law_218 : decode cL_law 218 = .ok (.iconst 1, 1) := by decide +kernel
theorem dL_law_219 : decode cL_law 219 = .ok (.iadd, 1) := by decide +kernel
theorem dL_law_220 : decode cL_law 220 = .ok (.iaload, 1) := by decide +kernel
theorem dL_law_221 : decode cL_law 221 = .ok (.invokevirtual 18, 3) := by decide +kernel
theorem dL_law_224 : decode cL_law 224 = .ok (.aload_n 2, 1) := by decide +kernel
theorem dL_law_225 : decode cL_law 225 = .ok (.aload_n 0, 1) := by decide +kernel
theorem dL_law_226 : decode cL_law 226 = .ok (.iload_n 3, 1) := by decide +kernel
theorem dL_law_227 : decode cL_law 227 = .ok (.iconst 1, 1) := by decide +kernel
theorem dL_law_228 : decode cL_law 228 = .ok (.iadd, 1) := by decide +kernel
theorem dL_law_229 : decode cL_law 229 = .ok (.iaload, 1) := by decide +kernel
theorem dL_law_230 : decode cL_law 230 = .ok (.invokevirtual 22, 3) := by decide +kernel
theorem dL_law_233 : decode cL_law 233 = .ok (.if_icmp .eq 826, 3) := by decide +kernel
theorem dL_law_236 : decode cL_law 236 = .ok (.iconst 0, 1) := by decide +kernel
theorem dL_law_237 : decode cL_law 237 = .ok (.ireturn, 1) := by decide +kernel
theorem dL_law_238 : decode cL_law 238 = .ok (.aload_n 1, 1) := by decide +kernel
theorem dL_law_239 : decode cL_law 239 = .ok (.aload_n 0, 1) := by decide +kernel
theorem dL_law_240 : decode cL_law 240 = .ok (.iload_n 3, 1) := by decide +kernel
theorem dL_law_241 : decode cL_law 241 = .ok (.iconst 1, 1) := by decide +kernel
theorem dL_law_242 : decode cL_law 242 = .ok (.iadd, 1) := by decide +kernel
theorem dL_law_243 : decode cL_law 243 = .ok (.iaload, 1) := by decide +kernel
theorem dL_law_244 : decode cL_law 244 = .ok (.invokevirtual 23, 3) := by decide +kernel
theorem dL_law_247 : decode cL_law 247 = .ok (.aload_n 2, 1) := by decide +kernel
theorem dL_law_248 : decode cL_law 248 = .ok (.aload_n 0, 1) := by decide +kernel
theorem dL_law_249 : decode cL_law 249 = .ok (.iload_n 3, 1) := by decide +kernel
theorem dL_law_250 : decode cL_law 250 = .ok (.iconst 1, 1) := by decide +kernel
theorem dL_law_251 : decode cL_law 251 = .ok (.iadd, 1) := by decide +kernel
theorem dL_law_252 : decode cL_law 252 = .ok (.iaload, 1) := by decide +kernel
theorem dL_law_253 : decode cL_law 253 = .ok (.invokevirtual 26, 3) := by decide +kernel
theorem dL_law_256 : decode cL_law 256 = .ok (.if_icmp .eq 803, 3) := by decide +kernel
theorem dL_law_259 : decode cL_law 259 = .ok (.iconst 0, 1) := by decide +kernel
theorem dL_law_260 : decode cL_law 260 = .ok (.ireturn, 1) := by decide +kernel
theorem dL_law_261 : decode cL_law 261 = .ok (.aload_n 1, 1) := by decide +kernel
theorem dL_law_262 : decode cL_law 262 = .ok (.aload_n 0, 1) := by decide +kernel
theorem dL_law_263 : decode cL_law 263 = .ok (.iload_n 3, 1) := by decide +kernel
theorem dL_law_264 : decode cL_law 264 = .ok (.iconst 1, 1) := by decide +kernel
theorem dL_law_265 : decode cL_law 265 = .ok (.iadd, 1) := by decide +kernel
theorem dL_law_266 : decode cL_law 266 = .ok (.iaload, 1) := by decide +kernel
theorem dL_law_267 : decode cL_law 267 = .ok (.aload_n 0, 1) := by decide +kernel
theorem dL_law_268 : decode cL_law 268 = .ok (.iload_n 3, 1) := by decide +kernel
theorem dL_law_269 : decode cL_law 269 = .ok (.iconst 2, 1) := by decide +kernel
theorem dL_law_270 : decode cL_law 270 = .ok (.iadd, 1) := by decide +kernel
theorem dL_law_271 : decode cL_law 271 = .ok (.iaload, 1) := by decide +kernel
theorem dL_law_272 : decode cL_law 272 = .ok (.invokevirtual 27, 3) := by decide +kernel
theorem dL_law_275 : decode cL_law 275 = .ok (.aload_n 2, 1) := by decide +kernel
theorem dL_law_276 : decode cL_law 276 = .ok (.aload_n 0, 1) := by decide +kernel
theorem dL_law_277 : decode cL_law 277 = .ok (.iload_n 3, 1) := by decide +kernel
theorem dL_law_278 : decode cL_law 278 = .ok (.iconst 1, 1) := by decide +kernel
theorem dL_law_279 : decode cL_law 279 = .ok (.iadd, 1) := by decide +kernel
theorem dL_law_280 : decode cL_law 280 = .ok (.iaload, 1) := by decide +kernel
theorem dL_law_281 : decode cL_law 281 = .ok (.aload_n 0, 1) := by decide +kernel
theorem dL_law_282 : decode cL_law 282 = .ok (.iload_n 3, 1) := by decide +kernel
theorem dL_law_283 : decode cL_law 283 = .ok (.iconst 2, 1) := by decide +kernel
theorem dL_law_284 : decode cL_law 284 = .ok (.iadd, 1) := by decide +kernel
theorem dL_law_285 : decode cL_law 285 = .ok (.iaload, 1) := by decide +kernel
theorem dL_law_286 : decode cL_law 286 = .ok (.invokevirtual 31, 3) := by decide +kernel
theorem dL_law_289 : decode cL_law 289 = .ok (.if_icmp .eq 770, 3) := by decide +kernel
theorem dL_law_292 : decode cL_law 292 = .ok (.iconst 0, 1) := by decide +kernel
theorem dL_law_293 : decode cL_law 293 = .ok (.ireturn, 1) := by decide +kernel
theorem dL_law_294 : decode cL_law 294 = .ok (.aload_n 1, 1) := by decide +kernel
theorem dL_law_295 : decode cL_law 295 = .ok (.invokevirtual 32, 3) := by decide +kernel
theorem dL_law_298 : decode cL_law 298 = .ok (.aload_n 2, 1) := by decide +kernel
theorem dL_law_299 : decode cL_law 299 = .ok (.invokevirtual 36, 3) := by decide +kernel
theorem dL_law_302 : decode cL_law 302 = .ok (.if_icmp .eq 757, 3) := by decide +kernel
theorem dL_law_305 : decode cL_law 305 = .ok (.iconst 0, 1) := by decide +kernel
theorem dL_law_306 : decode cL_law 306 = .ok (.ireturn, 1) := by decide +kernel
theorem dL_law_307 : decode cL_law 307 = .ok (.aload_n 1, 1) := by decide +kernel
theorem dL_law_308 : decode cL_law 308 = .ok (.aload_n 0, 1) := by decide +kernel
theorem dL_law_309 : decode cL_law 309 = .ok (.iload_n 3, 1) := by decide +kernel
theorem dL_law_310 : decode cL_law 310 = .ok (.iconst 1, 1) := by decide +kernel
theorem dL_law_311 : decode cL_law 311 = .ok (.iadd, 1) := by decide +kernel
theorem dL_law_312 : decode cL_law 312 = .ok (.iaload, 1) := by decide +kernel
theorem dL_law_313 : decode cL_law 313 = .ok (.invokevirtual 37, 3) := by decide +kernel
theorem dL_law_316 : decode cL_law 316 = .ok (.aload_n 2, 1) := by decide +kernel
theorem dL_law_317 : decode cL_law 317 = .ok (.aload_n 0, 1) := by decide +kernel
theorem dL_law_318 : decode cL_law 318 = .ok (.iload_n 3, 1) := by decide +kernel
theorem dL_law_319 : decode cL_law 319 = .ok (.iconst 1, 1) := by decide +kernel
theorem dL_law_320 : decode cL_law 320 = .ok (.iadd, 1) := by decide +kernel
theorem dL_law_321 : decode cL_law 321 = .ok (.iaload, 1) := by decide +kernel
theorem dL_law_322 : decode cL_law 322 = .ok (.invokevirtual 40, 3) := by decide +kernel
theorem dL_law_325 : decode cL_law 325 = .ok (.if_icmp .eq 734, 3) := by decide +kernel
theorem dL_law_328 : decode cL_law 328 = .ok (.iconst 0, 1) := by decide +kernel
theorem dL_law_329 : decode cL_law 329 = .ok (.ireturn, 1) := by decide +kernel
theorem dL_law_330 : decode cL_law 330 = .ok (.aload_n 1, 1) := by decide +kernel
theorem dL_law_331 : decode cL_law 331 = .ok (.aload_n 0, 1) := by decide +kernel
theorem dL_law_332 : decode cL_law 332 = .ok (.iload_n 3, 1) := by decide +kernel
theorem dL_law_333 : decode cL_law 333 = .ok (.iconst 1, 1) := by decide +kernel
theorem dL_law_334 : decode cL_law 334 = .ok (.iadd, 1) := by decide +kernel
theorem dL_law_335 : decode cL_law 335 = .ok (.iaload, 1) := by decide +kernel
theorem dL_law_336 : decode cL_law 336 = .ok (.aload_n 0, 1) := by decide +kernel
theorem dL_law_337 : decode cL_law 337 = .ok (.iload_n 3, 1) := by decide +kernel
theorem dL_law_338 : decode cL_law 338 = .ok (.iconst 2, 1) := by decide +kernel
theorem dL_law_339 : decode cL_law 339 = .ok (.iadd, 1) := by decide +kernel
theorem dL_law_340 : decode cL_law 340 = .ok (.iaload, 1) := by decide +kernel
theorem dL_law_341 : decode cL_law 341 = .ok (.aload_n 0, 1) := by decide +kernel
theorem dL_law_342 : decode cL_law 342 = .ok (.iload_n 3, 1) := by decide +kernel
theorem dL_law_343 : decode cL_law 343 = .ok (.iconst 3, 1) := by decide +kernel
theorem dL_law_344 : decode cL_law 344 = .ok (.iadd, 1) := by decide +kernel
theorem dL_law_345 : decode cL_law 345 = .ok (.iaload, 1) := by decide +kernel
theorem dL_law_346 : decode cL_law 346 = .ok (.invokevirtual 41, 3) := by decide +kernel
theorem dL_law_349 : decode cL_law 349 = .ok (.aload_n 2, 1) := by decide +kernel
theorem dL_law_350 : decode cL_law 350 = .ok (.aload_n 0, 1) := by decide +kernel
theorem dL_law_351 : decode cL_law 351 = .ok (.iload_n 3, 1) := by decide +kernel
theorem dL_law_352 : decode cL_law 352 = .ok (.iconst 1, 1) := by decide +kernel
theorem dL_law_353 : decode cL_law 353 = .ok (.iadd, 1) := by decide +kernel
theorem dL_law_354 : decode cL_law 354 = .ok (.iaload, 1) := by decide +kernel
theorem dL_law_355 : decode cL_law 355 = .ok (.aload_n 0, 1) := by decide +kernel
theorem dL_law_356 : decode cL_law 356 = .ok (.iload_n 3, 1) := by decide +kernel
theorem dL_law_357 : decode cL_law 357 = .ok (.iconst 2, 1) := by decide +kernel
theorem dL_law_358 : decode cL_law 358 = .ok (.iadd, 1) := by decide +kernel
theorem dL_law_359 : decode cL_law 359 = .ok (.iaload, 1) := by decide +kernel
theorem dL_law_360 : decode cL_law 360 = .ok (.aload_n 0, 1) := by decide +kernel
theorem dL_law_361 : decode cL_law 361 = .ok (.iload_n 3, 1) := by decide +kernel
theorem dL_law_362 : decode cL_law 362 = .ok (.iconst 3, 1) := by decide +kernel
theorem dL_law_363 : decode cL_law 363 = .ok (.iadd, 1) := by decide +kernel
theorem dL_law_364 : decode cL_law 364 = .ok (.iaload, 1) := by decide +kernel
theorem dL_law_365 : decode cL_law 365 = .ok (.invokevirtual 45, 3) := by decide +kernel
theorem dL_law_368 : decode cL_law 368 = .ok (.if_icmp .eq 691, 3) := by decide +kernel
theorem dL_law_371 : decode cL_law 371 = .ok (.iconst 0, 1) := by decide +kernel
theorem dL_law_372 : decode cL_law 372 = .ok (.ireturn, 1) := by decide +kernel
theorem dL_law_373 : decode cL_law 373 = .ok (.aload_n 1, 1) := by decide +kernel
theorem dL_law_374 : decode cL_law 374 = .ok (.aload_n 0, 1) := by decide +kernel
theorem dL_law_375 : decode cL_law 375 = .ok (.iload_n 3, 1) := by decide +kernel
theorem dL_law_376 : decode cL_law 376 = .ok (.iconst 1, 1) := by decide +kernel
theorem dL_law_377 : decode cL_law 377 = .ok (.iadd, 1) := by decide +kernel
theorem dL_law_378 : decode cL_law 378 = .ok (.iaload, 1) := by decide +kernel
theorem dL_law_379 : decode cL_law 379 = .ok (.aload_n 0, 1) := by decide +kernel
theorem dL_law_380 : decode cL_law 380 = .ok (.iload_n 3, 1) := by decide +kernel
theorem dL_law_381 : decode cL_law 381 = .ok (.iconst 2, 1) := by decide +kernel
theorem dL_law_382 : decode cL_law 382 = .ok (.iadd, 1) := by decide +kernel
theorem dL_law_383 : decode cL_law 383 = .ok (.iaload, 1) := by decide +kernel
theorem dL_law_384 : decode cL_law 384 = .ok (.aload_n 0, 1) := by decide +kernel
theorem dL_law_385 : decode cL_law 385 = .ok (.iload_n 3, 1) := by decide +kernel
theorem dL_law_386 : decode cL_law 386 = .ok (.iconst 3, 1) := by decide +kernel
theorem dL_law_387 : decode cL_law 387 = .ok (.iadd, 1) := by decide +kernel
theorem dL_law_388 : decode cL_law 388 = .ok (.iaload, 1) := by decide +kernel
theorem dL_law_389 : decode cL_law 389 = .ok (.aload_n 0, 1) := by decide +kernel
theorem dL_law_390 : decode cL_law 390 = .ok (.iload_n 3, 1) := by decide +kernel
theorem dL_law_391 : decode cL_law 391 = .ok (.iconst 4, 1) := by decide +kernel
theorem dL_law_392 : decode cL_law 392 = .ok (.iadd, 1) := by decide +kernel
theorem dL_law_393 : decode cL_law 393 = .ok (.iaload, 1) := by decide +kernel
theorem dL_law_394 : decode cL_law 394 = .ok (.invokevirtual 46, 3) := by decide +kernel
theorem dL_law_397 : decode cL_law 397 = .ok (.aload_n 2, 1) := by decide +kernel
theorem dL_law_398 : decode cL_law 398 = .ok (.aload_n 0, 1) := by decide +kernel
theorem dL_law_399 : decode cL_law 399 = .ok (.iload_n 3, 1) := by decide +kernel
theorem dL_law_400 : decode cL_law 400 = .ok (.iconst 1, 1) := by decide +kernel
theorem dL_law_401 : decode cL_law 401 = .ok (.iadd, 1) := by decide +kernel
theorem dL_law_402 : decode cL_law 402 = .ok (.iaload, 1) := by decide +kernel
theorem dL_law_403 : decode cL_law 403 = .ok (.aload_n 0, 1) := by decide +kernel
theorem dL_law_404 : decode cL_law 404 = .ok (.iload_n 3, 1) := by decide +kernel
theorem dL_law_405 : decode cL_law 405 = .ok (.iconst 2, 1) := by decide +kernel
theorem dL_law_406 : decode cL_law 406 = .ok (.iadd, 1) := by decide +kernel
theorem dL_law_407 : decode cL_law 407 = .ok (.iaload, 1) := by decide +kernel
theorem dL_law_408 : decode cL_law 408 = .ok (.aload_n 0, 1) := by decide +kernel
theorem dL_law_409 : decode cL_law 409 = .ok (.iload_n 3, 1) := by decide +kernel
theorem dL_law_410 : decode cL_law 410 = .ok (.iconst 3, 1) := by decide +kernel
theorem dL_law_411 : decode cL_law 411 = .ok (.iadd, 1) := by decide +kernel
theorem dL_law_412 : decode cL_law 412 = .ok (.iaload, 1) := by decide +kernel
theorem dL_law_413 : decode cL_law 413 = .ok (.aload_n 0, 1) := by decide +kernel
theorem dL_law_414 : decode cL_law 414 = .ok (.iload_n 3, 1) := by decide +kernel
theorem dL_law_415 : decode cL_law 415 = .ok (.iconst 4, 1) := by decide +kernel
theorem dL_law_416 : decode cL_law 416 = .ok (.iadd, 1) := by decide +kernel
theorem dL_law_417 : decode cL_law 417 = .ok (.iaload, 1) := by decide +kernel
theorem dL_law_418 : decode cL_law 418 = .ok (.invokevirtual 50, 3) := by decide +kernel
theorem dL_law_421 : decode cL_law 421 = .ok (.if_icmp .eq 638, 3) := by decide +kernel
theorem dL_law_424 : decode cL_law 424 = .ok (.iconst 0, 1) := by decide +kernel
theorem dL_law_425 : decode cL_law 425 = .ok (.ireturn, 1) := by decide +kernel
theorem dL_law_426 : decode cL_law 426 = .ok (.aload_n 1, 1) := by decide +kernel
theorem dL_law_427 : decode cL_law 427 = .ok (.aload_n 0, 1) := by decide +kernel
theorem dL_law_428 : decode cL_law 428 = .ok (.iload_n 3, 1) := by decide +kernel
theorem dL_law_429 : decode cL_law 429 = .ok (.iconst 1, 1) := by decide +kernel
theorem dL_law_430 : decode cL_law 430 = .ok (.iadd, 1) := by decide +kernel
theorem dL_law_431 : decode cL_law 431 = .ok (.iaload, 1) := by decide +kernel
theorem dL_law_432 : decode cL_law 432 = .ok (.aload_n 0, 1) := by decide +kernel
theorem dL_law_433 : decode cL_law 433 = .ok (.iload_n 3, 1) := by decide +kernel
theorem dL_law_434 : decode cL_law 434 = .ok (.iconst 2, 1) := by decide +kernel
theorem dL_law_435 : decode cL_law 435 = .ok (.iadd, 1) := by decide +kernel
theorem dL_law_436 : decode cL_law 436 = .ok (.iaload, 1) := by decide +kernel
theorem dL_law_437 : decode cL_law 437 = .ok (.aload_n 0, 1) := by decide +kernel
theorem dL_law_438 : decode cL_law 438 = .ok (.iload_n 3, 1) := by decide +kernel
theorem dL_law_439 : decode cL_law 439 = .ok (.iconst 3, 1) := by decide +kernel
theorem dL_law_440 : decode cL_law 440 = .ok (.iadd, 1) := by decide +kernel
theorem dL_law_441 : decode cL_law 441 = .ok (.iaload, 1) := by decide +kernel
theorem dL_law_442 : decode cL_law 442 = .ok (.aload_n 0, 1) := by decide +kernel
theorem dL_law_443 : decode cL_law 443 = .ok (.iload_n 3, 1) := by decide +kernel
theorem dL_law_444 : decode cL_law 444 = .ok (.iconst 4, 1) := by decide +kernel
theorem dL_law_445 : decode cL_law 445 = .ok (.iadd, 1) := by decide +kernel
theorem dL_law_446 : decode cL_law 446 = .ok (.iaload, 1) := by decide +kernel
theorem dL_law_447 : decode cL_law 447 = .ok (.invokevirtual 51, 3) := by decide +kernel
theorem dL_law_450 : decode cL_law 450 = .ok (.aload_n 2, 1) := by decide +kernel
theorem dL_law_451 : decode cL_law 451 = .ok (.aload_n 0, 1) := by decide +kernel
theorem dL_law_452 : decode cL_law 452 = .ok (.iload_n 3, 1) := by decide +kernel
theorem dL_law_453 : decode cL_law 453 = .ok (.iconst 1, 1) := by decide +kernel
theorem dL_law_454 : decode cL_law 454 = .ok (.iadd, 1) := by decide +kernel
theorem dL_law_455 : decode cL_law 455 = .ok (.iaload, 1) := by decide +kernel
theorem dL_law_456 : decode cL_law 456 = .ok (.aload_n 0, 1) := by decide +kernel
theorem dL_law_457 : decode cL_law 457 = .ok (.iload_n 3, 1) := by decide +kernel
theorem dL_law_458 : decode cL_law 458 = .ok (.iconst 2, 1) := by decide +kernel
theorem dL_law_459 : decode cL_law 459 = .ok (.iadd, 1) := by decide +kernel
theorem dL_law_460 : decode cL_law 460 = .ok (.iaload, 1) := by decide +kernel
theorem dL_law_461 : decode cL_law 461 = .ok (.aload_n 0, 1) := by decide +kernel
theorem dL_law_462 : decode cL_law 462 = .ok (.iload_n 3, 1) := by decide +kernel
theorem dL_law_463 : decode cL_law 463 = .ok (.iconst 3, 1) := by decide +kernel
theorem dL_law_464 : decode cL_law 464 = .ok (.iadd, 1) := by decide +kernel
theorem dL_law_465 : decode cL_law 465 = .ok (.iaload, 1) := by decide +kernel
theorem dL_law_466 : decode cL_law 466 = .ok (.aload_n 0, 1) := by decide +kernel
theorem dL_law_467 : decode cL_law 467 = .ok (.iload_n 3, 1) := by decide +kernel
theorem dL_law_468 : decode cL_law 468 = .ok (.iconst 4, 1) := by decide +kernel
theorem dL_law_469 : decode cL_law 469 = .ok (.iadd, 1) := by decide +kernel
theorem dL_law_470 : decode cL_law 470 = .ok (.iaload, 1) := by decide +kernel
theorem dL_law_471 : decode cL_law 471 = .ok (.invokevirtual 54, 3) := by decide +kernel
theorem dL_law_474 : decode cL_law 474 = .ok (.if_icmp .eq 585, 3) := by decide +kernel
theorem dL_law_477 : decode cL_law 477 = .ok (.iconst 0, 1) := by decide +kernel
theorem dL_law_478 : decode cL_law 478 = .ok (.ireturn, 1) := by decide +kernel
theorem dL_law_479 : decode cL_law 479 = .ok (.aload_n 1, 1) := by decide +kernel
theorem dL_law_480 : decode cL_law 480 = .ok (.aload_n 0, 1) := by decide +kernel
theorem dL_law_481 : decode cL_law 481 = .ok (.iload_n 3, 1) := by decide +kernel
theorem dL_law_482 : decode cL_law 482 = .ok (.iconst 1, 1) := by decide +kernel
theorem dL_law_483 : decode cL_law 483 = .ok (.iadd, 1) := by decide +kernel
theorem dL_law_484 : decode cL_law 484 = .ok (.iaload, 1) := by decide +kernel
theorem dL_law_485 : decode cL_law 485 = .ok (.invokevirtual 55, 3) := by decide +kernel
theorem dL_law_488 : decode cL_law 488 = .ok (.aload_n 2, 1) := by decide +kernel
theorem dL_law_489 : decode cL_law 489 = .ok (.aload_n 0, 1) := by decide +kernel
theorem dL_law_490 : decode cL_law 490 = .ok (.iload_n 3, 1) := by decide +kernel
theorem dL_law_491 : decode cL_law 491 = .ok (.iconst 1, 1) := by decide +kernel
theorem dL_law_492 : decode cL_law 492 = .ok (.iadd, 1) := by decide +kernel
theorem dL_law_493 : decode cL_law 493 = .ok (.iaload, 1) := by decide +kernel
theorem dL_law_494 : decode cL_law 494 = .ok (.invokevirtual 58, 3) := by decide +kernel
theorem dL_law_497 : decode cL_law 497 = .ok (.if_icmp .eq 562, 3) := by decide +kernel
theorem dL_law_500 : decode cL_law 500 = .ok (.iconst 0, 1) := by decide +kernel
theorem dL_law_501 : decode cL_law 501 = .ok (.ireturn, 1) := by decide +kernel
theorem dL_law_502 : decode cL_law 502 = .ok (.aload_n 1, 1) := by decide +kernel
theorem dL_law_503 : decode cL_law 503 = .ok (.aload_n 0, 1) := by decide +kernel
theorem dL_law_504 : decode cL_law 504 = .ok (.iload_n 3, 1) := by decide +kernel
theorem dL_law_505 : decode cL_law 505 = .ok (.iconst 1, 1) := by decide +kernel
theorem dL_law_506 : decode cL_law 506 = .ok (.iadd, 1) := by decide +kernel
theorem dL_law_507 : decode cL_law 507 = .ok (.iaload, 1) := by decide +kernel
theorem dL_law_508 : decode cL_law 508 = .ok (.aload_n 0, 1) := by decide +kernel
theorem dL_law_509 : decode cL_law 509 = .ok (.iload_n 3, 1) := by decide +kernel
theorem dL_law_510 : decode cL_law 510 = .ok (.iconst 2, 1) := by decide +kernel
theorem dL_law_511 : decode cL_law 511 = .ok (.iadd, 1) := by decide +kernel
theorem dL_law_512 : decode cL_law 512 = .ok (.iaload, 1) := by decide +kernel
theorem dL_law_513 : decode cL_law 513 = .ok (.invokevirtual 59, 3) := by decide +kernel
theorem dL_law_516 : decode cL_law 516 = .ok (.aload_n 2, 1) := by decide +kernel
theorem dL_law_517 : decode cL_law 517 = .ok (.aload_n 0, 1) := by decide +kernel
theorem dL_law_518 : decode cL_law 518 = .ok (.iload_n 3, 1) := by decide +kernel
theorem dL_law_519 : decode cL_law 519 = .ok (.iconst 1, 1) := by decide +kernel
theorem dL_law_520 : decode cL_law 520 = .ok (.iadd, 1) := by decide +kernel
theorem dL_law_521 : decode cL_law 521 = .ok (.iaload, 1) := by decide +kernel
theorem dL_law_522 : decode cL_law 522 = .ok (.aload_n 0, 1) := by decide +kernel
theorem dL_law_523 : decode cL_law 523 = .ok (.iload_n 3, 1) := by decide +kernel
theorem dL_law_524 : decode cL_law 524 = .ok (.iconst 2, 1) := by decide +kernel
theorem dL_law_525 : decode cL_law 525 = .ok (.iadd, 1) := by decide +kernel
theorem dL_law_526 : decode cL_law 526 = .ok (.iaload, 1) := by decide +kernel
theorem dL_law_527 : decode cL_law 527 = .ok (.invokevirtual 62, 3) := by decide +kernel
theorem dL_law_530 : decode cL_law 530 = .ok (.if_icmp .eq 529, 3) := by decide +kernel
theorem dL_law_533 : decode cL_law 533 = .ok (.iconst 0, 1) := by decide +kernel
theorem dL_law_534 : decode cL_law 534 = .ok (.ireturn, 1) := by decide +kernel
theorem dL_law_535 : decode cL_law 535 = .ok (.aload_n 1, 1) := by decide +kernel
theorem dL_law_536 : decode cL_law 536 = .ok (.aload_n 0, 1) := by decide +kernel
theorem dL_law_537 : decode cL_law 537 = .ok (.iload_n 3, 1) := by decide +kernel
theorem dL_law_538 : decode cL_law 538 = .ok (.iconst 1, 1) := by decide +kernel
theorem dL_law_539 : decode cL_law 539 = .ok (.iadd, 1) := by decide +kernel
theorem dL_law_540 : decode cL_law 540 = .ok (.iaload, 1) := by decide +kernel
theorem dL_law_541 : decode cL_law 541 = .ok (.aload_n 0, 1) := by decide +kernel
theorem dL_law_542 : decode cL_law 542 = .ok (.iload_n 3, 1) := by decide +kernel
theorem dL_law_543 : decode cL_law 543 = .ok (.iconst 2, 1) := by decide +kernel
theorem dL_law_544 : decode cL_law 544 = .ok (.iadd, 1) := by decide +kernel
theorem dL_law_545 : decode cL_law 545 = .ok (.iaload, 1) := by decide +kernel
theorem dL_law_546 : decode cL_law 546 = .ok (.aload_n 0, 1) := by decide +kernel
theorem dL_law_547 : decode cL_law 547 = .ok (.iload_n 3, 1) := by decide +kernel
theorem dL_law_548 : decode cL_law 548 = .ok (.iconst 3, 1) := by decide +kernel
theorem dL_law_549 : decode cL_law 549 = .ok (.iadd, 1) := by decide +kernel
theorem dL_law_550 : decode cL_law 550 = .ok (.iaload, 1) := by decide +kernel
theorem dL_law_551 : decode cL_law 551 = .ok (.invokevirtual 63, 3) := by decide +kernel
theorem dL_law_554 : decode cL_law 554 = .ok (.aload_n 2, 1) := by decide +kernel
theorem dL_law_555 : decode cL_law 555 = .ok (.aload_n 0, 1) := by decide +kernel
theorem dL_law_556 : decode cL_law 556 = .ok (.iload_n 3, 1) := by decide +kernel
theorem dL_law_557 : decode cL_law 557 = .ok (.iconst 1, 1) := by decide +kernel
theorem dL_law_558 : decode cL_law 558 = .ok (.iadd, 1) := by decide +kernel
theorem dL_law_559 : decode cL_law 559 = .ok (.iaload, 1) := by decide +kernel
theorem dL_law_560 : decode cL_law 560 = .ok (.aload_n 0, 1) := by decide +kernel
theorem dL_law_561 : decode cL_law 561 = .ok (.iload_n 3, 1) := by decide +kernel
theorem dL_law_562 : decode cL_law 562 = .ok (.iconst 2, 1) := by decide +kernel
theorem dL_law_563 : decode cL_law 563 = .ok (.iadd, 1) := by decide +kernel
theorem dL_law_564 : decode cL_law 564 = .ok (.iaload, 1) := by decide +kernel
theorem dL_law_565 : decode cL_law 565 = .ok (.aload_n 0, 1) := by decide +kernel
theorem dL_law_566 : decode cL_law 566 = .ok (.iload_n 3, 1) := by decide +kernel
theorem dL_law_567 : decode cL_law 567 = .ok (.iconst 3, 1) := by decide +kernel
theorem dL_law_568 : decode cL_law 568 = .ok (.iadd, 1) := by decide +kernel
theorem dL_law_569 : decode cL_law 569 = .ok (.iaload, 1) := by decide +kernel
theorem dL_law_570 : decode cL_law 570 = .ok (.invokevirtual 66, 3) := by decide +kernel
theorem dL_law_573 : decode cL_law 573 = .ok (.if_icmp .eq 486, 3) := by decide +kernel
theorem dL_law_576 : decode cL_law 576 = .ok (.iconst 0, 1) := by decide +kernel
theorem dL_law_577 : decode cL_law 577 = .ok (.ireturn, 1) := by decide +kernel
theorem dL_law_578 : decode cL_law 578 = .ok (.aload_n 1, 1) := by decide +kernel
theorem dL_law_579 : decode cL_law 579 = .ok (.aload_n 0, 1) := by decide +kernel
theorem dL_law_580 : decode cL_law 580 = .ok (.iload_n 3, 1) := by decide +kernel
theorem dL_law_581 : decode cL_law 581 = .ok (.iconst 1, 1) := by decide +kernel
theorem dL_law_582 : decode cL_law 582 = .ok (.iadd, 1) := by decide +kernel
theorem dL_law_583 : decode cL_law 583 = .ok (.iaload, 1) := by decide +kernel
theorem dL_law_584 : decode cL_law 584 = .ok (.aload_n 0, 1) := by decide +kernel
theorem dL_law_585 : decode cL_law 585 = .ok (.iload_n 3, 1) := by decide +kernel
theorem dL_law_586 : decode cL_law 586 = .ok (.iconst 2, 1) := by decide +kernel
theorem dL_law_587 : decode cL_law 587 = .ok (.iadd, 1) := by decide +kernel
theorem dL_law_588 : decode cL_law 588 = .ok (.iaload, 1) := by decide +kernel
theorem dL_law_589 : decode cL_law 589 = .ok (.aload_n 0, 1) := by decide +kernel
theorem dL_law_590 : decode cL_law 590 = .ok (.iload_n 3, 1) := by decide +kernel
theorem dL_law_591 : decode cL_law 591 = .ok (.iconst 3, 1) := by decide +kernel
theorem dL_law_592 : decode cL_law 592 = .ok (.iadd, 1) := by decide +kernel
theorem dL_law_593 : decode cL_law 593 = .ok (.iaload, 1) := by decide +kernel
theorem dL_law_594 : decode cL_law 594 = .ok (.invokevirtual 67, 3) := by decide +kernel
theorem dL_law_597 : decode cL_law 597 = .ok (.aload_n 2, 1) := by decide +kernel
theorem dL_law_598 : decode cL_law 598 = .ok (.aload_n 0, 1) := by decide +kernel
theorem dL_law_599 : decode cL_law 599 = .ok (.iload_n 3, 1) := by decide +kernel
theorem dL_law_600 : decode cL_law 600 = .ok (.iconst 1, 1) := by decide +kernel
theorem dL_law_601 : decode cL_law 601 = .ok (.iadd, 1) := by decide +kernel
theorem dL_law_602 : decode cL_law 602 = .ok (.iaload, 1) := by decide +kernel
theorem dL_law_603 : decode cL_law 603 = .ok (.aload_n 0, 1) := by decide +kernel
theorem dL_law_604 : decode cL_law 604 = .ok (.iload_n 3, 1) := by decide +kernel
theorem dL_law_605 : decode cL_law 605 = .ok (.iconst 2, 1) := by decide +kernel
theorem dL_law_606 : decode cL_law 606 = .ok (.iadd, 1) := by decide +kernel
theorem dL_law_607 : decode cL_law 607 = .ok (.iaload, 1) := by decide +kernel
theorem dL_law_608 : decode cL_law 608 = .ok (.aload_n 0, 1) := by decide +kernel
theorem dL_law_609 : decode cL_law 609 = .ok (.iload_n 3, 1) := by decide +kernel
theorem dL_law_610 : decode cL_law 610 = .ok (.iconst 3, 1) := by decide +kernel
theorem dL_law_611 : decode cL_law 611 = .ok (.iadd, 1) := by decide +kernel
theorem dL_law_612 : decode cL_law 612 = .ok (.iaload, 1) := by decide +kernel
