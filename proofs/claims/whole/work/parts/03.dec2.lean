theorem dX11_init_88 : decode cX11_init 88 = .ok (.aload_n 0, 1) := by decide +kernel
theorem dX11_init_89 : decode cX11_init 89 = .ok (.new 48, 3) := by decide +kernel
theorem dX11_init_92 : decode cX11_init 92 = .ok (.dup, 1) := by decide +kernel
theorem dX11_init_93 : decode cX11_init 93 = .ok (.aload_n 0, 1) := by decide +kernel
theorem dX11_init_94 : decode cX11_init 94 = .ok (.getfield 16, 3) := by decide +kernel
theorem dX11_init_97 : decode cX11_init 97 = .ok (.aload_n 0, 1) := by decide +kernel
theorem dX11_init_98 : decode cX11_init 98 = .ok (.getfield 44, 3) := by decide +kernel
theorem dX11_init_101 : decode cX11_init 101 = .ok (.invokespecial 50, 3) := by decide +kernel
theorem dX11_init_104 : decode cX11_init 104 = .ok (.putfield 53, 3) := by decide +kernel
theorem dX11_init_107 : decode cX11_init 107 = .ok (.aload_n 0, 1) := by decide +kernel
theorem dX11_init_108 : decode cX11_init 108 = .ok (.new 57, 3) := by decide +kernel
theorem dX11_init_111 : decode cX11_init 111 = .ok (.dup, 1) := by decide +kernel
theorem dX11_init_112 : decode cX11_init 112 = .ok (.aload_n 0, 1) := by decide +kernel
theorem dX11_init_113 : decode cX11_init 113 = .ok (.getfield 53, 3) := by decide +kernel
theorem dX11_init_116 : decode cX11_init 116 = .ok (.invokespecial 59, 3) := by decide +kernel
theorem dX11_init_119 : decode cX11_init 119 = .ok (.putfield 62, 3) := by decide +kernel
theorem dX11_init_122 : decode cX11_init 122 = .ok (.aload_n 0, 1) := by decide +kernel
theorem dX11_init_123 : decode cX11_init 123 = .ok (.new 66, 3) := by decide +kernel
theorem dX11_init_126 : decode cX11_init 126 = .ok (.dup, 1) := by decide +kernel
theorem dX11_init_127 : decode cX11_init 127 = .ok (.aload_n 0, 1) := by decide +kernel
theorem dX11_init_128 : decode cX11_init 128 = .ok (.getfield 16, 3) := by decide +kernel
theorem dX11_init_131 : decode cX11_init 131 = .ok (.invokespecial 68, 3) := by decide +kernel
theorem dX11_init_134 : decode cX11_init 134 = .ok (.putfield 69, 3) := by decide +kernel
theorem dX11_init_137 : decode cX11_init 137 = .ok (.aload_n 0, 1) := by decide +kernel
theorem dX11_init_138 : decode cX11_init 138 = .ok (.new 73, 3) := by decide +kernel
theorem dX11_init_141 : decode cX11_init 141 = .ok (.dup, 1) := by decide +kernel
theorem dX11_init_142 : decode cX11_init 142 = .ok (.aload_n 0, 1) := by decide +kernel
theorem dX11_init_143 : decode cX11_init 143 = .ok (.getfield 16, 3) := by decide +kernel
theorem dX11_init_146 : decode cX11_init 146 = .ok (.aload_n 0, 1) := by decide +kernel
theorem dX11_init_147 : decode cX11_init 147 = .ok (.getfield 53, 3) := by decide +kernel
theorem dX11_init_150 : decode cX11_init 150 = .ok (.invokespecial 75, 3) := by decide +kernel
theorem dX11_init_153 : decode cX11_init 153 = .ok (.putfield 78, 3) := by decide +kernel
theorem dX11_init_156 : decode cX11_init 156 = .ok (.aload_n 0, 1) := by decide +kernel
theorem dX11_init_157 : decode cX11_init 157 = .ok (.new 82, 3) := by decide +kernel
theorem dX11_init_160 : decode cX11_init 160 = .ok (.dup, 1) := by decide +kernel
theorem dX11_init_161 : decode cX11_init 161 = .ok (.invokespecial 84, 3) := by decide +kernel
theorem dX11_init_164 : decode cX11_init 164 = .ok (.putfield 85, 3) := by decide +kernel
theorem dX11_init_167 : decode cX11_init 167 = .ok (.aload_n 0, 1) := by decide +kernel
theorem dX11_init_168 : decode cX11_init 168 = .ok (.iconst 4, 1) := by decide +kernel
theorem dX11_init_169 : decode cX11_init 169 = .ok (.anewarray 82, 3) := by decide +kernel
theorem dX11_init_172 : decode cX11_init 172 = .ok (.putfield 89, 3) := by decide +kernel
theorem dX11_init_175 : decode cX11_init 175 = .ok (.aload_n 0, 1) := by decide +kernel
theorem dX11_init_176 : decode cX11_init 176 = .ok (.iconst (-1), 1) := by decide +kernel
theorem dX11_init_177 : decode cX11_init 177 = .ok (.putfield 93, 3) := by decide +kernel
theorem dX11_init_180 : decode cX11_init 180 = .ok (.iconst 0, 1) := by decide +kernel
theorem dX11_init_181 : decode cX11_init 181 = .ok (.istore_n 1, 1) := by decide +kernel
theorem dX11_init_182 : decode cX11_init 182 = .ok (.iload_n 1, 1) := by decide +kernel
theorem dX11_init_183 : decode cX11_init 183 = .ok (.aload_n 0, 1) := by decide +kernel
theorem dX11_init_184 : decode cX11_init 184 = .ok (.getfield 89, 3) := by decide +kernel
theorem dX11_init_187 : decode cX11_init 187 = .ok (.arraylength, 1) := by decide +kernel
theorem dX11_init_188 : decode cX11_init 188 = .ok (.if_icmp .ge 22, 3) := by decide +kernel
theorem dX11_init_191 : decode cX11_init 191 = .ok (.aload_n 0, 1) := by decide +kernel
theorem dX11_init_192 : decode cX11_init 192 = .ok (.getfield 89, 3) := by decide +kernel
theorem dX11_init_195 : decode cX11_init 195 = .ok (.iload_n 1, 1) := by decide +kernel
theorem dX11_init_196 : decode cX11_init 196 = .ok (.new 82, 3) := by decide +kernel
theorem dX11_init_199 : decode cX11_init 199 = .ok (.dup, 1) := by decide +kernel
theorem dX11_init_200 : decode cX11_init 200 = .ok (.invokespecial 84, 3) := by decide +kernel
theorem dX11_init_203 : decode cX11_init 203 = .ok (.aastore, 1) := by decide +kernel
theorem dX11_init_204 : decode cX11_init 204 = .ok (.iinc 1 1, 3) := by decide +kernel
theorem dX11_init_207 : decode cX11_init 207 = .ok (.goto (-25), 3) := by decide +kernel
theorem dX11_init_210 : decode cX11_init 210 = .ok (.return_, 1) := by decide +kernel
theorem dX11_feed_0 : decode cX11_feed 0 = .ok (.aload_n 0, 1) := by decide +kernel
theorem dX11_feed_1 : decode cX11_feed 1 = .ok (.getfield 97, 3) := by decide +kernel
theorem dX11_feed_4 : decode cX11_feed 4 = .ok (.sipush 1180, 3) := by decide +kernel
theorem dX11_feed_7 : decode cX11_feed 7 = .ok (.if_icmp .le 5, 3) := by decide +kernel
theorem dX11_feed_10 : decode cX11_feed 10 = .ok (.iconst (-1), 1) := by decide +kernel
theorem dX11_feed_11 : decode cX11_feed 11 = .ok (.ireturn, 1) := by decide +kernel
theorem dX11_feed_12 : decode cX11_feed 12 = .ok (.aload_n 0, 1) := by decide +kernel
theorem dX11_feed_13 : decode cX11_feed 13 = .ok (.iload_n 1, 1) := by decide +kernel
theorem dX11_feed_14 : decode cX11_feed 14 = .ok (.invokevirtual 100, 3) := by decide +kernel
theorem dX11_feed_17 : decode cX11_feed 17 = .ok (.aload_n 0, 1) := by decide +kernel
theorem dX11_feed_18 : decode cX11_feed 18 = .ok (.iload_n 2, 1) := by decide +kernel
theorem dX11_feed_19 : decode cX11_feed 19 = .ok (.invokevirtual 100, 3) := by decide +kernel
theorem dX11_feed_22 : decode cX11_feed 22 = .ok (.aload_n 0, 1) := by decide +kernel
theorem dX11_feed_23 : decode cX11_feed 23 = .ok (.iload_n 3, 1) := by decide +kernel
theorem dX11_feed_24 : decode cX11_feed 24 = .ok (.invokevirtual 100, 3) := by decide +kernel
theorem dX11_feed_27 : decode cX11_feed 27 = .ok (.aload_n 0, 1) := by decide +kernel
theorem dX11_feed_28 : decode cX11_feed 28 = .ok (.iload 4, 2) := by decide +kernel
theorem dX11_feed_30 : decode cX11_feed 30 = .ok (.invokevirtual 100, 3) := by decide +kernel
theorem dX11_feed_33 : decode cX11_feed 33 = .ok (.aload_n 0, 1) := by decide +kernel
theorem dX11_feed_34 : decode cX11_feed 34 = .ok (.iload 5, 2) := by decide +kernel
theorem dX11_feed_36 : decode cX11_feed 36 = .ok (.invokevirtual 100, 3) := by decide +kernel
theorem dX11_feed_39 : decode cX11_feed 39 = .ok (.aload_n 0, 1) := by decide +kernel
theorem dX11_feed_40 : decode cX11_feed 40 = .ok (.getfield 97, 3) := by decide +kernel
theorem dX11_feed_43 : decode cX11_feed 43 = .ok (.ireturn, 1) := by decide +kernel
theorem dX11_town_0 : decode cX11_town 0 = .ok (.iload_n 1, 1) := by decide +kernel
theorem dX11_town_1 : decode cX11_town 1 = .ok (.ifCond .lt 11, 3) := by decide +kernel
theorem dX11_town_4 : decode cX11_town 4 = .ok (.iload_n 1, 1) := by decide +kernel
theorem dX11_town_5 : decode cX11_town 5 = .ok (.aload_n 0, 1) := by decide +kernel
theorem dX11_town_6 : decode cX11_town 6 = .ok (.getfield 97, 3) := by decide +kernel
theorem dX11_town_9 : decode cX11_town 9 = .ok (.if_icmp .le 6, 3) := by decide +kernel
theorem dX11_town_12 : decode cX11_town 12 = .ok (.bipush (-2), 2) := by decide +kernel
theorem dX11_town_14 : decode cX11_town 14 = .ok (.ireturn, 1) := by decide +kernel
theorem dX11_town_15 : decode cX11_town 15 = .ok (.aload_n 0, 1) := by decide +kernel
theorem dX11_town_16 : decode cX11_town 16 = .ok (.getfield 35, 3) := by decide +kernel
theorem dX11_town_19 : decode cX11_town 19 = .ok (.iload_n 1, 1) := by decide +kernel
theorem dX11_town_20 : decode cX11_town 20 = .ok (.invokevirtual 104, 3) := by decide +kernel
theorem dX11_town_23 : decode cX11_town 23 = .ok (.istore_n 2, 1) := by decide +kernel
theorem dX11_town_24 : decode cX11_town 24 = .ok (.aload_n 0, 1) := by decide +kernel
theorem dX11_town_25 : decode cX11_town 25 = .ok (.iload_n 2, 1) := by decide +kernel
theorem dX11_town_26 : decode cX11_town 26 = .ok (.invokevirtual 108, 3) := by decide +kernel
theorem dX11_town_29 : decode cX11_town 29 = .ok (.iload_n 2, 1) := by decide +kernel
theorem dX11_town_30 : decode cX11_town 30 = .ok (.ifCond .ne 5, 3) := by decide +kernel
theorem dX11_town_33 : decode cX11_town 33 = .ok (.iconst (-1), 1) := by decide +kernel
theorem dX11_town_34 : decode cX11_town 34 = .ok (.ireturn, 1) := by decide +kernel
theorem dX11_town_35 : decode cX11_town 35 = .ok (.aload_n 0, 1) := by decide +kernel
theorem dX11_town_36 : decode cX11_town 36 = .ok (.getfield 16, 3) := by decide +kernel
theorem dX11_town_39 : decode cX11_town 39 = .ok (.aload_n 0, 1) := by decide +kernel
theorem dX11_town_40 : decode cX11_town 40 = .ok (.getfield 20, 3) := by decide +kernel
theorem dX11_town_43 : decode cX11_town 43 = .ok (.invokevirtual 112, 3) := by decide +kernel
theorem dX11_town_46 : decode cX11_town 46 = .ok (.aload_n 0, 1) := by decide +kernel
theorem dX11_town_47 : decode cX11_town 47 = .ok (.getfield 85, 3) := by decide +kernel
theorem dX11_town_50 : decode cX11_town 50 = .ok (.invokevirtual 115, 3) := by decide +kernel
theorem dX11_town_53 : decode cX11_town 53 = .ok (.aload_n 0, 1) := by decide +kernel
theorem dX11_town_54 : decode cX11_town 54 = .ok (.iconst 0, 1) := by decide +kernel
theorem dX11_town_55 : decode cX11_town 55 = .ok (.putfield 118, 3) := by decide +kernel
theorem dX11_town_58 : decode cX11_town 58 = .ok (.aload_n 0, 1) := by decide +kernel
theorem dX11_town_59 : decode cX11_town 59 = .ok (.dup, 1) := by decide +kernel
theorem dX11_town_60 : decode cX11_town 60 = .ok (.getfield 121, 3) := by decide +kernel
theorem dX11_town_63 : decode cX11_town 63 = .ok (.iconst 1, 1) := by decide +kernel
theorem dX11_town_64 : decode cX11_town 64 = .ok (.iadd, 1) := by decide +kernel
theorem dX11_town_65 : decode cX11_town 65 = .ok (.putfield 121, 3) := by decide +kernel
theorem dX11_town_68 : decode cX11_town 68 = .ok (.aload_n 0, 1) := by decide +kernel
theorem dX11_town_69 : decode cX11_town 69 = .ok (.getfield 16, 3) := by decide +kernel
theorem dX11_town_72 : decode cX11_town 72 = .ok (.iconst 5, 1) := by decide +kernel
theorem dX11_town_73 : decode cX11_town 73 = .ok (.invokevirtual 124, 3) := by decide +kernel
theorem dX11_town_76 : decode cX11_town 76 = .ok (.ireturn, 1) := by decide +kernel
theorem dX11_picture_0 : decode cX11_picture 0 = .ok (.iload_n 1, 1) := by decide +kernel
theorem dX11_picture_1 : decode cX11_picture 1 = .ok (.ifCond .lt 11, 3) := by decide +kernel
theorem dX11_picture_4 : decode cX11_picture 4 = .ok (.iload_n 1, 1) := by decide +kernel
theorem dX11_picture_5 : decode cX11_picture 5 = .ok (.aload_n 0, 1) := by decide +kernel
theorem dX11_picture_6 : decode cX11_picture 6 = .ok (.getfield 97, 3) := by decide +kernel
theorem dX11_picture_9 : decode cX11_picture 9 = .ok (.if_icmp .le 6, 3) := by decide +kernel
theorem dX11_picture_12 : decode cX11_picture 12 = .ok (.bipush (-2), 2) := by decide +kernel
theorem dX11_picture_14 : decode cX11_picture 14 = .ok (.ireturn, 1) := by decide +kernel
theorem dX11_picture_15 : decode cX11_picture 15 = .ok (.aload_n 0, 1) := by decide +kernel
theorem dX11_picture_16 : decode cX11_picture 16 = .ok (.getfield 85, 3) := by decide +kernel
theorem dX11_picture_19 : decode cX11_picture 19 = .ok (.invokevirtual 128, 3) := by decide +kernel
theorem dX11_picture_22 : decode cX11_picture 22 = .ok (.bipush 8, 2) := by decide +kernel
theorem dX11_picture_24 : decode cX11_picture 24 = .ok (.if_icmp .lt 6, 3) := by decide +kernel
theorem dX11_picture_27 : decode cX11_picture 27 = .ok (.bipush (-3), 2) := by decide +kernel
theorem dX11_picture_29 : decode cX11_picture 29 = .ok (.ireturn, 1) := by decide +kernel
theorem dX11_picture_30 : decode cX11_picture 30 = .ok (.aload_n 0, 1) := by decide +kernel
theorem dX11_picture_31 : decode cX11_picture 31 = .ok (.getfield 26, 3) := by decide +kernel
theorem dX11_picture_34 : decode cX11_picture 34 = .ok (.invokevirtual 132, 3) := by decide +kernel
theorem dX11_picture_37 : decode cX11_picture 37 = .ok (.aload_n 0, 1) := by decide +kernel
theorem dX11_picture_38 : decode cX11_picture 38 = .ok (.getfield 35, 3) := by decide +kernel
theorem dX11_picture_41 : decode cX11_picture 41 = .ok (.iload_n 1, 1) := by decide +kernel
theorem dX11_picture_42 : decode cX11_picture 42 = .ok (.invokevirtual 133, 3) := by decide +kernel
theorem dX11_picture_45 : decode cX11_picture 45 = .ok (.istore_n 2, 1) := by decide +kernel
theorem dX11_picture_46 : decode cX11_picture 46 = .ok (.aload_n 0, 1) := by decide +kernel
theorem dX11_picture_47 : decode cX11_picture 47 = .ok (.iload_n 2, 1) := by decide +kernel
theorem dX11_picture_48 : decode cX11_picture 48 = .ok (.invokevirtual 108, 3) := by decide +kernel
theorem dX11_picture_51 : decode cX11_picture 51 = .ok (.iload_n 2, 1) := by decide +kernel
theorem dX11_picture_52 : decode cX11_picture 52 = .ok (.ifCond .ne 5, 3) := by decide +kernel
theorem dX11_picture_55 : decode cX11_picture 55 = .ok (.iconst (-1), 1) := by decide +kernel
theorem dX11_picture_56 : decode cX11_picture 56 = .ok (.ireturn, 1) := by decide +kernel
theorem dX11_picture_57 : decode cX11_picture 57 = .ok (.aload_n 0, 1) := by decide +kernel
theorem dX11_picture_58 : decode cX11_picture 58 = .ok (.getfield 53, 3) := by decide +kernel
theorem dX11_picture_61 : decode cX11_picture 61 = .ok (.aload_n 0, 1) := by decide +kernel
theorem dX11_picture_62 : decode cX11_picture 62 = .ok (.getfield 26, 3) := by decide +kernel
theorem dX11_picture_65 : decode cX11_picture 65 = .ok (.invokevirtual 136, 3) := by decide +kernel
theorem dX11_picture_68 : decode cX11_picture 68 = .ok (.aload_n 0, 1) := by decide +kernel
theorem dX11_picture_69 : decode cX11_picture 69 = .ok (.getfield 85, 3) := by decide +kernel
theorem dX11_picture_72 : decode cX11_picture 72 = .ok (.aload_n 0, 1) := by decide +kernel
theorem dX11_picture_73 : decode cX11_picture 73 = .ok (.getfield 26, 3) := by decide +kernel
theorem dX11_picture_76 : decode cX11_picture 76 = .ok (.invokevirtual 140, 3) := by decide +kernel
theorem dX11_picture_79 : decode cX11_picture 79 = .ok (.ireturn, 1) := by decide +kernel
theorem dX11_more_0 : decode cX11_more 0 = .ok (.aload_n 0, 1) := by decide +kernel
theorem dX11_more_1 : decode cX11_more 1 = .ok (.getfield 85, 3) := by decide +kernel
theorem dX11_more_4 : decode cX11_more 4 = .ok (.iload_n 1, 1) := by decide +kernel
theorem dX11_more_5 : decode cX11_more 5 = .ok (.invokevirtual 144, 3) := by decide +kernel
theorem dX11_more_8 : decode cX11_more 8 = .ok (.astore_n 3, 1) := by decide +kernel
theorem dX11_more_9 : decode cX11_more 9 = .ok (.aload_n 3, 1) := by decide +kernel
theorem dX11_more_10 : decode cX11_more 10 = .ok (.ifnull 15, 3) := by decide +kernel
theorem dX11_more_13 : decode cX11_more 13 = .ok (.iload_n 2, 1) := by decide +kernel
theorem dX11_more_14 : decode cX11_more 14 = .ok (.ifCond .lt 11, 3) := by decide +kernel
theorem dX11_more_17 : decode cX11_more 17 = .ok (.iload_n 2, 1) := by decide +kernel
theorem dX11_more_18 : decode cX11_more 18 = .ok (.aload_n 0, 1) := by decide +kernel
theorem dX11_more_19 : decode cX11_more 19 = .ok (.getfield 97, 3) := by decide +kernel
theorem dX11_more_22 : decode cX11_more 22 = .ok (.if_icmp .le 6, 3) := by decide +kernel
theorem dX11_more_25 : decode cX11_more 25 = .ok (.bipush (-2), 2) := by decide +kernel
theorem dX11_more_27 : decode cX11_more 27 = .ok (.ireturn, 1) := by decide +kernel
theorem dX11_more_28 : decode cX11_more 28 = .ok (.aload_n 0, 1) := by decide +kernel
theorem dX11_more_29 : decode cX11_more 29 = .ok (.getfield 26, 3) := by decide +kernel
theorem dX11_more_32 : decode cX11_more 32 = .ok (.aload_n 3, 1) := by decide +kernel
theorem dX11_more_33 : decode cX11_more 33 = .ok (.invokevirtual 148, 3) := by decide +kernel
theorem dX11_more_36 : decode cX11_more 36 = .ok (.aload_n 0, 1) := by decide +kernel
theorem dX11_more_37 : decode cX11_more 37 = .ok (.getfield 35, 3) := by decide +kernel
theorem dX11_more_40 : decode cX11_more 40 = .ok (.iload_n 2, 1) := by decide +kernel
theorem dX11_more_41 : decode cX11_more 41 = .ok (.invokevirtual 133, 3) := by decide +kernel
theorem dX11_more_44 : decode cX11_more 44 = .ok (.istore 4, 2) := by decide +kernel
theorem dX11_more_46 : decode cX11_more 46 = .ok (.aload_n 0, 1) := by decide +kernel
theorem dX11_more_47 : decode cX11_more 47 = .ok (.iload 4, 2) := by decide +kernel
theorem dX11_more_49 : decode cX11_more 49 = .ok (.invokevirtual 108, 3) := by decide +kernel
theorem dX11_more_52 : decode cX11_more 52 = .ok (.iload 4, 2) := by decide +kernel
theorem dX11_more_54 : decode cX11_more 54 = .ok (.ifCond .ne 5, 3) := by decide +kernel
theorem dX11_more_57 : decode cX11_more 57 = .ok (.iconst (-1), 1) := by decide +kernel
theorem dX11_more_58 : decode cX11_more 58 = .ok (.ireturn, 1) := by decide +kernel
theorem dX11_more_59 : decode cX11_more 59 = .ok (.aload_n 0, 1) := by decide +kernel
theorem dX11_more_60 : decode cX11_more 60 = .ok (.getfield 53, 3) := by decide +kernel
theorem dX11_more_63 : decode cX11_more 63 = .ok (.aload_n 0, 1) := by decide +kernel
theorem dX11_more_64 : decode cX11_more 64 = .ok (.getfield 26, 3) := by decide +kernel
theorem dX11_more_67 : decode cX11_more 67 = .ok (.invokevirtual 136, 3) := by decide +kernel
theorem dX11_more_70 : decode cX11_more 70 = .ok (.aload_n 3, 1) := by decide +kernel
theorem dX11_more_71 : decode cX11_more 71 = .ok (.aload_n 0, 1) := by decide +kernel
theorem dX11_more_72 : decode cX11_more 72 = .ok (.getfield 26, 3) := by decide +kernel
theorem dX11_more_75 : decode cX11_more 75 = .ok (.invokevirtual 148, 3) := by decide +kernel
theorem dX11_more_78 : decode cX11_more 78 = .ok (.aload_n 3, 1) := by decide +kernel
theorem dX11_more_79 : decode cX11_more 79 = .ok (.invokevirtual 150, 3) := by decide +kernel
theorem dX11_more_82 : decode cX11_more 82 = .ok (.ireturn, 1) := by decide +kernel
theorem dX11_fault_0 : decode cX11_fault 0 = .ok (.aload_n 0, 1) := by decide +kernel
theorem dX11_fault_1 : decode cX11_fault 1 = .ok (.getfield 93, 3) := by decide +kernel
theorem dX11_fault_4 : decode cX11_fault 4 = .ok (.ireturn, 1) := by decide +kernel
theorem dX11_told_0 : decode cX11_told 0 = .ok (.iload_n 1, 1) := by decide +kernel
theorem dX11_told_1 : decode cX11_told 1 = .ok (.sipush 200, 3) := by decide +kernel
theorem dX11_told_4 : decode cX11_told 4 = .ok (.if_icmp .lt 26, 3) := by decide +kernel
theorem dX11_told_7 : decode cX11_told 7 = .ok (.aload_n 0, 1) := by decide +kernel
theorem dX11_told_8 : decode cX11_told 8 = .ok (.getfield 16, 3) := by decide +kernel
theorem dX11_told_11 : decode cX11_told 11 = .ok (.iconst 2, 1) := by decide +kernel
theorem dX11_told_12 : decode cX11_told 12 = .ok (.iload_n 1, 1) := by decide +kernel
theorem dX11_told_13 : decode cX11_told 13 = .ok (.sipush 200, 3) := by decide +kernel
theorem dX11_told_16 : decode cX11_told 16 = .ok (.isub, 1) := by decide +kernel
theorem dX11_told_17 : decode cX11_told 17 = .ok (.iconst 3, 1) := by decide +kernel
theorem dX11_told_18 : decode cX11_told 18 = .ok (.idiv, 1) := by decide +kernel
theorem dX11_told_19 : decode cX11_told 19 = .ok (.iload_n 1, 1) := by decide +kernel
theorem dX11_told_20 : decode cX11_told 20 = .ok (.sipush 200, 3) := by decide +kernel
theorem dX11_told_23 : decode cX11_told 23 = .ok (.isub, 1) := by decide +kernel
theorem dX11_told_24 : decode cX11_told 24 = .ok (.iconst 3, 1) := by decide +kernel
theorem dX11_told_25 : decode cX11_told 25 = .ok (.irem, 1) := by decide +kernel
theorem dX11_told_26 : decode cX11_told 26 = .ok (.invokevirtual 151, 3) := by decide +kernel
theorem dX11_told_29 : decode cX11_told 29 = .ok (.ireturn, 1) := by decide +kernel
theorem dX11_told_30 : decode cX11_told 30 = .ok (.iload_n 1, 1) := by decide +kernel
theorem dX11_told_31 : decode cX11_told 31 = .ok (.bipush 100, 2) := by decide +kernel
theorem dX11_told_33 : decode cX11_told 33 = .ok (.if_icmp .lt 24, 3) := by decide +kernel
theorem dX11_told_36 : decode cX11_told 36 = .ok (.aload_n 0, 1) := by decide +kernel
theorem dX11_told_37 : decode cX11_told 37 = .ok (.getfield 16, 3) := by decide +kernel
theorem dX11_told_40 : decode cX11_told 40 = .ok (.iconst 0, 1) := by decide +kernel
theorem dX11_told_41 : decode cX11_told 41 = .ok (.iload_n 1, 1) := by decide +kernel
theorem dX11_told_42 : decode cX11_told 42 = .ok (.bipush 100, 2) := by decide +kernel
theorem dX11_told_44 : decode cX11_told 44 = .ok (.isub, 1) := by decide +kernel
theorem dX11_told_45 : decode cX11_told 45 = .ok (.iconst 4, 1) := by decide +kernel
theorem dX11_told_46 : decode cX11_told 46 = .ok (.idiv, 1) := by decide +kernel
theorem dX11_told_47 : decode cX11_told 47 = .ok (.iload_n 1, 1) := by decide +kernel
theorem dX11_told_48 : decode cX11_told 48 = .ok (.bipush 100, 2) := by decide +kernel
theorem dX11_told_50 : decode cX11_told 50 = .ok (.isub, 1) := by decide +kernel
theorem dX11_told_51 : decode cX11_told 51 = .ok (.iconst 4, 1) := by decide +kernel
theorem dX11_told_52 : decode cX11_told 52 = .ok (.irem, 1) := by decide +kernel
theorem dX11_told_53 : decode cX11_told 53 = .ok (.invokevirtual 151, 3) := by decide +kernel
theorem dX11_told_56 : decode cX11_told 56 = .ok (.ireturn, 1) := by decide +kernel
theorem dX11_told_57 : decode cX11_told 57 = .ok (.aload_n 0, 1) := by decide +kernel
theorem dX11_told_58 : decode cX11_told 58 = .ok (.getfield 16, 3) := by decide +kernel
theorem dX11_told_61 : decode cX11_told 61 = .ok (.iload_n 1, 1) := by decide +kernel
theorem dX11_told_62 : decode cX11_told 62 = .ok (.invokevirtual 124, 3) := by decide +kernel
theorem dX11_told_65 : decode cX11_told 65 = .ok (.ireturn, 1) := by decide +kernel
theorem dX11_sign_0 : decode cX11_sign 0 = .ok (.aload_n 0, 1) := by decide +kernel
theorem dX11_sign_1 : decode cX11_sign 1 = .ok (.getfield 85, 3) := by decide +kernel
theorem dX11_sign_4 : decode cX11_sign 4 = .ok (.iload_n 1, 1) := by decide +kernel
theorem dX11_sign_5 : decode cX11_sign 5 = .ok (.invokevirtual 144, 3) := by decide +kernel
theorem dX11_sign_8 : decode cX11_sign 8 = .ok (.astore 4, 2) := by decide +kernel
theorem dX11_sign_10 : decode cX11_sign 10 = .ok (.aload 4, 2) := by decide +kernel
theorem dX11_sign_12 : decode cX11_sign 12 = .ok (.ifnonnull 7, 3) := by decide +kernel
theorem dX11_sign_15 : decode cX11_sign 15 = .ok (.iconst (-1), 1) := by decide +kernel
theorem dX11_sign_16 : decode cX11_sign 16 = .ok (.goto 10, 3) := by decide +kernel
theorem dX11_sign_19 : decode cX11_sign 19 = .ok (.aload 4, 2) := by decide +kernel
theorem dX11_sign_21 : decode cX11_sign 21 = .ok (.iload_n 2, 1) := by decide +kernel
theorem dX11_sign_22 : decode cX11_sign 22 = .ok (.iload_n 3, 1) := by decide +kernel
theorem dX11_sign_23 : decode cX11_sign 23 = .ok (.invokevirtual 155, 3) := by decide +kernel
theorem dX11_sign_26 : decode cX11_sign 26 = .ok (.ireturn, 1) := by decide +kernel
theorem dX11_lets_0 : decode cX11_lets 0 = .ok (.aload_n 0, 1) := by decide +kernel
theorem dX11_lets_1 : decode cX11_lets 1 = .ok (.getfield 85, 3) := by decide +kernel
theorem dX11_lets_4 : decode cX11_lets 4 = .ok (.iload_n 1, 1) := by decide +kernel
theorem dX11_lets_5 : decode cX11_lets 5 = .ok (.invokevirtual 144, 3) := by decide +kernel
theorem dX11_lets_8 : decode cX11_lets 8 = .ok (.astore 5, 2) := by decide +kernel
theorem dX11_lets_10 : decode cX11_lets 10 = .ok (.aload 5, 2) := by decide +kernel
theorem dX11_lets_12 : decode cX11_lets 12 = .ok (.ifnull 21, 3) := by decide +kernel
theorem dX11_lets_15 : decode cX11_lets 15 = .ok (.aload 5, 2) := by decide +kernel
theorem dX11_lets_17 : decode cX11_lets 17 = .ok (.iload_n 2, 1) := by decide +kernel
theorem dX11_lets_18 : decode cX11_lets 18 = .ok (.invokevirtual 159, 3) := by decide +kernel
theorem dX11_lets_21 : decode cX11_lets 21 = .ok (.ifCond .eq 12, 3) := by decide +kernel
theorem dX11_lets_24 : decode cX11_lets 24 = .ok (.iload_n 3, 1) := by decide +kernel
theorem dX11_lets_25 : decode cX11_lets 25 = .ok (.iload 4, 2) := by decide +kernel
theorem dX11_lets_27 : decode cX11_lets 27 = .ok (.invokestatic 162, 3) := by decide +kernel
theorem dX11_lets_30 : decode cX11_lets 30 = .ok (.ifCond .ne 5, 3) := by decide +kernel
theorem dX11_lets_33 : decode cX11_lets 33 = .ok (.iconst (-1), 1) := by decide +kernel
theorem dX11_lets_34 : decode cX11_lets 34 = .ok (.ireturn, 1) := by decide +kernel
theorem dX11_lets_35 : decode cX11_lets 35 = .ok (.aload_n 0, 1) := by decide +kernel
theorem dX11_lets_36 : decode cX11_lets 36 = .ok (.getfield 53, 3) := by decide +kernel
theorem dX11_lets_39 : decode cX11_lets 39 = .ok (.aload 5, 2) := by decide +kernel
theorem dX11_lets_41 : decode cX11_lets 41 = .ok (.iload_n 2, 1) := by decide +kernel
theorem dX11_lets_42 : decode cX11_lets 42 = .ok (.iload_n 3, 1) := by decide +kernel
theorem dX11_lets_43 : decode cX11_lets 43 = .ok (.iload 4, 2) := by decide +kernel
theorem dX11_lets_45 : decode cX11_lets 45 = .ok (.invokevirtual 166, 3) := by decide +kernel
theorem dX11_lets_48 : decode cX11_lets 48 = .ok (.ifCond .eq 7, 3) := by decide +kernel
theorem dX11_lets_51 : decode cX11_lets 51 = .ok (.iconst 1, 1) := by decide +kernel
theorem dX11_lets_52 : decode cX11_lets 52 = .ok (.goto 4, 3) := by decide +kernel
theorem dX11_lets_55 : decode cX11_lets 55 = .ok (.iconst 0, 1) := by decide +kernel
theorem dX11_lets_56 : decode cX11_lets 56 = .ok (.ireturn, 1) := by decide +kernel
theorem dX11_shadow_0 : decode cX11_shadow 0 = .ok (.iload 4, 2) := by decide +kernel
theorem dX11_shadow_2 : decode cX11_shadow 2 = .ok (.ifCond .lt 32, 3) := by decide +kernel
theorem dX11_shadow_5 : decode cX11_shadow 5 = .ok (.iload 4, 2) := by decide +kernel
theorem dX11_shadow_7 : decode cX11_shadow 7 = .ok (.iconst 3, 1) := by decide +kernel
theorem dX11_shadow_8 : decode cX11_shadow 8 = .ok (.if_icmp .gt 26, 3) := by decide +kernel
theorem dX11_shadow_11 : decode cX11_shadow 11 = .ok (.aload_n 0, 1) := by decide +kernel
theorem dX11_shadow_12 : decode cX11_shadow 12 = .ok (.getfield 44, 3) := by decide +kernel
theorem dX11_shadow_15 : decode cX11_shadow 15 = .ok (.iload_n 1, 1) := by decide +kernel
theorem dX11_shadow_16 : decode cX11_shadow 16 = .ok (.invokevirtual 170, 3) := by decide +kernel
theorem dX11_shadow_19 : decode cX11_shadow 19 = .ok (.ifCond .eq 15, 3) := by decide +kernel
theorem dX11_shadow_22 : decode cX11_shadow 22 = .ok (.aload_n 0, 1) := by decide +kernel
theorem dX11_shadow_23 : decode cX11_shadow 23 = .ok (.getfield 44, 3) := by decide +kernel
theorem dX11_shadow_26 : decode cX11_shadow 26 = .ok (.iload_n 2, 1) := by decide +kernel
theorem dX11_shadow_27 : decode cX11_shadow 27 = .ok (.iload_n 3, 1) := by decide +kernel
theorem dX11_shadow_28 : decode cX11_shadow 28 = .ok (.invokevirtual 173, 3) := by decide +kernel
theorem dX11_shadow_31 : decode cX11_shadow 31 = .ok (.ifCond .ne 6, 3) := by decide +kernel
theorem dX11_shadow_34 : decode cX11_shadow 34 = .ok (.ldc 176, 2) := by decide +kernel
theorem dX11_shadow_36 : decode cX11_shadow 36 = .ok (.ireturn, 1) := by decide +kernel
theorem dX11_shadow_37 : decode cX11_shadow 37 = .ok (.iload 4, 2) := by decide +kernel
theorem dX11_shadow_39 : decode cX11_shadow 39 = .ok (.iconst 2, 1) := by decide +kernel
theorem dX11_shadow_40 : decode cX11_shadow 40 = .ok (.if_icmp .ge 13, 3) := by decide +kernel
theorem dX11_shadow_43 : decode cX11_shadow 43 = .ok (.aload_n 0, 1) := by decide +kernel
theorem dX11_shadow_44 : decode cX11_shadow 44 = .ok (.getfield 44, 3) := by decide +kernel
theorem dX11_shadow_47 : decode cX11_shadow 47 = .ok (.invokevirtual 177, 3) := by decide +kernel
theorem dX11_shadow_50 : decode cX11_shadow 50 = .ok (.goto 10, 3) := by decide +kernel
theorem dX11_shadow_53 : decode cX11_shadow 53 = .ok (.aload_n 0, 1) := by decide +kernel
theorem dX11_shadow_54 : decode cX11_shadow 54 = .ok (.getfield 44, 3) := by decide +kernel
theorem dX11_shadow_57 : decode cX11_shadow 57 = .ok (.invokevirtual 180, 3) := by decide +kernel
theorem dX11_shadow_60 : decode cX11_shadow 60 = .ok (.istore 5, 2) := by decide +kernel
theorem dX11_shadow_62 : decode cX11_shadow 62 = .ok (.aload_n 0, 1) := by decide +kernel
theorem dX11_shadow_63 : decode cX11_shadow 63 = .ok (.getfield 44, 3) := by decide +kernel
theorem dX11_shadow_66 : decode cX11_shadow 66 = .ok (.invokevirtual 183, 3) := by decide +kernel
theorem dX11_shadow_69 : decode cX11_shadow 69 = .ok (.istore 6, 2) := by decide +kernel
theorem dX11_shadow_71 : decode cX11_shadow 71 = .ok (.iload 5, 2) := by decide +kernel
theorem dX11_shadow_73 : decode cX11_shadow 73 = .ok (.i2l, 1) := by decide +kernel
theorem dX11_shadow_74 : decode cX11_shadow 74 = .ok (.iload 6, 2) := by decide +kernel
theorem dX11_shadow_76 : decode cX11_shadow 76 = .ok (.i2l, 1) := by decide +kernel
theorem dX11_shadow_77 : decode cX11_shadow 77 = .ok (.invokestatic 186, 3) := by decide +kernel
theorem dX11_shadow_80 : decode cX11_shadow 80 = .ok (.l2i, 1) := by decide +kernel
theorem dX11_shadow_81 : decode cX11_shadow 81 = .ok (.istore 7, 2) := by decide +kernel
theorem dX11_shadow_83 : decode cX11_shadow 83 = .ok (.iload 7, 2) := by decide +kernel
theorem dX11_shadow_85 : decode cX11_shadow 85 = .ok (.ifCond .gt 6, 3) := by decide +kernel
theorem dX11_shadow_88 : decode cX11_shadow 88 = .ok (.ldc 176, 2) := by decide +kernel
theorem dX11_shadow_90 : decode cX11_shadow 90 = .ok (.ireturn, 1) := by decide +kernel
theorem dX11_shadow_91 : decode cX11_shadow 91 = .ok (.iload 4, 2) := by decide +kernel
theorem dX11_shadow_93 : decode cX11_shadow 93 = .ok (.iconst 2, 1) := by decide +kernel
theorem dX11_shadow_94 : decode cX11_shadow 94 = .ok (.irem, 1) := by decide +kernel
theorem dX11_shadow_95 : decode cX11_shadow 95 = .ok (.ifCond .ne 11, 3) := by decide +kernel
theorem dX11_shadow_98 : decode cX11_shadow 98 = .ok (.iload 5, 2) := by decide +kernel
theorem dX11_shadow_100 : decode cX11_shadow 100 = .ok (.iload 7, 2) := by decide +kernel
theorem dX11_shadow_102 : decode cX11_shadow 102 = .ok (.idiv, 1) := by decide +kernel
theorem dX11_shadow_103 : decode cX11_shadow 103 = .ok (.goto 8, 3) := by decide +kernel
theorem dX11_shadow_106 : decode cX11_shadow 106 = .ok (.iload 6, 2) := by decide +kernel
theorem dX11_shadow_108 : decode cX11_shadow 108 = .ok (.iload 7, 2) := by decide +kernel
theorem dX11_shadow_110 : decode cX11_shadow 110 = .ok (.idiv, 1) := by decide +kernel
theorem dX11_shadow_111 : decode cX11_shadow 111 = .ok (.ireturn, 1) := by decide +kernel
theorem dX11_all_0 : decode cX11_all 0 = .ok (.aload_n 0, 1) := by decide +kernel
theorem dX11_all_1 : decode cX11_all 1 = .ok (.getfield 85, 3) := by decide +kernel
theorem dX11_all_4 : decode cX11_all 4 = .ok (.iload_n 1, 1) := by decide +kernel
theorem dX11_all_5 : decode cX11_all 5 = .ok (.invokevirtual 144, 3) := by decide +kernel
theorem dX11_all_8 : decode cX11_all 8 = .ok (.astore_n 2, 1) := by decide +kernel
theorem dX11_all_9 : decode cX11_all 9 = .ok (.aload_n 2, 1) := by decide +kernel
theorem dX11_all_10 : decode cX11_all 10 = .ok (.ifnonnull 7, 3) := by decide +kernel
theorem dX11_all_13 : decode cX11_all 13 = .ok (.iconst (-1), 1) := by decide +kernel
theorem dX11_all_14 : decode cX11_all 14 = .ok (.goto 10, 3) := by decide +kernel
theorem dX11_all_17 : decode cX11_all 17 = .ok (.aload_n 2, 1) := by decide +kernel
theorem dX11_all_18 : decode cX11_all 18 = .ok (.invokevirtual 190, 3) := by decide +kernel
theorem dX11_all_21 : decode cX11_all 21 = .ok (.invokevirtual 194, 3) := by decide +kernel
theorem dX11_all_24 : decode cX11_all 24 = .ok (.ireturn, 1) := by decide +kernel
theorem dX11_days_0 : decode cX11_days 0 = .ok (.aload_n 0, 1) := by decide +kernel
theorem dX11_days_1 : decode cX11_days 1 = .ok (.getfield 85, 3) := by decide +kernel
theorem dX11_days_4 : decode cX11_days 4 = .ok (.iload_n 1, 1) := by decide +kernel
theorem dX11_days_5 : decode cX11_days 5 = .ok (.invokevirtual 144, 3) := by decide +kernel
theorem dX11_days_8 : decode cX11_days 8 = .ok (.astore_n 3, 1) := by decide +kernel
theorem dX11_days_9 : decode cX11_days 9 = .ok (.aload_n 3, 1) := by decide +kernel
theorem dX11_days_10 : decode cX11_days 10 = .ok (.ifnull 8, 3) := by decide +kernel
theorem dX11_days_13 : decode cX11_days 13 = .ok (.iload_n 2, 1) := by decide +kernel
theorem dX11_days_14 : decode cX11_days 14 = .ok (.iconst (-1), 1) := by decide +kernel
theorem dX11_days_15 : decode cX11_days 15 = .ok (.if_icmp .ge 5, 3) := by decide +kernel
theorem dX11_days_18 : decode cX11_days 18 = .ok (.iconst (-1), 1) := by decide +kernel
theorem dX11_days_19 : decode cX11_days 19 = .ok (.ireturn, 1) := by decide +kernel
theorem dX11_days_20 : decode cX11_days 20 = .ok (.iload_n 2, 1) := by decide +kernel
theorem dX11_days_21 : decode cX11_days 21 = .ok (.iconst (-1), 1) := by decide +kernel
theorem dX11_days_22 : decode cX11_days 22 = .ok (.if_icmp .ne 13, 3) := by decide +kernel
theorem dX11_days_25 : decode cX11_days 25 = .ok (.aload_n 3, 1) := by decide +kernel
theorem dX11_days_26 : decode cX11_days 26 = .ok (.invokevirtual 190, 3) := by decide +kernel
theorem dX11_days_29 : decode cX11_days 29 = .ok (.invokevirtual 199, 3) := by decide +kernel
theorem dX11_days_32 : decode cX11_days 32 = .ok (.goto 11, 3) := by decide +kernel
theorem dX11_days_35 : decode cX11_days 35 = .ok (.aload_n 3, 1) := by decide +kernel
theorem dX11_days_36 : decode cX11_days 36 = .ok (.invokevirtual 190, 3) := by decide +kernel
theorem dX11_days_39 : decode cX11_days 39 = .ok (.iload_n 2, 1) := by decide +kernel
theorem dX11_days_40 : decode cX11_days 40 = .ok (.invokevirtual 202, 3) := by decide +kernel
theorem dX11_days_43 : decode cX11_days 43 = .ok (.ireturn, 1) := by decide +kernel
theorem dX11_runs_0 : decode cX11_runs 0 = .ok (.aload_n 0, 1) := by decide +kernel
theorem dX11_runs_1 : decode cX11_runs 1 = .ok (.getfield 85, 3) := by decide +kernel
theorem dX11_runs_4 : decode cX11_runs 4 = .ok (.iload_n 1, 1) := by decide +kernel
theorem dX11_runs_5 : decode cX11_runs 5 = .ok (.invokevirtual 144, 3) := by decide +kernel
theorem dX11_runs_8 : decode cX11_runs 8 = .ok (.astore 4, 2) := by decide +kernel
theorem dX11_runs_10 : decode cX11_runs 10 = .ok (.aload 4, 2) := by decide +kernel
theorem dX11_runs_12 : decode cX11_runs 12 = .ok (.ifnull 8, 3) := by decide +kernel
theorem dX11_runs_15 : decode cX11_runs 15 = .ok (.iload_n 2, 1) := by decide +kernel
theorem dX11_runs_16 : decode cX11_runs 16 = .ok (.iconst (-1), 1) := by decide +kernel
theorem dX11_runs_17 : decode cX11_runs 17 = .ok (.if_icmp .ge 5, 3) := by decide +kernel
theorem dX11_runs_20 : decode cX11_runs 20 = .ok (.iconst (-1), 1) := by decide +kernel
theorem dX11_runs_21 : decode cX11_runs 21 = .ok (.ireturn, 1) := by decide +kernel
theorem dX11_runs_22 : decode cX11_runs 22 = .ok (.iload_n 2, 1) := by decide +kernel
theorem dX11_runs_23 : decode cX11_runs 23 = .ok (.iconst (-1), 1) := by decide +kernel
theorem dX11_runs_24 : decode cX11_runs 24 = .ok (.if_icmp .ne 20, 3) := by decide +kernel
theorem dX11_runs_27 : decode cX11_runs 27 = .ok (.iload_n 3, 1) := by decide +kernel
theorem dX11_runs_28 : decode cX11_runs 28 = .ok (.ifCond .ne 14, 3) := by decide +kernel
theorem dX11_runs_31 : decode cX11_runs 31 = .ok (.aload 4, 2) := by decide +kernel
theorem dX11_runs_33 : decode cX11_runs 33 = .ok (.invokevirtual 190, 3) := by decide +kernel
theorem dX11_runs_36 : decode cX11_runs 36 = .ok (.invokevirtual 205, 3) := by decide +kernel
theorem dX11_runs_39 : decode cX11_runs 39 = .ok (.goto 4, 3) := by decide +kernel
theorem dX11_runs_42 : decode cX11_runs 42 = .ok (.iconst (-1), 1) := by decide +kernel
theorem dX11_runs_43 : decode cX11_runs 43 = .ok (.ireturn, 1) := by decide +kernel
theorem dX11_runs_44 : decode cX11_runs 44 = .ok (.aload 4, 2) := by decide +kernel
theorem dX11_runs_46 : decode cX11_runs 46 = .ok (.invokevirtual 190, 3) := by decide +kernel
theorem dX11_runs_49 : decode cX11_runs 49 = .ok (.iload_n 2, 1) := by decide +kernel
theorem dX11_runs_50 : decode cX11_runs 50 = .ok (.iload_n 3, 1) := by decide +kernel
theorem dX11_runs_51 : decode cX11_runs 51 = .ok (.invokevirtual 208, 3) := by decide +kernel
theorem dX11_runs_54 : decode cX11_runs 54 = .ok (.ireturn, 1) := by decide +kernel
theorem dX11_judge_0 : decode cX11_judge 0 = .ok (.aload_n 0, 1) := by decide +kernel
theorem dX11_judge_1 : decode cX11_judge 1 = .ok (.getfield 85, 3) := by decide +kernel
theorem dX11_judge_4 : decode cX11_judge 4 = .ok (.iload_n 1, 1) := by decide +kernel
theorem dX11_judge_5 : decode cX11_judge 5 = .ok (.invokevirtual 144, 3) := by decide +kernel
theorem dX11_judge_8 : decode cX11_judge 8 = .ok (.astore 4, 2) := by decide +kernel
theorem dX11_judge_10 : decode cX11_judge 10 = .ok (.aload 4, 2) := by decide +kernel
theorem dX11_judge_12 : decode cX11_judge 12 = .ok (.ifnull 11, 3) := by decide +kernel
theorem dX11_judge_15 : decode cX11_judge 15 = .ok (.iload_n 2, 1) := by decide +kernel
theorem dX11_judge_16 : decode cX11_judge 16 = .ok (.iload_n 3, 1) := by decide +kernel
theorem dX11_judge_17 : decode cX11_judge 17 = .ok (.invokestatic 162, 3) := by decide +kernel
theorem dX11_judge_20 : decode cX11_judge 20 = .ok (.ifCond .ne 6, 3) := by decide +kernel
theorem dX11_judge_23 : decode cX11_judge 23 = .ok (.bipush (-2), 2) := by decide +kernel
theorem dX11_judge_25 : decode cX11_judge 25 = .ok (.ireturn, 1) := by decide +kernel
theorem dX11_judge_26 : decode cX11_judge 26 = .ok (.iconst 0, 1) := by decide +kernel
theorem dX11_judge_27 : decode cX11_judge 27 = .ok (.istore 5, 2) := by decide +kernel
theorem dX11_judge_29 : decode cX11_judge 29 = .ok (.iload 5, 2) := by decide +kernel
theorem dX11_judge_31 : decode cX11_judge 31 = .ok (.aload 4, 2) := by decide +kernel
theorem dX11_judge_33 : decode cX11_judge 33 = .ok (.invokevirtual 150, 3) := by decide +kernel
theorem dX11_judge_36 : decode cX11_judge 36 = .ok (.if_icmp .ge 28, 3) := by decide +kernel
theorem dX11_judge_39 : decode cX11_judge 39 = .ok (.aload_n 0, 1) := by decide +kernel
theorem dX11_judge_40 : decode cX11_judge 40 = .ok (.getfield 53, 3) := by decide +kernel
theorem dX11_judge_43 : decode cX11_judge 43 = .ok (.aload 4, 2) := by decide +kernel
theorem dX11_judge_45 : decode cX11_judge 45 = .ok (.iload 5, 2) := by decide +kernel
theorem dX11_judge_47 : decode cX11_judge 47 = .ok (.iload_n 2, 1) := by decide +kernel
theorem dX11_judge_48 : decode cX11_judge 48 = .ok (.iload_n 3, 1) := by decide +kernel
theorem dX11_judge_49 : decode cX11_judge 49 = .ok (.invokevirtual 166, 3) := by decide +kernel
theorem dX11_judge_52 : decode cX11_judge 52 = .ok (.ifCond .ne 6, 3) := by decide +kernel
theorem dX11_judge_55 : decode cX11_judge 55 = .ok (.iload 5, 2) := by decide +kernel
theorem dX11_judge_57 : decode cX11_judge 57 = .ok (.ireturn, 1) := by decide +kernel
theorem dX11_judge_58 : decode cX11_judge 58 = .ok (.iinc 5 1, 3) := by decide +kernel
theorem dX11_judge_61 : decode cX11_judge 61 = .ok (.goto (-32), 3) := by decide +kernel
theorem dX11_judge_64 : decode cX11_judge 64 = .ok (.iconst (-1), 1) := by decide +kernel
theorem dX11_judge_65 : decode cX11_judge 65 = .ok (.ireturn, 1) := by decide +kernel
theorem dX11_quarrel_0 : decode cX11_quarrel 0 = .ok (.aload_n 0, 1) := by decide +kernel
theorem dX11_quarrel_1 : decode cX11_quarrel 1 = .ok (.getfield 85, 3) := by decide +kernel
theorem dX11_quarrel_4 : decode cX11_quarrel 4 = .ok (.iload_n 1, 1) := by decide +kernel
theorem dX11_quarrel_5 : decode cX11_quarrel 5 = .ok (.invokevirtual 144, 3) := by decide +kernel
theorem dX11_quarrel_8 : decode cX11_quarrel 8 = .ok (.astore_n 2, 1) := by decide +kernel
theorem dX11_quarrel_9 : decode cX11_quarrel 9 = .ok (.aload_n 2, 1) := by decide +kernel
theorem dX11_quarrel_10 : decode cX11_quarrel 10 = .ok (.ifnonnull 5, 3) := by decide +kernel
theorem dX11_quarrel_13 : decode cX11_quarrel 13 = .ok (.iconst (-1), 1) := by decide +kernel
theorem dX11_quarrel_14 : decode cX11_quarrel 14 = .ok (.ireturn, 1) := by decide +kernel
theorem dX11_quarrel_15 : decode cX11_quarrel 15 = .ok (.aload_n 0, 1) := by decide +kernel
theorem dX11_quarrel_16 : decode cX11_quarrel 16 = .ok (.getfield 62, 3) := by decide +kernel
theorem dX11_quarrel_19 : decode cX11_quarrel 19 = .ok (.aload_n 2, 1) := by decide +kernel
theorem dX11_quarrel_20 : decode cX11_quarrel 20 = .ok (.invokevirtual 211, 3) := by decide +kernel
theorem dX11_quarrel_23 : decode cX11_quarrel 23 = .ok (.aload_n 0, 1) := by decide +kernel
theorem dX11_quarrel_24 : decode cX11_quarrel 24 = .ok (.getfield 62, 3) := by decide +kernel
theorem dX11_quarrel_27 : decode cX11_quarrel 27 = .ok (.invokevirtual 214, 3) := by decide +kernel
theorem dX11_quarrel_30 : decode cX11_quarrel 30 = .ok (.ireturn, 1) := by decide +kernel
theorem dX11_doubt_0 : decode cX11_doubt 0 = .ok (.aload_n 0, 1) := by decide +kernel
theorem dX11_doubt_1 : decode cX11_doubt 1 = .ok (.getfield 85, 3) := by decide +kernel
theorem dX11_doubt_4 : decode cX11_doubt 4 = .ok (.iload_n 1, 1) := by decide +kernel
theorem dX11_doubt_5 : decode cX11_doubt 5 = .ok (.invokevirtual 144, 3) := by decide +kernel
theorem dX11_doubt_8 : decode cX11_doubt 8 = .ok (.astore_n 3, 1) := by decide +kernel
theorem dX11_doubt_9 : decode cX11_doubt 9 = .ok (.aload_n 3, 1) := by decide +kernel
theorem dX11_doubt_10 : decode cX11_doubt 10 = .ok (.ifnull 12, 3) := by decide +kernel
theorem dX11_doubt_13 : decode cX11_doubt 13 = .ok (.iload_n 2, 1) := by decide +kernel
theorem dX11_doubt_14 : decode cX11_doubt 14 = .ok (.ifCond .lt 8, 3) := by decide +kernel
theorem dX11_doubt_17 : decode cX11_doubt 17 = .ok (.iload_n 2, 1) := by decide +kernel
theorem dX11_doubt_18 : decode cX11_doubt 18 = .ok (.iconst 1, 1) := by decide +kernel
theorem dX11_doubt_19 : decode cX11_doubt 19 = .ok (.if_icmp .le 5, 3) := by decide +kernel
theorem dX11_doubt_22 : decode cX11_doubt 22 = .ok (.iconst (-1), 1) := by decide +kernel
theorem dX11_doubt_23 : decode cX11_doubt 23 = .ok (.ireturn, 1) := by decide +kernel
theorem dX11_doubt_24 : decode cX11_doubt 24 = .ok (.aload_n 0, 1) := by decide +kernel
theorem dX11_doubt_25 : decode cX11_doubt 25 = .ok (.getfield 62, 3) := by decide +kernel
theorem dX11_doubt_28 : decode cX11_doubt 28 = .ok (.aload_n 3, 1) := by decide +kernel
theorem dX11_doubt_29 : decode cX11_doubt 29 = .ok (.invokevirtual 211, 3) := by decide +kernel
theorem dX11_doubt_32 : decode cX11_doubt 32 = .ok (.iload_n 2, 1) := by decide +kernel
theorem dX11_doubt_33 : decode cX11_doubt 33 = .ok (.ifCond .ne 13, 3) := by decide +kernel
theorem dX11_doubt_36 : decode cX11_doubt 36 = .ok (.aload_n 0, 1) := by decide +kernel
theorem dX11_doubt_37 : decode cX11_doubt 37 = .ok (.getfield 62, 3) := by decide +kernel
theorem dX11_doubt_40 : decode cX11_doubt 40 = .ok (.invokevirtual 217, 3) := by decide +kernel
theorem dX11_doubt_43 : decode cX11_doubt 43 = .ok (.goto 10, 3) := by decide +kernel
theorem dX11_doubt_46 : decode cX11_doubt 46 = .ok (.aload_n 0, 1) := by decide +kernel
theorem dX11_doubt_47 : decode cX11_doubt 47 = .ok (.getfield 62, 3) := by decide +kernel
theorem dX11_doubt_50 : decode cX11_doubt 50 = .ok (.invokevirtual 220, 3) := by decide +kernel
theorem dX11_doubt_53 : decode cX11_doubt 53 = .ok (.ireturn, 1) := by decide +kernel
theorem dX11_stood_0 : decode cX11_stood 0 = .ok (.aload_n 0, 1) := by decide +kernel
theorem dX11_stood_1 : decode cX11_stood 1 = .ok (.getfield 85, 3) := by decide +kernel
theorem dX11_stood_4 : decode cX11_stood 4 = .ok (.iload_n 1, 1) := by decide +kernel
theorem dX11_stood_5 : decode cX11_stood 5 = .ok (.invokevirtual 144, 3) := by decide +kernel
theorem dX11_stood_8 : decode cX11_stood 8 = .ok (.astore 4, 2) := by decide +kernel
theorem dX11_stood_10 : decode cX11_stood 10 = .ok (.aload 4, 2) := by decide +kernel
theorem dX11_stood_12 : decode cX11_stood 12 = .ok (.ifnull 8, 3) := by decide +kernel
theorem dX11_stood_15 : decode cX11_stood 15 = .ok (.iload_n 3, 1) := by decide +kernel
theorem dX11_stood_16 : decode cX11_stood 16 = .ok (.iconst (-1), 1) := by decide +kernel
theorem dX11_stood_17 : decode cX11_stood 17 = .ok (.if_icmp .ge 5, 3) := by decide +kernel
theorem dX11_stood_20 : decode cX11_stood 20 = .ok (.iconst (-1), 1) := by decide +kernel
theorem dX11_stood_21 : decode cX11_stood 21 = .ok (.ireturn, 1) := by decide +kernel
theorem dX11_stood_22 : decode cX11_stood 22 = .ok (.iconst 0, 1) := by decide +kernel
theorem dX11_stood_23 : decode cX11_stood 23 = .ok (.istore 5, 2) := by decide +kernel
theorem dX11_stood_25 : decode cX11_stood 25 = .ok (.iconst 0, 1) := by decide +kernel
theorem dX11_stood_26 : decode cX11_stood 26 = .ok (.istore 6, 2) := by decide +kernel
theorem dX11_stood_28 : decode cX11_stood 28 = .ok (.iload 6, 2) := by decide +kernel
theorem dX11_stood_30 : decode cX11_stood 30 = .ok (.sipush 1024, 3) := by decide +kernel
theorem dX11_stood_33 : decode cX11_stood 33 = .ok (.if_icmp .ge 44, 3) := by decide +kernel
theorem dX11_stood_36 : decode cX11_stood 36 = .ok (.aload_n 0, 1) := by decide +kernel
theorem dX11_stood_37 : decode cX11_stood 37 = .ok (.getfield 69, 3) := by decide +kernel
theorem dX11_stood_40 : decode cX11_stood 40 = .ok (.aload 4, 2) := by decide +kernel
theorem dX11_stood_42 : decode cX11_stood 42 = .ok (.iload_n 2, 1) := by decide +kernel
theorem dX11_stood_43 : decode cX11_stood 43 = .ok (.iload 6, 2) := by decide +kernel
theorem dX11_stood_45 : decode cX11_stood 45 = .ok (.bipush 32, 2) := by decide +kernel
theorem dX11_stood_47 : decode cX11_stood 47 = .ok (.irem, 1) := by decide +kernel
theorem dX11_stood_48 : decode cX11_stood 48 = .ok (.iload 6, 2) := by decide +kernel
theorem dX11_stood_50 : decode cX11_stood 50 = .ok (.bipush 32, 2) := by decide +kernel
theorem dX11_stood_52 : decode cX11_stood 52 = .ok (.idiv, 1) := by decide +kernel
theorem dX11_stood_53 : decode cX11_stood 53 = .ok (.invokevirtual 223, 3) := by decide +kernel
theorem dX11_stood_56 : decode cX11_stood 56 = .ok (.ifCond .eq 15, 3) := by decide +kernel
theorem dX11_stood_59 : decode cX11_stood 59 = .ok (.iload 5, 2) := by decide +kernel
theorem dX11_stood_61 : decode cX11_stood 61 = .ok (.iload_n 3, 1) := by decide +kernel
theorem dX11_stood_62 : decode cX11_stood 62 = .ok (.if_icmp .ne 6, 3) := by decide +kernel
theorem dX11_stood_65 : decode cX11_stood 65 = .ok (.iload 6, 2) := by decide +kernel
theorem dX11_stood_67 : decode cX11_stood 67 = .ok (.ireturn, 1) := by decide +kernel
theorem dX11_stood_68 : decode cX11_stood 68 = .ok (.iinc 5 1, 3) := by decide +kernel
theorem dX11_stood_71 : decode cX11_stood 71 = .ok (.iinc 6 1, 3) := by decide +kernel
theorem dX11_stood_74 : decode cX11_stood 74 = .ok (.goto (-46), 3) := by decide +kernel
theorem dX11_stood_77 : decode cX11_stood 77 = .ok (.iload_n 3, 1) := by decide +kernel
theorem dX11_stood_78 : decode cX11_stood 78 = .ok (.iconst (-1), 1) := by decide +kernel
theorem dX11_stood_79 : decode cX11_stood 79 = .ok (.if_icmp .ne 8, 3) := by decide +kernel
theorem dX11_stood_82 : decode cX11_stood 82 = .ok (.iload 5, 2) := by decide +kernel
theorem dX11_stood_84 : decode cX11_stood 84 = .ok (.goto 4, 3) := by decide +kernel
theorem dX11_stood_87 : decode cX11_stood 87 = .ok (.iconst (-1), 1) := by decide +kernel
theorem dX11_stood_88 : decode cX11_stood 88 = .ok (.ireturn, 1) := by decide +kernel
theorem dX11_late_0 : decode cX11_late 0 = .ok (.aload_n 0, 1) := by decide +kernel
theorem dX11_late_1 : decode cX11_late 1 = .ok (.getfield 85, 3) := by decide +kernel
theorem dX11_late_4 : decode cX11_late 4 = .ok (.iload_n 1, 1) := by decide +kernel
theorem dX11_late_5 : decode cX11_late 5 = .ok (.invokevirtual 144, 3) := by decide +kernel
theorem dX11_late_8 : decode cX11_late 8 = .ok (.astore_n 3, 1) := by decide +kernel
theorem dX11_late_9 : decode cX11_late 9 = .ok (.aload_n 3, 1) := by decide +kernel
theorem dX11_late_10 : decode cX11_late 10 = .ok (.ifnull 14, 3) := by decide +kernel
theorem dX11_late_13 : decode cX11_late 13 = .ok (.iload_n 2, 1) := by decide +kernel
theorem dX11_late_14 : decode cX11_late 14 = .ok (.iconst (-1), 1) := by decide +kernel
theorem dX11_late_15 : decode cX11_late 15 = .ok (.if_icmp .lt 9, 3) := by decide +kernel
theorem dX11_late_18 : decode cX11_late 18 = .ok (.iload_n 2, 1) := by decide +kernel
theorem dX11_late_19 : decode cX11_late 19 = .ok (.bipush 99, 2) := by decide +kernel
theorem dX11_late_21 : decode cX11_late 21 = .ok (.if_icmp .le 5, 3) := by decide +kernel
theorem dX11_late_24 : decode cX11_late 24 = .ok (.iconst (-1), 1) := by decide +kernel
theorem dX11_late_25 : decode cX11_late 25 = .ok (.ireturn, 1) := by decide +kernel
theorem dX11_late_26 : decode cX11_late 26 = .ok (.iload_n 2, 1) := by decide +kernel
theorem dX11_late_27 : decode cX11_late 27 = .ok (.iconst (-1), 1) := by decide +kernel
theorem dX11_late_28 : decode cX11_late 28 = .ok (.if_icmp .eq 13, 3) := by decide +kernel
theorem dX11_late_31 : decode cX11_late 31 = .ok (.aload_n 0, 1) := by decide +kernel
theorem dX11_late_32 : decode cX11_late 32 = .ok (.getfield 53, 3) := by decide +kernel
theorem dX11_late_35 : decode cX11_late 35 = .ok (.aload_n 3, 1) := by decide +kernel
theorem dX11_late_36 : decode cX11_late 36 = .ok (.iload_n 2, 1) := by decide +kernel
theorem dX11_late_37 : decode cX11_late 37 = .ok (.invokevirtual 227, 3) := by decide +kernel
theorem dX11_late_40 : decode cX11_late 40 = .ok (.ireturn, 1) := by decide +kernel
theorem dX11_late_41 : decode cX11_late 41 = .ok (.iconst 0, 1) := by decide +kernel
theorem dX11_late_42 : decode cX11_late 42 = .ok (.istore 4, 2) := by decide +kernel
theorem dX11_late_44 : decode cX11_late 44 = .ok (.iload 4, 2) := by decide +kernel
theorem dX11_late_46 : decode cX11_late 46 = .ok (.bipush 99, 2) := by decide +kernel
theorem dX11_late_48 : decode cX11_late 48 = .ok (.if_icmp .gt 25, 3) := by decide +kernel
theorem dX11_late_51 : decode cX11_late 51 = .ok (.aload_n 0, 1) := by decide +kernel
theorem dX11_late_52 : decode cX11_late 52 = .ok (.getfield 53, 3) := by decide +kernel
theorem dX11_late_55 : decode cX11_late 55 = .ok (.aload_n 3, 1) := by decide +kernel
theorem dX11_late_56 : decode cX11_late 56 = .ok (.iload 4, 2) := by decide +kernel
theorem dX11_late_58 : decode cX11_late 58 = .ok (.invokevirtual 227, 3) := by decide +kernel
theorem dX11_late_61 : decode cX11_late 61 = .ok (.ifCond .le 6, 3) := by decide +kernel
theorem dX11_late_64 : decode cX11_late 64 = .ok (.iload 4, 2) := by decide +kernel
theorem dX11_late_66 : decode cX11_late 66 = .ok (.ireturn, 1) := by decide +kernel
theorem dX11_late_67 : decode cX11_late 67 = .ok (.iinc 4 1, 3) := by decide +kernel
theorem dX11_late_70 : decode cX11_late 70 = .ok (.goto (-26), 3) := by decide +kernel
theorem dX11_late_73 : decode cX11_late 73 = .ok (.iconst (-1), 1) := by decide +kernel
theorem dX11_late_74 : decode cX11_late 74 = .ok (.ireturn, 1) := by decide +kernel
theorem dX11_couples_0 : decode cX11_couples 0 = .ok (.aload_n 0, 1) := by decide +kernel
theorem dX11_couples_1 : decode cX11_couples 1 = .ok (.getfield 85, 3) := by decide +kernel
theorem dX11_couples_4 : decode cX11_couples 4 = .ok (.iload_n 1, 1) := by decide +kernel
theorem dX11_couples_5 : decode cX11_couples 5 = .ok (.invokevirtual 144, 3) := by decide +kernel
theorem dX11_couples_8 : decode cX11_couples 8 = .ok (.astore 6, 2) := by decide +kernel
theorem dX11_couples_10 : decode cX11_couples 10 = .ok (.aload_n 0, 1) := by decide +kernel
theorem dX11_couples_11 : decode cX11_couples 11 = .ok (.getfield 85, 3) := by decide +kernel
theorem dX11_couples_14 : decode cX11_couples 14 = .ok (.iload_n 2, 1) := by decide +kernel
theorem dX11_couples_15 : decode cX11_couples 15 = .ok (.invokevirtual 144, 3) := by decide +kernel
theorem dX11_couples_18 : decode cX11_couples 18 = .ok (.astore 7, 2) := by decide +kernel
theorem dX11_couples_20 : decode cX11_couples 20 = .ok (.aload 6, 2) := by decide +kernel
theorem dX11_couples_22 : decode cX11_couples 22 = .ok (.ifnull 19, 3) := by decide +kernel
theorem dX11_couples_25 : decode cX11_couples 25 = .ok (.aload 7, 2) := by decide +kernel
theorem dX11_couples_27 : decode cX11_couples 27 = .ok (.ifnull 14, 3) := by decide +kernel
theorem dX11_couples_30 : decode cX11_couples 30 = .ok (.iload 5, 2) := by decide +kernel
theorem dX11_couples_32 : decode cX11_couples 32 = .ok (.ifCond .lt 9, 3) := by decide +kernel
theorem dX11_couples_35 : decode cX11_couples 35 = .ok (.iload 5, 2) := by decide +kernel
theorem dX11_couples_37 : decode cX11_couples 37 = .ok (.iconst 2, 1) := by decide +kernel
theorem dX11_couples_38 : decode cX11_couples 38 = .ok (.if_icmp .le 7, 3) := by decide +kernel
theorem dX11_couples_41 : decode cX11_couples 41 = .ok (.ldc2_w 231, 3) := by decide +kernel
theorem dX11_couples_44 : decode cX11_couples 44 = .ok (.lreturn, 1) := by decide +kernel
theorem dX11_couples_45 : decode cX11_couples 45 = .ok (.iload_n 3, 1) := by decide +kernel
theorem dX11_couples_46 : decode cX11_couples 46 = .ok (.sipush (-719), 3) := by decide +kernel
theorem dX11_couples_49 : decode cX11_couples 49 = .ok (.if_icmp .lt 17, 3) := by decide +kernel
theorem dX11_couples_52 : decode cX11_couples 52 = .ok (.iload 4, 2) := by decide +kernel
theorem dX11_couples_54 : decode cX11_couples 54 = .ok (.sipush 719, 3) := by decide +kernel
theorem dX11_couples_57 : decode cX11_couples 57 = .ok (.if_icmp .gt 9, 3) := by decide +kernel
theorem dX11_couples_60 : decode cX11_couples 60 = .ok (.iload_n 3, 1) := by decide +kernel
theorem dX11_couples_61 : decode cX11_couples 61 = .ok (.iload 4, 2) := by decide +kernel
theorem dX11_couples_63 : decode cX11_couples 63 = .ok (.if_icmp .le 7, 3) := by decide +kernel
theorem dX11_couples_66 : decode cX11_couples 66 = .ok (.ldc2_w 231, 3) := by decide +kernel
theorem dX11_couples_69 : decode cX11_couples 69 = .ok (.lreturn, 1) := by decide +kernel
theorem dX11_couples_70 : decode cX11_couples 70 = .ok (.aload 6, 2) := by decide +kernel
theorem dX11_couples_72 : decode cX11_couples 72 = .ok (.invokevirtual 190, 3) := by decide +kernel
theorem dX11_couples_75 : decode cX11_couples 75 = .ok (.aload 7, 2) := by decide +kernel
theorem dX11_couples_77 : decode cX11_couples 77 = .ok (.invokevirtual 190, 3) := by decide +kernel
theorem dX11_couples_80 : decode cX11_couples 80 = .ok (.iload_n 3, 1) := by decide +kernel
theorem dX11_couples_81 : decode cX11_couples 81 = .ok (.iload 4, 2) := by decide +kernel
theorem dX11_couples_83 : decode cX11_couples 83 = .ok (.iload 5, 2) := by decide +kernel
theorem dX11_couples_85 : decode cX11_couples 85 = .ok (.invokestatic 233, 3) := by decide +kernel
theorem dX11_couples_88 : decode cX11_couples 88 = .ok (.lreturn, 1) := by decide +kernel
theorem dX11_weight_0 : decode cX11_weight 0 = .ok (.iload_n 2, 1) := by decide +kernel
theorem dX11_weight_1 : decode cX11_weight 1 = .ok (.ifCond .lt 9, 3) := by decide +kernel
theorem dX11_weight_4 : decode cX11_weight 4 = .ok (.iload_n 2, 1) := by decide +kernel
theorem dX11_weight_5 : decode cX11_weight 5 = .ok (.bipush 99, 2) := by decide +kernel
theorem dX11_weight_7 : decode cX11_weight 7 = .ok (.if_icmp .le 5, 3) := by decide +kernel
theorem dX11_weight_10 : decode cX11_weight 10 = .ok (.iconst 0, 1) := by decide +kernel
theorem dX11_weight_11 : decode cX11_weight 11 = .ok (.ireturn, 1) := by decide +kernel
theorem dX11_weight_12 : decode cX11_weight 12 = .ok (.aload_n 0, 1) := by decide +kernel
theorem dX11_weight_13 : decode cX11_weight 13 = .ok (.getfield 85, 3) := by decide +kernel
theorem dX11_weight_16 : decode cX11_weight 16 = .ok (.iload_n 1, 1) := by decide +kernel
theorem dX11_weight_17 : decode cX11_weight 17 = .ok (.iload_n 2, 1) := by decide +kernel
theorem dX11_weight_18 : decode cX11_weight 18 = .ok (.invokevirtual 237, 3) := by decide +kernel
theorem dX11_weight_21 : decode cX11_weight 21 = .ok (.ireturn, 1) := by decide +kernel
theorem dX11_likely_0 : decode cX11_likely 0 = .ok (.aload_n 0, 1) := by decide +kernel
theorem dX11_likely_1 : decode cX11_likely 1 = .ok (.getfield 85, 3) := by decide +kernel
theorem dX11_likely_4 : decode cX11_likely 4 = .ok (.iload_n 1, 1) := by decide +kernel
theorem dX11_likely_5 : decode cX11_likely 5 = .ok (.invokevirtual 144, 3) := by decide +kernel
theorem dX11_likely_8 : decode cX11_likely 8 = .ok (.astore_n 3, 1) := by decide +kernel
theorem dX11_likely_9 : decode cX11_likely 9 = .ok (.aload_n 3, 1) := by decide +kernel
theorem dX11_likely_10 : decode cX11_likely 10 = .ok (.ifnull 12, 3) := by decide +kernel
theorem dX11_likely_13 : decode cX11_likely 13 = .ok (.iload_n 2, 1) := by decide +kernel
theorem dX11_likely_14 : decode cX11_likely 14 = .ok (.ifCond .lt 8, 3) := by decide +kernel
theorem dX11_likely_17 : decode cX11_likely 17 = .ok (.iload_n 2, 1) := by decide +kernel
theorem dX11_likely_18 : decode cX11_likely 18 = .ok (.iconst 2, 1) := by decide +kernel
theorem dX11_likely_19 : decode cX11_likely 19 = .ok (.if_icmp .le 7, 3) := by decide +kernel
theorem dX11_likely_22 : decode cX11_likely 22 = .ok (.ldc2_w 231, 3) := by decide +kernel
theorem dX11_likely_25 : decode cX11_likely 25 = .ok (.lreturn, 1) := by decide +kernel
theorem dX11_likely_26 : decode cX11_likely 26 = .ok (.iconst 0, 1) := by decide +kernel
theorem dX11_likely_27 : decode cX11_likely 27 = .ok (.istore 4, 2) := by decide +kernel
theorem dX11_likely_29 : decode cX11_likely 29 = .ok (.iconst (-1), 1) := by decide +kernel
theorem dX11_likely_30 : decode cX11_likely 30 = .ok (.istore 5, 2) := by decide +kernel
theorem dX11_likely_32 : decode cX11_likely 32 = .ok (.iconst 0, 1) := by decide +kernel
theorem dX11_likely_33 : decode cX11_likely 33 = .ok (.istore 6, 2) := by decide +kernel
theorem dX11_likely_35 : decode cX11_likely 35 = .ok (.iconst 0, 1) := by decide +kernel
theorem dX11_likely_36 : decode cX11_likely 36 = .ok (.istore 7, 2) := by decide +kernel
theorem dX11_likely_38 : decode cX11_likely 38 = .ok (.iload 7, 2) := by decide +kernel
theorem dX11_likely_40 : decode cX11_likely 40 = .ok (.bipush 120, 2) := by decide +kernel
theorem dX11_likely_42 : decode cX11_likely 42 = .ok (.if_icmp .ge 89, 3) := by decide +kernel
theorem dX11_likely_45 : decode cX11_likely 45 = .ok (.aload_n 3, 1) := by decide +kernel
theorem dX11_likely_46 : decode cX11_likely 46 = .ok (.invokevirtual 190, 3) := by decide +kernel
theorem dX11_likely_49 : decode cX11_likely 49 = .ok (.iload 7, 2) := by decide +kernel
theorem dX11_likely_51 : decode cX11_likely 51 = .ok (.invokevirtual 240, 3) := by decide +kernel
theorem dX11_likely_54 : decode cX11_likely 54 = .ok (.istore 8, 2) := by decide +kernel
theorem dX11_likely_56 : decode cX11_likely 56 = .ok (.aload_n 3, 1) := by decide +kernel
theorem dX11_likely_57 : decode cX11_likely 57 = .ok (.invokevirtual 190, 3) := by decide +kernel
theorem dX11_likely_60 : decode cX11_likely 60 = .ok (.iload 7, 2) := by decide +kernel
theorem dX11_likely_62 : decode cX11_likely 62 = .ok (.bipush 12, 2) := by decide +kernel
theorem dX11_likely_64 : decode cX11_likely 64 = .ok (.irem, 1) := by decide +kernel
theorem dX11_likely_65 : decode cX11_likely 65 = .ok (.invokevirtual 243, 3) := by decide +kernel
theorem dX11_likely_68 : decode cX11_likely 68 = .ok (.aload_n 0, 1) := by decide +kernel
theorem dX11_likely_69 : decode cX11_likely 69 = .ok (.getfield 85, 3) := by decide +kernel
theorem dX11_likely_72 : decode cX11_likely 72 = .ok (.iload 7, 2) := by decide +kernel
theorem dX11_likely_74 : decode cX11_likely 74 = .ok (.bipush 12, 2) := by decide +kernel
theorem dX11_likely_76 : decode cX11_likely 76 = .ok (.irem, 1) := by decide +kernel
theorem dX11_likely_77 : decode cX11_likely 77 = .ok (.invokevirtual 246, 3) := by decide +kernel
theorem dX11_likely_80 : decode cX11_likely 80 = .ok (.imul, 1) := by decide +kernel
theorem dX11_likely_81 : decode cX11_likely 81 = .ok (.istore 9, 2) := by decide +kernel
theorem dX11_likely_83 : decode cX11_likely 83 = .ok (.iload 6, 2) := by decide +kernel
theorem dX11_likely_85 : decode cX11_likely 85 = .ok (.iload 9, 2) := by decide +kernel
theorem dX11_likely_87 : decode cX11_likely 87 = .ok (.iload 8, 2) := by decide +kernel
theorem dX11_likely_89 : decode cX11_likely 89 = .ok (.invokestatic 249, 3) := by decide +kernel
theorem dX11_likely_92 : decode cX11_likely 92 = .ok (.imul, 1) := by decide +kernel
theorem dX11_likely_93 : decode cX11_likely 93 = .ok (.iadd, 1) := by decide +kernel
theorem dX11_likely_94 : decode cX11_likely 94 = .ok (.istore 6, 2) := by decide +kernel
theorem dX11_likely_96 : decode cX11_likely 96 = .ok (.iload 8, 2) := by decide +kernel
theorem dX11_likely_98 : decode cX11_likely 98 = .ok (.ifCond .eq 27, 3) := by decide +kernel
theorem dX11_likely_101 : decode cX11_likely 101 = .ok (.iload 9, 2) := by decide +kernel
theorem dX11_likely_103 : decode cX11_likely 103 = .ok (.iload 4, 2) := by decide +kernel
theorem dX11_likely_105 : decode cX11_likely 105 = .ok (.if_icmp .le 20, 3) := by decide +kernel
theorem dX11_likely_108 : decode cX11_likely 108 = .ok (.iload 9, 2) := by decide +kernel
theorem dX11_likely_110 : decode cX11_likely 110 = .ok (.istore 4, 2) := by decide +kernel
theorem dX11_likely_112 : decode cX11_likely 112 = .ok (.iload 7, 2) := by decide +kernel
theorem dX11_likely_114 : decode cX11_likely 114 = .ok (.bipush 30, 2) := by decide +kernel
theorem dX11_likely_116 : decode cX11_likely 116 = .ok (.imul, 1) := by decide +kernel
theorem dX11_likely_117 : decode cX11_likely 117 = .ok (.iload 8, 2) := by decide +kernel
theorem dX11_likely_119 : decode cX11_likely 119 = .ok (.invokestatic 254, 3) := by decide +kernel
theorem dX11_likely_122 : decode cX11_likely 122 = .ok (.iadd, 1) := by decide +kernel
theorem dX11_likely_123 : decode cX11_likely 123 = .ok (.istore 5, 2) := by decide +kernel
theorem dX11_likely_125 : decode cX11_likely 125 = .ok (.iinc 7 1, 3) := by decide +kernel
theorem dX11_likely_128 : decode cX11_likely 128 = .ok (.goto (-90), 3) := by decide +kernel
theorem dX11_likely_131 : decode cX11_likely 131 = .ok (.iload 4, 2) := by decide +kernel
theorem dX11_likely_133 : decode cX11_likely 133 = .ok (.i2l, 1) := by decide +kernel
theorem dX11_likely_134 : decode cX11_likely 134 = .ok (.iload 6, 2) := by decide +kernel
theorem dX11_likely_136 : decode cX11_likely 136 = .ok (.i2l, 1) := by decide +kernel
theorem dX11_likely_137 : decode cX11_likely 137 = .ok (.invokestatic 186, 3) := by decide +kernel
theorem dX11_likely_140 : decode cX11_likely 140 = .ok (.lstore 7, 2) := by decide +kernel
theorem dX11_likely_142 : decode cX11_likely 142 = .ok (.iload 6, 2) := by decide +kernel
theorem dX11_likely_144 : decode cX11_likely 144 = .ok (.ifCond .le 10, 3) := by decide +kernel
theorem dX11_likely_147 : decode cX11_likely 147 = .ok (.lload 7, 2) := by decide +kernel
theorem dX11_likely_149 : decode cX11_likely 149 = .ok (.lconst 0, 1) := by decide +kernel
theorem dX11_likely_150 : decode cX11_likely 150 = .ok (.lcmp, 1) := by decide +kernel
theorem dX11_likely_151 : decode cX11_likely 151 = .ok (.ifCond .gt 7, 3) := by decide +kernel
theorem dX11_likely_154 : decode cX11_likely 154 = .ok (.ldc2_w 231, 3) := by decide +kernel
theorem dX11_likely_157 : decode cX11_likely 157 = .ok (.lreturn, 1) := by decide +kernel
theorem dX11_likely_158 : decode cX11_likely 158 = .ok (.iload_n 2, 1) := by decide +kernel
theorem dX11_likely_159 : decode cX11_likely 159 = .ok (.ifCond .ne 7, 3) := by decide +kernel
theorem dX11_likely_162 : decode cX11_likely 162 = .ok (.iload 5, 2) := by decide +kernel
theorem dX11_likely_164 : decode cX11_likely 164 = .ok (.i2l, 1) := by decide +kernel
theorem dX11_likely_165 : decode cX11_likely 165 = .ok (.lreturn, 1) := by decide +kernel
theorem dX11_likely_166 : decode cX11_likely 166 = .ok (.iload_n 2, 1) := by decide +kernel
theorem dX11_likely_167 : decode cX11_likely 167 = .ok (.iconst 1, 1) := by decide +kernel
theorem dX11_likely_168 : decode cX11_likely 168 = .ok (.if_icmp .ne 12, 3) := by decide +kernel
theorem dX11_likely_171 : decode cX11_likely 171 = .ok (.iload 4, 2) := by decide +kernel
theorem dX11_likely_173 : decode cX11_likely 173 = .ok (.i2l, 1) := by decide +kernel
theorem dX11_likely_174 : decode cX11_likely 174 = .ok (.lload 7, 2) := by decide +kernel
theorem dX11_likely_176 : decode cX11_likely 176 = .ok (.ldiv, 1) := by decide +kernel
theorem dX11_likely_177 : decode cX11_likely 177 = .ok (.goto 9, 3) := by decide +kernel
theorem dX11_likely_180 : decode cX11_likely 180 = .ok (.iload 6, 2) := by decide +kernel
theorem dX11_likely_182 : decode cX11_likely 182 = .ok (.i2l, 1) := by decide +kernel
theorem dX11_likely_183 : decode cX11_likely 183 = .ok (.lload 7, 2) := by decide +kernel
theorem dX11_likely_185 : decode cX11_likely 185 = .ok (.ldiv, 1) := by decide +kernel
theorem dX11_likely_186 : decode cX11_likely 186 = .ok (.lreturn, 1) := by decide +kernel
theorem dX11_look_0 : decode cX11_look 0 = .ok (.aload_n 0, 1) := by decide +kernel
theorem dX11_look_1 : decode cX11_look 1 = .ok (.getfield 85, 3) := by decide +kernel
theorem dX11_look_4 : decode cX11_look 4 = .ok (.iload_n 1, 1) := by decide +kernel
theorem dX11_look_5 : decode cX11_look 5 = .ok (.invokevirtual 144, 3) := by decide +kernel
theorem dX11_look_8 : decode cX11_look 8 = .ok (.astore 4, 2) := by decide +kernel
theorem dX11_look_10 : decode cX11_look 10 = .ok (.aload 4, 2) := by decide +kernel
theorem dX11_look_12 : decode cX11_look 12 = .ok (.ifnull 25, 3) := by decide +kernel
theorem dX11_look_15 : decode cX11_look 15 = .ok (.iload_n 3, 1) := by decide +kernel
theorem dX11_look_16 : decode cX11_look 16 = .ok (.ifCond .lt 21, 3) := by decide +kernel
theorem dX11_look_19 : decode cX11_look 19 = .ok (.iload_n 3, 1) := by decide +kernel
theorem dX11_look_20 : decode cX11_look 20 = .ok (.iconst 1, 1) := by decide +kernel
theorem dX11_look_21 : decode cX11_look 21 = .ok (.if_icmp .gt 16, 3) := by decide +kernel
theorem dX11_look_24 : decode cX11_look 24 = .ok (.aload_n 0, 1) := by decide +kernel
theorem dX11_look_25 : decode cX11_look 25 = .ok (.getfield 78, 3) := by decide +kernel
theorem dX11_look_28 : decode cX11_look 28 = .ok (.aload 4, 2) := by decide +kernel
theorem dX11_look_30 : decode cX11_look 30 = .ok (.iload_n 2, 1) := by decide +kernel
theorem dX11_look_31 : decode cX11_look 31 = .ok (.invokevirtual 257, 3) := by decide +kernel
theorem dX11_look_34 : decode cX11_look 34 = .ok (.ifCond .ne 7, 3) := by decide +kernel
theorem dX11_look_37 : decode cX11_look 37 = .ok (.ldc2_w 231, 3) := by decide +kernel
theorem dX11_look_40 : decode cX11_look 40 = .ok (.lreturn, 1) := by decide +kernel
theorem dX11_look_41 : decode cX11_look 41 = .ok (.iload_n 3, 1) := by decide +kernel
theorem dX11_look_42 : decode cX11_look 42 = .ok (.ifCond .ne 13, 3) := by decide +kernel
theorem dX11_look_45 : decode cX11_look 45 = .ok (.aload_n 0, 1) := by decide +kernel
theorem dX11_look_46 : decode cX11_look 46 = .ok (.getfield 78, 3) := by decide +kernel
theorem dX11_look_49 : decode cX11_look 49 = .ok (.invokevirtual 261, 3) := by decide +kernel
theorem dX11_look_52 : decode cX11_look 52 = .ok (.goto 11, 3) := by decide +kernel
theorem dX11_look_55 : decode cX11_look 55 = .ok (.aload_n 0, 1) := by decide +kernel
theorem dX11_look_56 : decode cX11_look 56 = .ok (.getfield 78, 3) := by decide +kernel
theorem dX11_look_59 : decode cX11_look 59 = .ok (.invokevirtual 265, 3) := by decide +kernel
theorem dX11_look_62 : decode cX11_look 62 = .ok (.i2l, 1) := by decide +kernel
theorem dX11_look_63 : decode cX11_look 63 = .ok (.lreturn, 1) := by decide +kernel
theorem dX11_next_0 : decode cX11_next 0 = .ok (.aload_n 0, 1) := by decide +kernel
theorem dX11_next_1 : decode cX11_next 1 = .ok (.getfield 85, 3) := by decide +kernel
theorem dX11_next_4 : decode cX11_next 4 = .ok (.iload_n 1, 1) := by decide +kernel
theorem dX11_next_5 : decode cX11_next 5 = .ok (.invokevirtual 144, 3) := by decide +kernel
theorem dX11_next_8 : decode cX11_next 8 = .ok (.astore_n 2, 1) := by decide +kernel
theorem dX11_next_9 : decode cX11_next 9 = .ok (.aload_n 2, 1) := by decide +kernel
theorem dX11_next_10 : decode cX11_next 10 = .ok (.ifnonnull 7, 3) := by decide +kernel
theorem dX11_next_13 : decode cX11_next 13 = .ok (.iconst (-1), 1) := by decide +kernel
theorem dX11_next_14 : decode cX11_next 14 = .ok (.goto 11, 3) := by decide +kernel
theorem dX11_next_17 : decode cX11_next 17 = .ok (.aload_n 0, 1) := by decide +kernel
theorem dX11_next_18 : decode cX11_next 18 = .ok (.getfield 78, 3) := by decide +kernel
theorem dX11_next_21 : decode cX11_next 21 = .ok (.aload_n 2, 1) := by decide +kernel
theorem dX11_next_22 : decode cX11_next 22 = .ok (.invokevirtual 266, 3) := by decide +kernel
theorem dX11_next_25 : decode cX11_next 25 = .ok (.ireturn, 1) := by decide +kernel
theorem dX11_cloud_0 : decode cX11_cloud 0 = .ok (.iload_n 1, 1) := by decide +kernel
theorem dX11_cloud_1 : decode cX11_cloud 1 = .ok (.ifCond .le 15, 3) := by decide +kernel
theorem dX11_cloud_4 : decode cX11_cloud 4 = .ok (.iload_n 1, 1) := by decide +kernel
theorem dX11_cloud_5 : decode cX11_cloud 5 = .ok (.aload_n 0, 1) := by decide +kernel
theorem dX11_cloud_6 : decode cX11_cloud 6 = .ok (.getfield 85, 3) := by decide +kernel
theorem dX11_cloud_9 : decode cX11_cloud 9 = .ok (.invokevirtual 128, 3) := by decide +kernel
theorem dX11_cloud_12 : decode cX11_cloud 12 = .ok (.ishr, 1) := by decide +kernel
theorem dX11_cloud_13 : decode cX11_cloud 13 = .ok (.ifCond .eq 5, 3) := by decide +kernel
theorem dX11_cloud_16 : decode cX11_cloud 16 = .ok (.iconst (-1), 1) := by decide +kernel
theorem dX11_cloud_17 : decode cX11_cloud 17 = .ok (.ireturn, 1) := by decide +kernel
theorem dX11_cloud_18 : decode cX11_cloud 18 = .ok (.iload_n 2, 1) := by decide +kernel
theorem dX11_cloud_19 : decode cX11_cloud 19 = .ok (.ifCond .ne 12, 3) := by decide +kernel
theorem dX11_cloud_22 : decode cX11_cloud 22 = .ok (.aload_n 0, 1) := by decide +kernel
theorem dX11_cloud_23 : decode cX11_cloud 23 = .ok (.getfield 85, 3) := by decide +kernel
theorem dX11_cloud_26 : decode cX11_cloud 26 = .ok (.iload_n 1, 1) := by decide +kernel
theorem dX11_cloud_27 : decode cX11_cloud 27 = .ok (.invokevirtual 269, 3) := by decide +kernel
theorem dX11_cloud_30 : decode cX11_cloud 30 = .ok (.ireturn, 1) := by decide +kernel
theorem dX11_cloud_31 : decode cX11_cloud 31 = .ok (.iload_n 2, 1) := by decide +kernel
theorem dX11_cloud_32 : decode cX11_cloud 32 = .ok (.iconst 1, 1) := by decide +kernel
theorem dX11_cloud_33 : decode cX11_cloud 33 = .ok (.if_icmp .ne 12, 3) := by decide +kernel
theorem dX11_cloud_36 : decode cX11_cloud 36 = .ok (.aload_n 0, 1) := by decide +kernel
theorem dX11_cloud_37 : decode cX11_cloud 37 = .ok (.getfield 85, 3) := by decide +kernel
theorem dX11_cloud_40 : decode cX11_cloud 40 = .ok (.iload_n 1, 1) := by decide +kernel
theorem dX11_cloud_41 : decode cX11_cloud 41 = .ok (.invokevirtual 272, 3) := by decide +kernel
theorem dX11_cloud_44 : decode cX11_cloud 44 = .ok (.ireturn, 1) := by decide +kernel
theorem dX11_cloud_45 : decode cX11_cloud 45 = .ok (.iload_n 2, 1) := by decide +kernel
theorem dX11_cloud_46 : decode cX11_cloud 46 = .ok (.iconst 2, 1) := by decide +kernel
theorem dX11_cloud_47 : decode cX11_cloud 47 = .ok (.if_icmp .ne 14, 3) := by decide +kernel
theorem dX11_cloud_50 : decode cX11_cloud 50 = .ok (.aload_n 0, 1) := by decide +kernel
theorem dX11_cloud_51 : decode cX11_cloud 51 = .ok (.getfield 85, 3) := by decide +kernel
theorem dX11_cloud_54 : decode cX11_cloud 54 = .ok (.iload_n 1, 1) := by decide +kernel
theorem dX11_cloud_55 : decode cX11_cloud 55 = .ok (.invokevirtual 275, 3) := by decide +kernel
theorem dX11_cloud_58 : decode cX11_cloud 58 = .ok (.goto 4, 3) := by decide +kernel
theorem dX11_cloud_61 : decode cX11_cloud 61 = .ok (.iconst (-1), 1) := by decide +kernel
theorem dX11_cloud_62 : decode cX11_cloud 62 = .ok (.ireturn, 1) := by decide +kernel
theorem dX11_image_0 : decode cX11_image 0 = .ok (.aload_n 0, 1) := by decide +kernel
theorem dX11_image_1 : decode cX11_image 1 = .ok (.getfield 118, 3) := by decide +kernel
theorem dX11_image_4 : decode cX11_image 4 = .ok (.aload_n 0, 1) := by decide +kernel
theorem dX11_image_5 : decode cX11_image 5 = .ok (.getfield 89, 3) := by decide +kernel
theorem dX11_image_8 : decode cX11_image 8 = .ok (.arraylength, 1) := by decide +kernel
theorem dX11_image_9 : decode cX11_image 9 = .ok (.if_icmp .lt 5, 3) := by decide +kernel
theorem dX11_image_12 : decode cX11_image 12 = .ok (.iconst (-1), 1) := by decide +kernel
theorem dX11_image_13 : decode cX11_image 13 = .ok (.ireturn, 1) := by decide +kernel
theorem dX11_image_14 : decode cX11_image 14 = .ok (.aload_n 0, 1) := by decide +kernel
theorem dX11_image_15 : decode cX11_image 15 = .ok (.getfield 89, 3) := by decide +kernel
theorem dX11_image_18 : decode cX11_image 18 = .ok (.aload_n 0, 1) := by decide +kernel
theorem dX11_image_19 : decode cX11_image 19 = .ok (.getfield 118, 3) := by decide +kernel
theorem dX11_image_22 : decode cX11_image 22 = .ok (.aaload, 1) := by decide +kernel
theorem dX11_image_23 : decode cX11_image 23 = .ok (.aload_n 0, 1) := by decide +kernel
theorem dX11_image_24 : decode cX11_image 24 = .ok (.getfield 85, 3) := by decide +kernel
theorem dX11_image_27 : decode cX11_image 27 = .ok (.invokevirtual 278, 3) := by decide +kernel
theorem dX11_image_30 : decode cX11_image 30 = .ok (.aload_n 0, 1) := by decide +kernel
theorem dX11_image_31 : decode cX11_image 31 = .ok (.dup, 1) := by decide +kernel
theorem dX11_image_32 : decode cX11_image 32 = .ok (.getfield 118, 3) := by decide +kernel
theorem dX11_image_35 : decode cX11_image 35 = .ok (.iconst 1, 1) := by decide +kernel
theorem dX11_image_36 : decode cX11_image 36 = .ok (.iadd, 1) := by decide +kernel
theorem dX11_image_37 : decode cX11_image 37 = .ok (.putfield 118, 3) := by decide +kernel
theorem dX11_image_40 : decode cX11_image 40 = .ok (.aload_n 0, 1) := by decide +kernel
theorem dX11_image_41 : decode cX11_image 41 = .ok (.getfield 118, 3) := by decide +kernel
theorem dX11_image_44 : decode cX11_image 44 = .ok (.iconst 1, 1) := by decide +kernel
theorem dX11_image_45 : decode cX11_image 45 = .ok (.isub, 1) := by decide +kernel
theorem dX11_image_46 : decode cX11_image 46 = .ok (.ireturn, 1) := by decide +kernel
theorem dX11_back_0 : decode cX11_back 0 = .ok (.iload_n 1, 1) := by decide +kernel
theorem dX11_back_1 : decode cX11_back 1 = .ok (.ifCond .lt 20, 3) := by decide +kernel
theorem dX11_back_4 : decode cX11_back 4 = .ok (.iload_n 1, 1) := by decide +kernel
theorem dX11_back_5 : decode cX11_back 5 = .ok (.aload_n 0, 1) := by decide +kernel
theorem dX11_back_6 : decode cX11_back 6 = .ok (.getfield 118, 3) := by decide +kernel
theorem dX11_back_9 : decode cX11_back 9 = .ok (.if_icmp .ge 12, 3) := by decide +kernel
theorem dX11_back_12 : decode cX11_back 12 = .ok (.iload_n 1, 1) := by decide +kernel
theorem dX11_back_13 : decode cX11_back 13 = .ok (.aload_n 0, 1) := by decide +kernel
theorem dX11_back_14 : decode cX11_back 14 = .ok (.getfield 89, 3) := by decide +kernel
theorem dX11_back_17 : decode cX11_back 17 = .ok (.arraylength, 1) := by decide +kernel
theorem dX11_back_18 : decode cX11_back 18 = .ok (.if_icmp .lt 5, 3) := by decide +kernel
theorem dX11_back_21 : decode cX11_back 21 = .ok (.iconst 0, 1) := by decide +kernel
theorem dX11_back_22 : decode cX11_back 22 = .ok (.ireturn, 1) := by decide +kernel
theorem dX11_back_23 : decode cX11_back 23 = .ok (.aload_n 0, 1) := by decide +kernel
theorem dX11_back_24 : decode cX11_back 24 = .ok (.getfield 85, 3) := by decide +kernel
theorem dX11_back_27 : decode cX11_back 27 = .ok (.aload_n 0, 1) := by decide +kernel
theorem dX11_back_28 : decode cX11_back 28 = .ok (.getfield 89, 3) := by decide +kernel
theorem dX11_back_31 : decode cX11_back 31 = .ok (.iload_n 1, 1) := by decide +kernel
theorem dX11_back_32 : decode cX11_back 32 = .ok (.aaload, 1) := by decide +kernel
theorem dX11_back_33 : decode cX11_back 33 = .ok (.invokevirtual 278, 3) := by decide +kernel
theorem dX11_back_36 : decode cX11_back 36 = .ok (.iconst 1, 1) := by decide +kernel
theorem dX11_back_37 : decode cX11_back 37 = .ok (.ireturn, 1) := by decide +kernel
theorem dX11_count_0 : decode cX11_count 0 = .ok (.iload_n 1, 1) := by decide +kernel
theorem dX11_count_1 : decode cX11_count 1 = .ok (.tableswitch 66 0 4 #[35, 40, 48, 53, 58], 35) := by decide +kernel
theorem dX11_count_36 : decode cX11_count 36 = .ok (.aload_n 0, 1) := by decide +kernel
theorem dX11_count_37 : decode cX11_count 37 = .ok (.getfield 121, 3) := by decide +kernel
theorem dX11_count_40 : decode cX11_count 40 = .ok (.ireturn, 1) := by decide +kernel
theorem dX11_count_41 : decode cX11_count 41 = .ok (.aload_n 0, 1) := by decide +kernel
theorem dX11_count_42 : decode cX11_count 42 = .ok (.getfield 85, 3) := by decide +kernel
theorem dX11_count_45 : decode cX11_count 45 = .ok (.invokevirtual 128, 3) := by decide +kernel
theorem dX11_count_48 : decode cX11_count 48 = .ok (.ireturn, 1) := by decide +kernel
theorem dX11_count_49 : decode cX11_count 49 = .ok (.aload_n 0, 1) := by decide +kernel
theorem dX11_count_50 : decode cX11_count 50 = .ok (.getfield 97, 3) := by decide +kernel
theorem dX11_count_53 : decode cX11_count 53 = .ok (.ireturn, 1) := by decide +kernel
theorem dX11_count_54 : decode cX11_count 54 = .ok (.aload_n 0, 1) := by decide +kernel
theorem dX11_count_55 : decode cX11_count 55 = .ok (.getfield 118, 3) := by decide +kernel
theorem dX11_count_58 : decode cX11_count 58 = .ok (.ireturn, 1) := by decide +kernel
theorem dX11_count_59 : decode cX11_count 59 = .ok (.aload_n 0, 1) := by decide +kernel
theorem dX11_count_60 : decode cX11_count 60 = .ok (.getfield 85, 3) := by decide +kernel
theorem dX11_count_63 : decode cX11_count 63 = .ok (.invokevirtual 281, 3) := by decide +kernel
theorem dX11_count_66 : decode cX11_count 66 = .ok (.ireturn, 1) := by decide +kernel
theorem dX11_count_67 : decode cX11_count 67 = .ok (.iload_n 1, 1) := by decide +kernel
theorem dX11_count_68 : decode cX11_count 68 = .ok (.bipush 10, 2) := by decide +kernel
theorem dX11_count_70 : decode cX11_count 70 = .ok (.if_icmp .ge 7, 3) := by decide +kernel
theorem dX11_count_73 : decode cX11_count 73 = .ok (.iconst (-1), 1) := by decide +kernel
theorem dX11_count_74 : decode cX11_count 74 = .ok (.goto 14, 3) := by decide +kernel
theorem dX11_count_77 : decode cX11_count 77 = .ok (.aload_n 0, 1) := by decide +kernel
theorem dX11_count_78 : decode cX11_count 78 = .ok (.getfield 85, 3) := by decide +kernel
theorem dX11_count_81 : decode cX11_count 81 = .ok (.iload_n 1, 1) := by decide +kernel
theorem dX11_count_82 : decode cX11_count 82 = .ok (.bipush 10, 2) := by decide +kernel
theorem dX11_count_84 : decode cX11_count 84 = .ok (.isub, 1) := by decide +kernel
theorem dX11_count_85 : decode cX11_count 85 = .ok (.invokevirtual 246, 3) := by decide +kernel
theorem dX11_count_88 : decode cX11_count 88 = .ok (.ireturn, 1) := by decide +kernel
theorem dX11_putOnTape_0 : decode cX11_putOnTape 0 = .ok (.bipush 24, 2) := by decide +kernel
theorem dX11_putOnTape_2 : decode cX11_putOnTape 2 = .ok (.istore_n 2, 1) := by decide +kernel
theorem dX11_putOnTape_3 : decode cX11_putOnTape 3 = .ok (.iload_n 2, 1) := by decide +kernel
theorem dX11_putOnTape_4 : decode cX11_putOnTape 4 = .ok (.ifCond .lt 44, 3) := by decide +kernel
theorem dX11_putOnTape_7 : decode cX11_putOnTape 7 = .ok (.aload_n 0, 1) := by decide +kernel
theorem dX11_putOnTape_8 : decode cX11_putOnTape 8 = .ok (.getfield 97, 3) := by decide +kernel
theorem dX11_putOnTape_11 : decode cX11_putOnTape 11 = .ok (.aload_n 0, 1) := by decide +kernel
theorem dX11_putOnTape_12 : decode cX11_putOnTape 12 = .ok (.getfield 9, 3) := by decide +kernel
theorem dX11_putOnTape_15 : decode cX11_putOnTape 15 = .ok (.arraylength, 1) := by decide +kernel
theorem dX11_putOnTape_16 : decode cX11_putOnTape 16 = .ok (.if_icmp .ge 26, 3) := by decide +kernel
theorem dX11_putOnTape_19 : decode cX11_putOnTape 19 = .ok (.aload_n 0, 1) := by decide +kernel
theorem dX11_putOnTape_20 : decode cX11_putOnTape 20 = .ok (.getfield 9, 3) := by decide +kernel
theorem dX11_putOnTape_23 : decode cX11_putOnTape 23 = .ok (.aload_n 0, 1) := by decide +kernel
theorem dX11_putOnTape_24 : decode cX11_putOnTape 24 = .ok (.getfield 97, 3) := by decide +kernel
theorem dX11_putOnTape_27 : decode cX11_putOnTape 27 = .ok (.iload_n 1, 1) := by decide +kernel
theorem dX11_putOnTape_28 : decode cX11_putOnTape 28 = .ok (.iload_n 2, 1) := by decide +kernel
theorem dX11_putOnTape_29 : decode cX11_putOnTape 29 = .ok (.ishr, 1) := by decide +kernel
theorem dX11_putOnTape_30 : decode cX11_putOnTape 30 = .ok (.i2b, 1) := by decide +kernel
theorem dX11_putOnTape_31 : decode cX11_putOnTape 31 = .ok (.bastore, 1) := by decide +kernel
theorem dX11_putOnTape_32 : decode cX11_putOnTape 32 = .ok (.aload_n 0, 1) := by decide +kernel
theorem dX11_putOnTape_33 : decode cX11_putOnTape 33 = .ok (.dup, 1) := by decide +kernel
theorem dX11_putOnTape_34 : decode cX11_putOnTape 34 = .ok (.getfield 97, 3) := by decide +kernel
theorem dX11_putOnTape_37 : decode cX11_putOnTape 37 = .ok (.iconst 1, 1) := by decide +kernel
theorem dX11_putOnTape_38 : decode cX11_putOnTape 38 = .ok (.iadd, 1) := by decide +kernel
theorem dX11_putOnTape_39 : decode cX11_putOnTape 39 = .ok (.putfield 97, 3) := by decide +kernel
theorem dX11_putOnTape_42 : decode cX11_putOnTape 42 = .ok (.iinc 2 (-8), 3) := by decide +kernel
theorem dX11_putOnTape_45 : decode cX11_putOnTape 45 = .ok (.goto (-42), 3) := by decide +kernel
theorem dX11_putOnTape_48 : decode cX11_putOnTape 48 = .ok (.return_, 1) := by decide +kernel
theorem dX11_endText_0 : decode cX11_endText 0 = .ok (.aload_n 0, 1) := by decide +kernel
theorem dX11_endText_1 : decode cX11_endText 1 = .ok (.iconst 0, 1) := by decide +kernel
theorem dX11_endText_2 : decode cX11_endText 2 = .ok (.putfield 97, 3) := by decide +kernel
theorem dX11_endText_5 : decode cX11_endText 5 = .ok (.aload_n 0, 1) := by decide +kernel
theorem dX11_endText_6 : decode cX11_endText 6 = .ok (.iload_n 1, 1) := by decide +kernel
theorem dX11_endText_7 : decode cX11_endText 7 = .ok (.ifCond .eq 7, 3) := by decide +kernel
theorem dX11_endText_10 : decode cX11_endText 10 = .ok (.iconst (-1), 1) := by decide +kernel
theorem dX11_endText_11 : decode cX11_endText 11 = .ok (.goto 10, 3) := by decide +kernel
theorem dX11_endText_14 : decode cX11_endText 14 = .ok (.aload_n 0, 1) := by decide +kernel
theorem dX11_endText_15 : decode cX11_endText 15 = .ok (.getfield 35, 3) := by decide +kernel
theorem dX11_endText_18 : decode cX11_endText 18 = .ok (.invokevirtual 284, 3) := by decide +kernel
theorem dX11_endText_21 : decode cX11_endText 21 = .ok (.putfield 93, 3) := by decide +kernel
theorem dX11_endText_24 : decode cX11_endText 24 = .ok (.return_, 1) := by decide +kernel
theorem dX11_isMoment_0 : decode cX11_isMoment 0 = .ok (.iload_n 0, 1) := by decide +kernel
theorem dX11_isMoment_1 : decode cX11_isMoment 1 = .ok (.ifCond .lt 25, 3) := by decide +kernel
theorem dX11_isMoment_4 : decode cX11_isMoment 4 = .ok (.iload_n 0, 1) := by decide +kernel
theorem dX11_isMoment_5 : decode cX11_isMoment 5 = .ok (.sipush 3599, 3) := by decide +kernel
theorem dX11_isMoment_8 : decode cX11_isMoment 8 = .ok (.if_icmp .gt 18, 3) := by decide +kernel
theorem dX11_isMoment_11 : decode cX11_isMoment 11 = .ok (.iload_n 1, 1) := by decide +kernel
theorem dX11_isMoment_12 : decode cX11_isMoment 12 = .ok (.ifCond .lt 14, 3) := by decide +kernel
theorem dX11_isMoment_15 : decode cX11_isMoment 15 = .ok (.iload_n 1, 1) := by decide +kernel
theorem dX11_isMoment_16 : decode cX11_isMoment 16 = .ok (.sipush 719, 3) := by decide +kernel
theorem dX11_isMoment_19 : decode cX11_isMoment 19 = .ok (.if_icmp .gt 7, 3) := by decide +kernel
theorem dX11_isMoment_22 : decode cX11_isMoment 22 = .ok (.iconst 1, 1) := by decide +kernel
theorem dX11_isMoment_23 : decode cX11_isMoment 23 = .ok (.goto 4, 3) := by decide +kernel
theorem dX11_isMoment_26 : decode cX11_isMoment 26 = .ok (.iconst 0, 1) := by decide +kernel
theorem dX11_isMoment_27 : decode cX11_isMoment 27 = .ok (.ireturn, 1) := by decide +kernel
theorem dX11_couplesOf_0 : decode cX11_couplesOf 0 = .ok (.lconst 0, 1) := by decide +kernel
theorem dX11_couplesOf_1 : decode cX11_couplesOf 1 = .ok (.lstore 5, 2) := by decide +kernel
theorem dX11_couplesOf_3 : decode cX11_couplesOf 3 = .ok (.iconst 0, 1) := by decide +kernel
theorem dX11_couplesOf_4 : decode cX11_couplesOf 4 = .ok (.istore 7, 2) := by decide +kernel
theorem dX11_couplesOf_6 : decode cX11_couplesOf 6 = .ok (.iconst (-1), 1) := by decide +kernel
theorem dX11_couplesOf_7 : decode cX11_couplesOf 7 = .ok (.istore 8, 2) := by decide +kernel
theorem dX11_couplesOf_9 : decode cX11_couplesOf 9 = .ok (.iconst 0, 1) := by decide +kernel
theorem dX11_couplesOf_10 : decode cX11_couplesOf 10 = .ok (.istore 9, 2) := by decide +kernel
theorem dX11_couplesOf_12 : decode cX11_couplesOf 12 = .ok (.iload 9, 2) := by decide +kernel
theorem dX11_couplesOf_14 : decode cX11_couplesOf 14 = .ok (.bipush 12, 2) := by decide +kernel
theorem dX11_couplesOf_16 : decode cX11_couplesOf 16 = .ok (.if_icmp .ge 117, 3) := by decide +kernel
theorem dX11_couplesOf_19 : decode cX11_couplesOf 19 = .ok (.aload_n 0, 1) := by decide +kernel
theorem dX11_couplesOf_20 : decode cX11_couplesOf 20 = .ok (.iload 9, 2) := by decide +kernel
theorem dX11_couplesOf_22 : decode cX11_couplesOf 22 = .ok (.aload_n 1, 1) := by decide +kernel
theorem dX11_couplesOf_23 : decode cX11_couplesOf 23 = .ok (.iload_n 2, 1) := by decide +kernel
theorem dX11_couplesOf_24 : decode cX11_couplesOf 24 = .ok (.iload_n 3, 1) := by decide +kernel
theorem dX11_couplesOf_25 : decode cX11_couplesOf 25 = .ok (.invokevirtual 287, 3) := by decide +kernel
theorem dX11_couplesOf_28 : decode cX11_couplesOf 28 = .ok (.istore 10, 2) := by decide +kernel
theorem dX11_couplesOf_30 : decode cX11_couplesOf 30 = .ok (.iload 9, 2) := by decide +kernel
theorem dX11_couplesOf_32 : decode cX11_couplesOf 32 = .ok (.istore 11, 2) := by decide +kernel
theorem dX11_couplesOf_34 : decode cX11_couplesOf 34 = .ok (.iload 11, 2) := by decide +kernel
theorem dX11_couplesOf_36 : decode cX11_couplesOf 36 = .ok (.bipush 120, 2) := by decide +kernel
theorem dX11_couplesOf_38 : decode cX11_couplesOf 38 = .ok (.if_icmp .ge 89, 3) := by decide +kernel
theorem dX11_couplesOf_41 : decode cX11_couplesOf 41 = .ok (.iload 10, 2) := by decide +kernel
theorem dX11_couplesOf_43 : decode cX11_couplesOf 43 = .ok (.ifCond .le 84, 3) := by decide +kernel
theorem dX11_couplesOf_46 : decode cX11_couplesOf 46 = .ok (.aload_n 0, 1) := by decide +kernel
theorem dX11_couplesOf_47 : decode cX11_couplesOf 47 = .ok (.iload 11, 2) := by decide +kernel
theorem dX11_couplesOf_49 : decode cX11_couplesOf 49 = .ok (.invokevirtual 240, 3) := by decide +kernel
theorem dX11_couplesOf_52 : decode cX11_couplesOf 52 = .ok (.aload_n 1, 1) := by decide +kernel
theorem dX11_couplesOf_53 : decode cX11_couplesOf 53 = .ok (.iload 11, 2) := by decide +kernel
theorem dX11_couplesOf_55 : decode cX11_couplesOf 55 = .ok (.invokevirtual 240, 3) := by decide +kernel
theorem dX11_couplesOf_58 : decode cX11_couplesOf 58 = .ok (.iand, 1) := by decide +kernel
theorem dX11_couplesOf_59 : decode cX11_couplesOf 59 = .ok (.istore 12, 2) := by decide +kernel
theorem dX11_couplesOf_61 : decode cX11_couplesOf 61 = .ok (.iload 11, 2) := by decide +kernel
theorem dX11_couplesOf_63 : decode cX11_couplesOf 63 = .ok (.bipush 30, 2) := by decide +kernel
theorem dX11_couplesOf_65 : decode cX11_couplesOf 65 = .ok (.imul, 1) := by decide +kernel
theorem dX11_couplesOf_66 : decode cX11_couplesOf 66 = .ok (.iload 12, 2) := by decide +kernel
theorem dX11_couplesOf_68 : decode cX11_couplesOf 68 = .ok (.invokestatic 254, 3) := by decide +kernel
theorem dX11_couplesOf_71 : decode cX11_couplesOf 71 = .ok (.iadd, 1) := by decide +kernel
theorem dX11_couplesOf_72 : decode cX11_couplesOf 72 = .ok (.istore 13, 2) := by decide +kernel
theorem dX11_couplesOf_74 : decode cX11_couplesOf 74 = .ok (.iload 12, 2) := by decide +kernel
theorem dX11_couplesOf_76 : decode cX11_couplesOf 76 = .ok (.ifCond .eq 20, 3) := by decide +kernel
theorem dX11_couplesOf_79 : decode cX11_couplesOf 79 = .ok (.iload 8, 2) := by decide +kernel
theorem dX11_couplesOf_81 : decode cX11_couplesOf 81 = .ok (.iconst (-1), 1) := by decide +kernel
theorem dX11_couplesOf_82 : decode cX11_couplesOf 82 = .ok (.if_icmp .eq 10, 3) := by decide +kernel
theorem dX11_couplesOf_85 : decode cX11_couplesOf 85 = .ok (.iload 13, 2) := by decide +kernel
theorem dX11_couplesOf_87 : decode cX11_couplesOf 87 = .ok (.iload 8, 2) := by decide +kernel
theorem dX11_couplesOf_89 : decode cX11_couplesOf 89 = .ok (.if_icmp .ge 7, 3) := by decide +kernel
theorem dX11_couplesOf_92 : decode cX11_couplesOf 92 = .ok (.iload 13, 2) := by decide +kernel
theorem dX11_couplesOf_94 : decode cX11_couplesOf 94 = .ok (.istore 8, 2) := by decide +kernel
theorem dX11_couplesOf_96 : decode cX11_couplesOf 96 = .ok (.iload 7, 2) := by decide +kernel
theorem dX11_couplesOf_98 : decode cX11_couplesOf 98 = .ok (.iload 12, 2) := by decide +kernel
theorem dX11_couplesOf_100 : decode cX11_couplesOf 100 = .ok (.invokestatic 249, 3) := by decide +kernel
theorem dX11_couplesOf_103 : decode cX11_couplesOf 103 = .ok (.iadd, 1) := by decide +kernel
theorem dX11_couplesOf_104 : decode cX11_couplesOf 104 = .ok (.istore 7, 2) := by decide +kernel
theorem dX11_couplesOf_106 : decode cX11_couplesOf 106 = .ok (.lload 5, 2) := by decide +kernel
theorem dX11_couplesOf_108 : decode cX11_couplesOf 108 = .ok (.iload 10, 2) := by decide +kernel
theorem dX11_couplesOf_110 : decode cX11_couplesOf 110 = .ok (.i2l, 1) := by decide +kernel
theorem dX11_couplesOf_111 : decode cX11_couplesOf 111 = .ok (.iload 12, 2) := by decide +kernel
theorem dX11_couplesOf_113 : decode cX11_couplesOf 113 = .ok (.invokestatic 249, 3) := by decide +kernel
theorem dX11_couplesOf_116 : decode cX11_couplesOf 116 = .ok (.i2l, 1) := by decide +kernel
theorem dX11_couplesOf_117 : decode cX11_couplesOf 117 = .ok (.lmul, 1) := by decide +kernel
theorem dX11_couplesOf_118 : decode cX11_couplesOf 118 = .ok (.ladd, 1) := by decide +kernel
theorem dX11_couplesOf_119 : decode cX11_couplesOf 119 = .ok (.lstore 5, 2) := by decide +kernel
theorem dX11_couplesOf_121 : decode cX11_couplesOf 121 = .ok (.iinc 11 12, 3) := by decide +kernel
theorem dX11_couplesOf_124 : decode cX11_couplesOf 124 = .ok (.goto (-90), 3) := by decide +kernel
theorem dX11_couplesOf_127 : decode cX11_couplesOf 127 = .ok (.iinc 9 1, 3) := by decide +kernel
theorem dX11_couplesOf_130 : decode cX11_couplesOf 130 = .ok (.goto (-118), 3) := by decide +kernel
theorem dX11_couplesOf_133 : decode cX11_couplesOf 133 = .ok (.iload 4, 2) := by decide +kernel
theorem dX11_couplesOf_135 : decode cX11_couplesOf 135 = .ok (.ifCond .ne 6, 3) := by decide +kernel
theorem dX11_couplesOf_138 : decode cX11_couplesOf 138 = .ok (.lload 5, 2) := by decide +kernel
theorem dX11_couplesOf_140 : decode cX11_couplesOf 140 = .ok (.lreturn, 1) := by decide +kernel
theorem dX11_couplesOf_141 : decode cX11_couplesOf 141 = .ok (.iload 4, 2) := by decide +kernel
theorem dX11_couplesOf_143 : decode cX11_couplesOf 143 = .ok (.iconst 1, 1) := by decide +kernel
theorem dX11_couplesOf_144 : decode cX11_couplesOf 144 = .ok (.if_icmp .ne 9, 3) := by decide +kernel
theorem dX11_couplesOf_147 : decode cX11_couplesOf 147 = .ok (.iload 7, 2) := by decide +kernel
theorem dX11_couplesOf_149 : decode cX11_couplesOf 149 = .ok (.i2l, 1) := by decide +kernel
theorem dX11_couplesOf_150 : decode cX11_couplesOf 150 = .ok (.goto 6, 3) := by decide +kernel
theorem dX11_couplesOf_153 : decode cX11_couplesOf 153 = .ok (.iload 8, 2) := by decide +kernel
theorem dX11_couplesOf_155 : decode cX11_couplesOf 155 = .ok (.i2l, 1) := by decide +kernel
theorem dX11_couplesOf_156 : decode cX11_couplesOf 156 = .ok (.lreturn, 1) := by decide +kernel
theorem dX11_bitsOf_0 : decode cX11_bitsOf 0 = .ok (.iload_n 0, 1) := by decide +kernel
theorem dX11_bitsOf_1 : decode cX11_bitsOf 1 = .ok (.ifCond .ge 7, 3) := by decide +kernel
theorem dX11_bitsOf_4 : decode cX11_bitsOf 4 = .ok (.iconst 0, 1) := by decide +kernel
theorem dX11_bitsOf_5 : decode cX11_bitsOf 5 = .ok (.goto 4, 3) := by decide +kernel
theorem dX11_bitsOf_8 : decode cX11_bitsOf 8 = .ok (.iload_n 0, 1) := by decide +kernel
theorem dX11_bitsOf_9 : decode cX11_bitsOf 9 = .ok (.istore_n 2, 1) := by decide +kernel
theorem dX11_bitsOf_10 : decode cX11_bitsOf 10 = .ok (.iload_n 1, 1) := by decide +kernel
theorem dX11_bitsOf_11 : decode cX11_bitsOf 11 = .ok (.bipush 30, 2) := by decide +kernel
theorem dX11_bitsOf_13 : decode cX11_bitsOf 13 = .ok (.if_icmp .ge 7, 3) := by decide +kernel
theorem dX11_bitsOf_16 : decode cX11_bitsOf 16 = .ok (.iload_n 1, 1) := by decide +kernel
theorem dX11_bitsOf_17 : decode cX11_bitsOf 17 = .ok (.goto 5, 3) := by decide +kernel
theorem dX11_bitsOf_20 : decode cX11_bitsOf 20 = .ok (.bipush 29, 2) := by decide +kernel
theorem dX11_bitsOf_22 : decode cX11_bitsOf 22 = .ok (.istore_n 3, 1) := by decide +kernel
theorem dX11_bitsOf_23 : decode cX11_bitsOf 23 = .ok (.iload_n 2, 1) := by decide +kernel
theorem dX11_bitsOf_24 : decode cX11_bitsOf 24 = .ok (.iload_n 3, 1) := by decide +kernel
theorem dX11_bitsOf_25 : decode cX11_bitsOf 25 = .ok (.if_icmp .le 7, 3) := by decide +kernel
theorem dX11_bitsOf_28 : decode cX11_bitsOf 28 = .ok (.iconst 0, 1) := by decide +kernel
theorem dX11_bitsOf_29 : decode cX11_bitsOf 29 = .ok (.goto 14, 3) := by decide +kernel
theorem dX11_bitsOf_32 : decode cX11_bitsOf 32 = .ok (.iconst 1, 1) := by decide +kernel
theorem dX11_bitsOf_33 : decode cX11_bitsOf 33 = .ok (.iload_n 3, 1) := by decide +kernel
theorem dX11_bitsOf_34 : decode cX11_bitsOf 34 = .ok (.iload_n 2, 1) := by decide +kernel
theorem dX11_bitsOf_35 : decode cX11_bitsOf 35 = .ok (.isub, 1) := by decide +kernel
theorem dX11_bitsOf_36 : decode cX11_bitsOf 36 = .ok (.iconst 1, 1) := by decide +kernel
theorem dX11_bitsOf_37 : decode cX11_bitsOf 37 = .ok (.iadd, 1) := by decide +kernel
theorem dX11_bitsOf_38 : decode cX11_bitsOf 38 = .ok (.ishl, 1) := by decide +kernel
theorem dX11_bitsOf_39 : decode cX11_bitsOf 39 = .ok (.iconst 1, 1) := by decide +kernel
theorem dX11_bitsOf_40 : decode cX11_bitsOf 40 = .ok (.isub, 1) := by decide +kernel
theorem dX11_bitsOf_41 : decode cX11_bitsOf 41 = .ok (.iload_n 2, 1) := by decide +kernel
theorem dX11_bitsOf_42 : decode cX11_bitsOf 42 = .ok (.ishl, 1) := by decide +kernel
theorem dX11_bitsOf_43 : decode cX11_bitsOf 43 = .ok (.ireturn, 1) := by decide +kernel
theorem dX11_lowest_0 : decode cX11_lowest 0 = .ok (.iload_n 0, 1) := by decide +kernel
theorem dX11_lowest_1 : decode cX11_lowest 1 = .ok (.iload_n 0, 1) := by decide +kernel
theorem dX11_lowest_2 : decode cX11_lowest 2 = .ok (.ineg, 1) := by decide +kernel
theorem dX11_lowest_3 : decode cX11_lowest 3 = .ok (.iand, 1) := by decide +kernel
theorem dX11_lowest_4 : decode cX11_lowest 4 = .ok (.iconst 1, 1) := by decide +kernel
theorem dX11_lowest_5 : decode cX11_lowest 5 = .ok (.isub, 1) := by decide +kernel
theorem dX11_lowest_6 : decode cX11_lowest 6 = .ok (.invokestatic 249, 3) := by decide +kernel
theorem dX11_lowest_9 : decode cX11_lowest 9 = .ok (.ireturn, 1) := by decide +kernel
theorem dX11_divisorOf_0 : decode cX11_divisorOf 0 = .ok (.lload_n 0, 1) := by decide +kernel
theorem dX11_divisorOf_1 : decode cX11_divisorOf 1 = .ok (.invokestatic 291, 3) := by decide +kernel
theorem dX11_divisorOf_4 : decode cX11_divisorOf 4 = .ok (.lstore 4, 2) := by decide +kernel
theorem dX11_divisorOf_6 : decode cX11_divisorOf 6 = .ok (.lload_n 2, 1) := by decide +kernel
theorem dX11_divisorOf_7 : decode cX11_divisorOf 7 = .ok (.invokestatic 291, 3) := by decide +kernel
theorem dX11_divisorOf_10 : decode cX11_divisorOf 10 = .ok (.lstore 6, 2) := by decide +kernel
theorem dX11_divisorOf_12 : decode cX11_divisorOf 12 = .ok (.iconst 0, 1) := by decide +kernel
theorem dX11_divisorOf_13 : decode cX11_divisorOf 13 = .ok (.istore 8, 2) := by decide +kernel
theorem dX11_divisorOf_15 : decode cX11_divisorOf 15 = .ok (.iload 8, 2) := by decide +kernel
theorem dX11_divisorOf_17 : decode cX11_divisorOf 17 = .ok (.sipush 128, 3) := by decide +kernel
theorem dX11_divisorOf_20 : decode cX11_divisorOf 20 = .ok (.if_icmp .ge 31, 3) := by decide +kernel
theorem dX11_divisorOf_23 : decode cX11_divisorOf 23 = .ok (.lload 6, 2) := by decide +kernel
theorem dX11_divisorOf_25 : decode cX11_divisorOf 25 = .ok (.lconst 0, 1) := by decide +kernel
theorem dX11_divisorOf_26 : decode cX11_divisorOf 26 = .ok (.lcmp, 1) := by decide +kernel
theorem dX11_divisorOf_27 : decode cX11_divisorOf 27 = .ok (.ifCond .eq 24, 3) := by decide +kernel
theorem dX11_divisorOf_30 : decode cX11_divisorOf 30 = .ok (.lload 4, 2) := by decide +kernel
theorem dX11_divisorOf_32 : decode cX11_divisorOf 32 = .ok (.lload 6, 2) := by decide +kernel
theorem dX11_divisorOf_34 : decode cX11_divisorOf 34 = .ok (.lrem, 1) := by decide +kernel
theorem dX11_divisorOf_35 : decode cX11_divisorOf 35 = .ok (.lstore 9, 2) := by decide +kernel
theorem dX11_divisorOf_37 : decode cX11_divisorOf 37 = .ok (.lload 6, 2) := by decide +kernel
theorem dX11_divisorOf_39 : decode cX11_divisorOf 39 = .ok (.lstore 4, 2) := by decide +kernel
theorem dX11_divisorOf_41 : decode cX11_divisorOf 41 = .ok (.lload 9, 2) := by decide +kernel
theorem dX11_divisorOf_43 : decode cX11_divisorOf 43 = .ok (.lstore 6, 2) := by decide +kernel
theorem dX11_divisorOf_45 : decode cX11_divisorOf 45 = .ok (.iinc 8 1, 3) := by decide +kernel
theorem dX11_divisorOf_48 : decode cX11_divisorOf 48 = .ok (.goto (-33), 3) := by decide +kernel
theorem dX11_divisorOf_51 : decode cX11_divisorOf 51 = .ok (.lload 4, 2) := by decide +kernel
theorem dX11_divisorOf_53 : decode cX11_divisorOf 53 = .ok (.lreturn, 1) := by decide +kernel
theorem dX12_init_0 : decode cX12_init 0 = .ok (.aload_n 0, 1) := by decide +kernel
theorem dX12_init_1 : decode cX12_init 1 = .ok (.invokespecial 1, 3) := by decide +kernel
theorem dX12_init_4 : decode cX12_init 4 = .ok (.aload_n 0, 1) := by decide +kernel
theorem dX12_init_5 : decode cX12_init 5 = .ok (.iconst 2, 1) := by decide +kernel
theorem dX12_init_6 : decode cX12_init 6 = .ok (.newarray .int, 2) := by decide +kernel
theorem dX12_init_8 : decode cX12_init 8 = .ok (.putfield 7, 3) := by decide +kernel
theorem dX12_init_11 : decode cX12_init 11 = .ok (.aload_n 0, 1) := by decide +kernel
theorem dX12_init_12 : decode cX12_init 12 = .ok (.iconst 2, 1) := by decide +kernel
theorem dX12_init_13 : decode cX12_init 13 = .ok (.newarray .int, 2) := by decide +kernel
theorem dX12_init_15 : decode cX12_init 15 = .ok (.putfield 13, 3) := by decide +kernel
theorem dX12_init_18 : decode cX12_init 18 = .ok (.aload_n 0, 1) := by decide +kernel
theorem dX12_init_19 : decode cX12_init 19 = .ok (.iconst 2, 1) := by decide +kernel
theorem dX12_init_20 : decode cX12_init 20 = .ok (.newarray .int, 2) := by decide +kernel
theorem dX12_init_22 : decode cX12_init 22 = .ok (.putfield 16, 3) := by decide +kernel
theorem dX12_init_25 : decode cX12_init 25 = .ok (.aload_n 0, 1) := by decide +kernel
theorem dX12_init_26 : decode cX12_init 26 = .ok (.iconst 2, 1) := by decide +kernel
theorem dX12_init_27 : decode cX12_init 27 = .ok (.newarray .int, 2) := by decide +kernel
theorem dX12_init_29 : decode cX12_init 29 = .ok (.putfield 19, 3) := by decide +kernel
theorem dX12_init_32 : decode cX12_init 32 = .ok (.aload_n 0, 1) := by decide +kernel
theorem dX12_init_33 : decode cX12_init 33 = .ok (.iconst 2, 1) := by decide +kernel
theorem dX12_init_34 : decode cX12_init 34 = .ok (.newarray .int, 2) := by decide +kernel
theorem dX12_init_36 : decode cX12_init 36 = .ok (.putfield 22, 3) := by decide +kernel
theorem dX12_init_39 : decode cX12_init 39 = .ok (.aload_n 0, 1) := by decide +kernel
theorem dX12_init_40 : decode cX12_init 40 = .ok (.iconst 2, 1) := by decide +kernel
theorem dX12_init_41 : decode cX12_init 41 = .ok (.newarray .int, 2) := by decide +kernel
theorem dX12_init_43 : decode cX12_init 43 = .ok (.putfield 25, 3) := by decide +kernel
theorem dX12_init_46 : decode cX12_init 46 = .ok (.aload_n 0, 1) := by decide +kernel
theorem dX12_init_47 : decode cX12_init 47 = .ok (.bipush 24, 2) := by decide +kernel
theorem dX12_init_49 : decode cX12_init 49 = .ok (.newarray .long, 2) := by decide +kernel
theorem dX12_init_51 : decode cX12_init 51 = .ok (.putfield 28, 3) := by decide +kernel
theorem dX12_init_54 : decode cX12_init 54 = .ok (.aload_n 0, 1) := by decide +kernel
theorem dX12_init_55 : decode cX12_init 55 = .ok (.bipush 12, 2) := by decide +kernel
theorem dX12_init_57 : decode cX12_init 57 = .ok (.newarray .long, 2) := by decide +kernel
theorem dX12_init_59 : decode cX12_init 59 = .ok (.putfield 32, 3) := by decide +kernel
theorem dX12_init_62 : decode cX12_init 62 = .ok (.aload_n 0, 1) := by decide +kernel
theorem dX12_init_63 : decode cX12_init 63 = .ok (.bipush 20, 2) := by decide +kernel
theorem dX12_init_65 : decode cX12_init 65 = .ok (.newarray .long, 2) := by decide +kernel
theorem dX12_init_67 : decode cX12_init 67 = .ok (.putfield 35, 3) := by decide +kernel
theorem dX12_init_70 : decode cX12_init 70 = .ok (.aload_n 0, 1) := by decide +kernel
theorem dX12_init_71 : decode cX12_init 71 = .ok (.bipush 8, 2) := by decide +kernel
theorem dX12_init_73 : decode cX12_init 73 = .ok (.newarray .long, 2) := by decide +kernel
theorem dX12_init_75 : decode cX12_init 75 = .ok (.putfield 38, 3) := by decide +kernel
theorem dX12_init_78 : decode cX12_init 78 = .ok (.aload_n 0, 1) := by decide +kernel
theorem dX12_init_79 : decode cX12_init 79 = .ok (.bipush 24, 2) := by decide +kernel
theorem dX12_init_81 : decode cX12_init 81 = .ok (.newarray .int, 2) := by decide +kernel
theorem dX12_init_83 : decode cX12_init 83 = .ok (.putfield 41, 3) := by decide +kernel
theorem dX12_init_86 : decode cX12_init 86 = .ok (.aload_n 0, 1) := by decide +kernel
theorem dX12_init_87 : decode cX12_init 87 = .ok (.bipush 24, 2) := by decide +kernel
theorem dX12_init_89 : decode cX12_init 89 = .ok (.newarray .int, 2) := by decide +kernel
theorem dX12_init_91 : decode cX12_init 91 = .ok (.putfield 44, 3) := by decide +kernel
theorem dX12_init_94 : decode cX12_init 94 = .ok (.aload_n 0, 1) := by decide +kernel
theorem dX12_init_95 : decode cX12_init 95 = .ok (.bipush 24, 2) := by decide +kernel
theorem dX12_init_97 : decode cX12_init 97 = .ok (.newarray .int, 2) := by decide +kernel
theorem dX12_init_99 : decode cX12_init 99 = .ok (.putfield 47, 3) := by decide +kernel
theorem dX12_init_102 : decode cX12_init 102 = .ok (.aload_n 0, 1) := by decide +kernel
theorem dX12_init_103 : decode cX12_init 103 = .ok (.bipush 24, 2) := by decide +kernel
theorem dX12_init_105 : decode cX12_init 105 = .ok (.newarray .int, 2) := by decide +kernel
theorem dX12_init_107 : decode cX12_init 107 = .ok (.putfield 50, 3) := by decide +kernel
theorem dX12_init_110 : decode cX12_init 110 = .ok (.aload_n 0, 1) := by decide +kernel
theorem dX12_init_111 : decode cX12_init 111 = .ok (.bipush 12, 2) := by decide +kernel
theorem dX12_init_113 : decode cX12_init 113 = .ok (.newarray .int, 2) := by decide +kernel
theorem dX12_init_115 : decode cX12_init 115 = .ok (.putfield 53, 3) := by decide +kernel
theorem dX12_init_118 : decode cX12_init 118 = .ok (.aload_n 0, 1) := by decide +kernel
theorem dX12_init_119 : decode cX12_init 119 = .ok (.bipush 12, 2) := by decide +kernel
theorem dX12_init_121 : decode cX12_init 121 = .ok (.newarray .int, 2) := by decide +kernel
theorem dX12_init_123 : decode cX12_init 123 = .ok (.putfield 56, 3) := by decide +kernel
theorem dX12_init_126 : decode cX12_init 126 = .ok (.aload_n 0, 1) := by decide +kernel
theorem dX12_init_127 : decode cX12_init 127 = .ok (.bipush 20, 2) := by decide +kernel
theorem dX12_init_129 : decode cX12_init 129 = .ok (.newarray .int, 2) := by decide +kernel
theorem dX12_init_131 : decode cX12_init 131 = .ok (.putfield 59, 3) := by decide +kernel
theorem dX12_init_134 : decode cX12_init 134 = .ok (.aload_n 0, 1) := by decide +kernel
theorem dX12_init_135 : decode cX12_init 135 = .ok (.bipush 20, 2) := by decide +kernel
theorem dX12_init_137 : decode cX12_init 137 = .ok (.newarray .int, 2) := by decide +kernel
theorem dX12_init_139 : decode cX12_init 139 = .ok (.putfield 62, 3) := by decide +kernel
theorem dX12_init_142 : decode cX12_init 142 = .ok (.aload_n 0, 1) := by decide +kernel
theorem dX12_init_143 : decode cX12_init 143 = .ok (.bipush 20, 2) := by decide +kernel
theorem dX12_init_145 : decode cX12_init 145 = .ok (.newarray .int, 2) := by decide +kernel
theorem dX12_init_147 : decode cX12_init 147 = .ok (.putfield 65, 3) := by decide +kernel
theorem dX12_init_150 : decode cX12_init 150 = .ok (.aload_n 0, 1) := by decide +kernel
theorem dX12_init_151 : decode cX12_init 151 = .ok (.bipush 8, 2) := by decide +kernel
theorem dX12_init_153 : decode cX12_init 153 = .ok (.newarray .int, 2) := by decide +kernel
theorem dX12_init_155 : decode cX12_init 155 = .ok (.putfield 68, 3) := by decide +kernel
theorem dX12_init_158 : decode cX12_init 158 = .ok (.aload_n 0, 1) := by decide +kernel
theorem dX12_init_159 : decode cX12_init 159 = .ok (.bipush 8, 2) := by decide +kernel
theorem dX12_init_161 : decode cX12_init 161 = .ok (.newarray .int, 2) := by decide +kernel
theorem dX12_init_163 : decode cX12_init 163 = .ok (.putfield 71, 3) := by decide +kernel
theorem dX12_init_166 : decode cX12_init 166 = .ok (.aload_n 0, 1) := by decide +kernel
theorem dX12_init_167 : decode cX12_init 167 = .ok (.bipush 80, 2) := by decide +kernel
theorem dX12_init_169 : decode cX12_init 169 = .ok (.newarray .int, 2) := by decide +kernel
theorem dX12_init_171 : decode cX12_init 171 = .ok (.putfield 74, 3) := by decide +kernel
theorem dX12_init_174 : decode cX12_init 174 = .ok (.aload_n 0, 1) := by decide +kernel
theorem dX12_init_175 : decode cX12_init 175 = .ok (.bipush 80, 2) := by decide +kernel
theorem dX12_init_177 : decode cX12_init 177 = .ok (.newarray .int, 2) := by decide +kernel
theorem dX12_init_179 : decode cX12_init 179 = .ok (.putfield 77, 3) := by decide +kernel
theorem dX12_init_182 : decode cX12_init 182 = .ok (.aload_n 0, 1) := by decide +kernel
theorem dX12_init_183 : decode cX12_init 183 = .ok (.bipush 80, 2) := by decide +kernel
theorem dX12_init_185 : decode cX12_init 185 = .ok (.newarray .int, 2) := by decide +kernel
theorem dX12_init_187 : decode cX12_init 187 = .ok (.putfield 80, 3) := by decide +kernel
theorem dX12_init_190 : decode cX12_init 190 = .ok (.aload_n 0, 1) := by decide +kernel
theorem dX12_init_191 : decode cX12_init 191 = .ok (.bipush 80, 2) := by decide +kernel
theorem dX12_init_193 : decode cX12_init 193 = .ok (.newarray .int, 2) := by decide +kernel
theorem dX12_init_195 : decode cX12_init 195 = .ok (.putfield 83, 3) := by decide +kernel
theorem dX12_init_198 : decode cX12_init 198 = .ok (.aload_n 0, 1) := by decide +kernel
theorem dX12_init_199 : decode cX12_init 199 = .ok (.iconst 5, 1) := by decide +kernel
theorem dX12_init_200 : decode cX12_init 200 = .ok (.newarray .int, 2) := by decide +kernel
theorem dX12_init_202 : decode cX12_init 202 = .ok (.putfield 86, 3) := by decide +kernel
theorem dX12_init_205 : decode cX12_init 205 = .ok (.aload_n 0, 1) := by decide +kernel
theorem dX12_init_206 : decode cX12_init 206 = .ok (.bipush 40, 2) := by decide +kernel
theorem dX12_init_208 : decode cX12_init 208 = .ok (.newarray .int, 2) := by decide +kernel
theorem dX12_init_210 : decode cX12_init 210 = .ok (.putfield 89, 3) := by decide +kernel
theorem dX12_init_213 : decode cX12_init 213 = .ok (.aload_n 0, 1) := by decide +kernel
theorem dX12_init_214 : decode cX12_init 214 = .ok (.sipush 480, 3) := by decide +kernel
theorem dX12_init_217 : decode cX12_init 217 = .ok (.newarray .int, 2) := by decide +kernel
theorem dX12_init_219 : decode cX12_init 219 = .ok (.putfield 92, 3) := by decide +kernel
theorem dX12_init_222 : decode cX12_init 222 = .ok (.aload_n 0, 1) := by decide +kernel
theorem dX12_init_223 : decode cX12_init 223 = .ok (.sipush 480, 3) := by decide +kernel
theorem dX12_init_226 : decode cX12_init 226 = .ok (.newarray .int, 2) := by decide +kernel
theorem dX12_init_228 : decode cX12_init 228 = .ok (.putfield 95, 3) := by decide +kernel
theorem dX12_init_231 : decode cX12_init 231 = .ok (.aload_n 0, 1) := by decide +kernel
theorem dX12_init_232 : decode cX12_init 232 = .ok (.sipush 480, 3) := by decide +kernel
theorem dX12_init_235 : decode cX12_init 235 = .ok (.newarray .int, 2) := by decide +kernel
theorem dX12_init_237 : decode cX12_init 237 = .ok (.putfield 98, 3) := by decide +kernel
theorem dX12_init_240 : decode cX12_init 240 = .ok (.aload_n 0, 1) := by decide +kernel
theorem dX12_init_241 : decode cX12_init 241 = .ok (.sipush 480, 3) := by decide +kernel
theorem dX12_init_244 : decode cX12_init 244 = .ok (.newarray .int, 2) := by decide +kernel
theorem dX12_init_246 : decode cX12_init 246 = .ok (.putfield 101, 3) := by decide +kernel
theorem dX12_init_249 : decode cX12_init 249 = .ok (.aload_n 0, 1) := by decide +kernel
theorem dX12_init_250 : decode cX12_init 250 = .ok (.sipush 480, 3) := by decide +kernel
theorem dX12_init_253 : decode cX12_init 253 = .ok (.newarray .int, 2) := by decide +kernel
theorem dX12_init_255 : decode cX12_init 255 = .ok (.putfield 104, 3) := by decide +kernel
theorem dX12_init_258 : decode cX12_init 258 = .ok (.aload_n 0, 1) := by decide +kernel
theorem dX12_init_259 : decode cX12_init 259 = .ok (.bipush 60, 2) := by decide +kernel
theorem dX12_init_261 : decode cX12_init 261 = .ok (.newarray .int, 2) := by decide +kernel
theorem dX12_init_263 : decode cX12_init 263 = .ok (.putfield 107, 3) := by decide +kernel
theorem dX12_init_266 : decode cX12_init 266 = .ok (.aload_n 0, 1) := by decide +kernel
theorem dX12_init_267 : decode cX12_init 267 = .ok (.sipush 1200, 3) := by decide +kernel
theorem dX12_init_270 : decode cX12_init 270 = .ok (.newarray .byte, 2) := by decide +kernel
theorem dX12_init_272 : decode cX12_init 272 = .ok (.putfield 110, 3) := by decide +kernel
theorem dX12_init_275 : decode cX12_init 275 = .ok (.aload_n 0, 1) := by decide +kernel
theorem dX12_init_276 : decode cX12_init 276 = .ok (.iconst (-1), 1) := by decide +kernel
theorem dX12_init_277 : decode cX12_init 277 = .ok (.putfield 114, 3) := by decide +kernel
theorem dX12_init_280 : decode cX12_init 280 = .ok (.aload_n 0, 1) := by decide +kernel
theorem dX12_init_281 : decode cX12_init 281 = .ok (.iconst (-1), 1) := by decide +kernel
theorem dX12_init_282 : decode cX12_init 282 = .ok (.putfield 118, 3) := by decide +kernel
theorem dX12_init_285 : decode cX12_init 285 = .ok (.aload_n 0, 1) := by decide +kernel
theorem dX12_init_286 : decode cX12_init 286 = .ok (.sipush 3600, 3) := by decide +kernel
theorem dX12_init_289 : decode cX12_init 289 = .ok (.newarray .boolean, 2) := by decide +kernel
theorem dX12_init_291 : decode cX12_init 291 = .ok (.putfield 121, 3) := by decide +kernel
theorem dX12_init_294 : decode cX12_init 294 = .ok (.aload_n 0, 1) := by decide +kernel
theorem dX12_init_295 : decode cX12_init 295 = .ok (.sipush 8640, 3) := by decide +kernel
theorem dX12_init_298 : decode cX12_init 298 = .ok (.newarray .boolean, 2) := by decide +kernel
theorem dX12_init_300 : decode cX12_init 300 = .ok (.putfield 125, 3) := by decide +kernel
theorem dX12_init_303 : decode cX12_init 303 = .ok (.aload_n 0, 1) := by decide +kernel
theorem dX12_init_304 : decode cX12_init 304 = .ok (.bipush 12, 2) := by decide +kernel
theorem dX12_init_306 : decode cX12_init 306 = .ok (.newarray .int, 2) := by decide +kernel
theorem dX12_init_308 : decode cX12_init 308 = .ok (.putfield 128, 3) := by decide +kernel
theorem dX12_init_311 : decode cX12_init 311 = .ok (.aload_n 0, 1) := by decide +kernel
theorem dX12_init_312 : decode cX12_init 312 = .ok (.bipush 12, 2) := by decide +kernel
theorem dX12_init_314 : decode cX12_init 314 = .ok (.newarray .int, 2) := by decide +kernel
theorem dX12_init_316 : decode cX12_init 316 = .ok (.putfield 131, 3) := by decide +kernel
theorem dX12_init_319 : decode cX12_init 319 = .ok (.aload_n 0, 1) := by decide +kernel
theorem dX12_init_320 : decode cX12_init 320 = .ok (.sipush 4096, 3) := by decide +kernel
theorem dX12_init_323 : decode cX12_init 323 = .ok (.newarray .boolean, 2) := by decide +kernel
theorem dX12_init_325 : decode cX12_init 325 = .ok (.putfield 134, 3) := by decide +kernel
theorem dX12_init_328 : decode cX12_init 328 = .ok (.aload_n 0, 1) := by decide +kernel
theorem dX12_init_329 : decode cX12_init 329 = .ok (.sipush 4096, 3) := by decide +kernel
theorem dX12_init_332 : decode cX12_init 332 = .ok (.newarray .boolean, 2) := by decide +kernel
theorem dX12_init_334 : decode cX12_init 334 = .ok (.putfield 137, 3) := by decide +kernel
theorem dX12_init_337 : decode cX12_init 337 = .ok (.aload_n 0, 1) := by decide +kernel
theorem dX12_init_338 : decode cX12_init 338 = .ok (.sipush 4096, 3) := by decide +kernel
theorem dX12_init_341 : decode cX12_init 341 = .ok (.newarray .boolean, 2) := by decide +kernel
theorem dX12_init_343 : decode cX12_init 343 = .ok (.putfield 140, 3) := by decide +kernel
theorem dX12_init_346 : decode cX12_init 346 = .ok (.aload_n 0, 1) := by decide +kernel
theorem dX12_init_347 : decode cX12_init 347 = .ok (.sipush 3600, 3) := by decide +kernel
theorem dX12_init_350 : decode cX12_init 350 = .ok (.newarray .boolean, 2) := by decide +kernel
theorem dX12_init_352 : decode cX12_init 352 = .ok (.putfield 143, 3) := by decide +kernel
theorem dX12_init_355 : decode cX12_init 355 = .ok (.aload_n 0, 1) := by decide +kernel
theorem dX12_init_356 : decode cX12_init 356 = .ok (.sipush 8640, 3) := by decide +kernel
theorem dX12_init_359 : decode cX12_init 359 = .ok (.newarray .boolean, 2) := by decide +kernel
theorem dX12_init_361 : decode cX12_init 361 = .ok (.putfield 146, 3) := by decide +kernel
theorem dX12_init_364 : decode cX12_init 364 = .ok (.aload_n 0, 1) := by decide +kernel
theorem dX12_init_365 : decode cX12_init 365 = .ok (.bipush 12, 2) := by decide +kernel
theorem dX12_init_367 : decode cX12_init 367 = .ok (.newarray .long, 2) := by decide +kernel
theorem dX12_init_369 : decode cX12_init 369 = .ok (.putfield 149, 3) := by decide +kernel
theorem dX12_init_372 : decode cX12_init 372 = .ok (.aload_n 0, 1) := by decide +kernel
theorem dX12_init_373 : decode cX12_init 373 = .ok (.sipush 3600, 3) := by decide +kernel
theorem dX12_init_376 : decode cX12_init 376 = .ok (.newarray .int, 2) := by decide +kernel
theorem dX12_init_378 : decode cX12_init 378 = .ok (.putfield 152, 3) := by decide +kernel
theorem dX12_init_381 : decode cX12_init 381 = .ok (.aload_n 0, 1) := by decide +kernel
theorem dX12_init_382 : decode cX12_init 382 = .ok (.sipush 8640, 3) := by decide +kernel
theorem dX12_init_385 : decode cX12_init 385 = .ok (.newarray .int, 2) := by decide +kernel
theorem dX12_init_387 : decode cX12_init 387 = .ok (.putfield 155, 3) := by decide +kernel
theorem dX12_init_390 : decode cX12_init 390 = .ok (.aload_n 0, 1) := by decide +kernel
theorem dX12_init_391 : decode cX12_init 391 = .ok (.sipush 256, 3) := by decide +kernel
theorem dX12_init_394 : decode cX12_init 394 = .ok (.newarray .boolean, 2) := by decide +kernel
theorem dX12_init_396 : decode cX12_init 396 = .ok (.putfield 158, 3) := by decide +kernel
theorem dX12_init_399 : decode cX12_init 399 = .ok (.iconst 0, 1) := by decide +kernel
theorem dX12_init_400 : decode cX12_init 400 = .ok (.istore_n 1, 1) := by decide +kernel
theorem dX12_init_401 : decode cX12_init 401 = .ok (.iload_n 1, 1) := by decide +kernel
theorem dX12_init_402 : decode cX12_init 402 = .ok (.bipush 12, 2) := by decide +kernel
theorem dX12_init_404 : decode cX12_init 404 = .ok (.if_icmp .ge 16, 3) := by decide +kernel
theorem dX12_init_407 : decode cX12_init 407 = .ok (.aload_n 0, 1) := by decide +kernel
theorem dX12_init_408 : decode cX12_init 408 = .ok (.getfield 107, 3) := by decide +kernel
theorem dX12_init_411 : decode cX12_init 411 = .ok (.iload_n 1, 1) := by decide +kernel
theorem dX12_init_412 : decode cX12_init 412 = .ok (.iconst 1, 1) := by decide +kernel
theorem dX12_init_413 : decode cX12_init 413 = .ok (.iastore, 1) := by decide +kernel
theorem dX12_init_414 : decode cX12_init 414 = .ok (.iinc 1 1, 3) := by decide +kernel
theorem dX12_init_417 : decode cX12_init 417 = .ok (.goto (-16), 3) := by decide +kernel
theorem dX12_init_420 : decode cX12_init 420 = .ok (.return_, 1) := by decide +kernel
theorem dX12_within_0 : decode cX12_within 0 = .ok (.iload_n 0, 1) := by decide +kernel
theorem dX12_within_1 : decode cX12_within 1 = .ok (.iload_n 1, 1) := by decide +kernel
theorem dX12_within_2 : decode cX12_within 2 = .ok (.if_icmp .lt 12, 3) := by decide +kernel
theorem dX12_within_5 : decode cX12_within 5 = .ok (.iload_n 0, 1) := by decide +kernel
theorem dX12_within_6 : decode cX12_within 6 = .ok (.iload_n 2, 1) := by decide +kernel
theorem dX12_within_7 : decode cX12_within 7 = .ok (.if_icmp .gt 7, 3) := by decide +kernel
theorem dX12_within_10 : decode cX12_within 10 = .ok (.iconst 1, 1) := by decide +kernel
theorem dX12_within_11 : decode cX12_within 11 = .ok (.goto 4, 3) := by decide +kernel
theorem dX12_within_14 : decode cX12_within 14 = .ok (.iconst 0, 1) := by decide +kernel
theorem dX12_within_15 : decode cX12_within 15 = .ok (.ireturn, 1) := by decide +kernel
theorem dX12_feed_0 : decode cX12_feed 0 = .ok (.aload_n 0, 1) := by decide +kernel
theorem dX12_feed_1 : decode cX12_feed 1 = .ok (.getfield 161, 3) := by decide +kernel
theorem dX12_feed_4 : decode cX12_feed 4 = .ok (.bipush 20, 2) := by decide +kernel
theorem dX12_feed_6 : decode cX12_feed 6 = .ok (.iadd, 1) := by decide +kernel
theorem dX12_feed_7 : decode cX12_feed 7 = .ok (.sipush 1200, 3) := by decide +kernel
theorem dX12_feed_10 : decode cX12_feed 10 = .ok (.if_icmp .le 5, 3) := by decide +kernel
theorem dX12_feed_13 : decode cX12_feed 13 = .ok (.iconst (-1), 1) := by decide +kernel
theorem dX12_feed_14 : decode cX12_feed 14 = .ok (.ireturn, 1) := by decide +kernel
theorem dX12_feed_15 : decode cX12_feed 15 = .ok (.iconst 0, 1) := by decide +kernel
theorem dX12_feed_16 : decode cX12_feed 16 = .ok (.istore 6, 2) := by decide +kernel
theorem dX12_feed_18 : decode cX12_feed 18 = .ok (.iload 6, 2) := by decide +kernel
theorem dX12_feed_20 : decode cX12_feed 20 = .ok (.bipush 20, 2) := by decide +kernel
theorem dX12_feed_22 : decode cX12_feed 22 = .ok (.if_icmp .ge 90, 3) := by decide +kernel
theorem dX12_feed_25 : decode cX12_feed 25 = .ok (.iload 6, 2) := by decide +kernel
theorem dX12_feed_27 : decode cX12_feed 27 = .ok (.iconst 4, 1) := by decide +kernel
theorem dX12_feed_28 : decode cX12_feed 28 = .ok (.if_icmp .ge 7, 3) := by decide +kernel
theorem dX12_feed_31 : decode cX12_feed 31 = .ok (.iload_n 1, 1) := by decide +kernel
theorem dX12_feed_32 : decode cX12_feed 32 = .ok (.goto 39, 3) := by decide +kernel
theorem dX12_feed_35 : decode cX12_feed 35 = .ok (.iload 6, 2) := by decide +kernel
theorem dX12_feed_37 : decode cX12_feed 37 = .ok (.bipush 8, 2) := by decide +kernel
theorem dX12_feed_39 : decode cX12_feed 39 = .ok (.if_icmp .ge 7, 3) := by decide +kernel
theorem dX12_feed_42 : decode cX12_feed 42 = .ok (.iload_n 2, 1) := by decide +kernel
theorem dX12_feed_43 : decode cX12_feed 43 = .ok (.goto 28, 3) := by decide +kernel
theorem dX12_feed_46 : decode cX12_feed 46 = .ok (.iload 6, 2) := by decide +kernel
theorem dX12_feed_48 : decode cX12_feed 48 = .ok (.bipush 12, 2) := by decide +kernel
theorem dX12_feed_50 : decode cX12_feed 50 = .ok (.if_icmp .ge 7, 3) := by decide +kernel
theorem dX12_feed_53 : decode cX12_feed 53 = .ok (.iload_n 3, 1) := by decide +kernel
theorem dX12_feed_54 : decode cX12_feed 54 = .ok (.goto 17, 3) := by decide +kernel
theorem dX12_feed_57 : decode cX12_feed 57 = .ok (.iload 6, 2) := by decide +kernel
theorem dX12_feed_59 : decode cX12_feed 59 = .ok (.bipush 16, 2) := by decide +kernel
theorem dX12_feed_61 : decode cX12_feed 61 = .ok (.if_icmp .ge 8, 3) := by decide +kernel
theorem dX12_feed_64 : decode cX12_feed 64 = .ok (.iload 4, 2) := by decide +kernel
theorem dX12_feed_66 : decode cX12_feed 66 = .ok (.goto 5, 3) := by decide +kernel
theorem dX12_feed_69 : decode cX12_feed 69 = .ok (.iload 5, 2) := by decide +kernel
theorem dX12_feed_71 : decode cX12_feed 71 = .ok (.istore 7, 2) := by decide +kernel
theorem dX12_feed_73 : decode cX12_feed 73 = .ok (.aload_n 0, 1) := by decide +kernel
theorem dX12_feed_74 : decode cX12_feed 74 = .ok (.getfield 110, 3) := by decide +kernel
theorem dX12_feed_77 : decode cX12_feed 77 = .ok (.aload_n 0, 1) := by decide +kernel
theorem dX12_feed_78 : decode cX12_feed 78 = .ok (.getfield 161, 3) := by decide +kernel
theorem dX12_feed_81 : decode cX12_feed 81 = .ok (.iload 7, 2) := by decide +kernel
theorem dX12_feed_83 : decode cX12_feed 83 = .ok (.bipush 24, 2) := by decide +kernel
theorem dX12_feed_85 : decode cX12_feed 85 = .ok (.bipush 8, 2) := by decide +kernel
theorem dX12_feed_87 : decode cX12_feed 87 = .ok (.iload 6, 2) := by decide +kernel
theorem dX12_feed_89 : decode cX12_feed 89 = .ok (.iconst 4, 1) := by decide +kernel
theorem dX12_feed_90 : decode cX12_feed 90 = .ok (.irem, 1) := by decide +kernel
theorem dX12_feed_91 : decode cX12_feed 91 = .ok (.imul, 1) := by decide +kernel
theorem dX12_feed_92 : decode cX12_feed 92 = .ok (.isub, 1) := by decide +kernel
theorem dX12_feed_93 : decode cX12_feed 93 = .ok (.ishr, 1) := by decide +kernel
theorem dX12_feed_94 : decode cX12_feed 94 = .ok (.i2b, 1) := by decide +kernel
theorem dX12_feed_95 : decode cX12_feed 95 = .ok (.bastore, 1) := by decide +kernel
theorem dX12_feed_96 : decode cX12_feed 96 = .ok (.aload_n 0, 1) := by decide +kernel
theorem dX12_feed_97 : decode cX12_feed 97 = .ok (.dup, 1) := by decide +kernel
theorem dX12_feed_98 : decode cX12_feed 98 = .ok (.getfield 161, 3) := by decide +kernel
theorem dX12_feed_101 : decode cX12_feed 101 = .ok (.iconst 1, 1) := by decide +kernel
theorem dX12_feed_102 : decode cX12_feed 102 = .ok (.iadd, 1) := by decide +kernel
theorem dX12_feed_103 : decode cX12_feed 103 = .ok (.putfield 161, 3) := by decide +kernel
theorem dX12_feed_106 : decode cX12_feed 106 = .ok (.iinc 6 1, 3) := by decide +kernel
theorem dX12_feed_109 : decode cX12_feed 109 = .ok (.goto (-91), 3) := by decide +kernel
theorem dX12_feed_112 : decode cX12_feed 112 = .ok (.aload_n 0, 1) := by decide +kernel
theorem dX12_feed_113 : decode cX12_feed 113 = .ok (.getfield 161, 3) := by decide +kernel
theorem dX12_feed_116 : decode cX12_feed 116 = .ok (.ireturn, 1) := by decide +kernel
theorem dX12_here_0 : decode cX12_here 0 = .ok (.aload_n 0, 1) := by decide +kernel
theorem dX12_here_1 : decode cX12_here 1 = .ok (.getfield 164, 3) := by decide +kernel
theorem dX12_here_4 : decode cX12_here 4 = .ok (.aload_n 0, 1) := by decide +kernel
theorem dX12_here_5 : decode cX12_here 5 = .ok (.getfield 167, 3) := by decide +kernel
theorem dX12_here_8 : decode cX12_here 8 = .ok (.if_icmp .ge 19, 3) := by decide +kernel
theorem dX12_here_11 : decode cX12_here 11 = .ok (.aload_n 0, 1) := by decide +kernel
theorem dX12_here_12 : decode cX12_here 12 = .ok (.getfield 110, 3) := by decide +kernel
theorem dX12_here_15 : decode cX12_here 15 = .ok (.aload_n 0, 1) := by decide +kernel
theorem dX12_here_16 : decode cX12_here 16 = .ok (.getfield 164, 3) := by decide +kernel
theorem dX12_here_19 : decode cX12_here 19 = .ok (.baload, 1) := by decide +kernel
theorem dX12_here_20 : decode cX12_here 20 = .ok (.sipush 255, 3) := by decide +kernel
theorem dX12_here_23 : decode cX12_here 23 = .ok (.iand, 1) := by decide +kernel
theorem dX12_here_24 : decode cX12_here 24 = .ok (.goto 4, 3) := by decide +kernel
theorem dX12_here_27 : decode cX12_here 27 = .ok (.iconst (-1), 1) := by decide +kernel
theorem dX12_here_28 : decode cX12_here 28 = .ok (.ireturn, 1) := by decide +kernel
theorem dX12_next_0 : decode cX12_next 0 = .ok (.aload_n 0, 1) := by decide +kernel
theorem dX12_next_1 : decode cX12_next 1 = .ok (.invokevirtual 170, 3) := by decide +kernel
theorem dX12_next_4 : decode cX12_next 4 = .ok (.bipush 32, 2) := by decide +kernel
theorem dX12_next_6 : decode cX12_next 6 = .ok (.if_icmp .eq 12, 3) := by decide +kernel
theorem dX12_next_9 : decode cX12_next 9 = .ok (.aload_n 0, 1) := by decide +kernel
theorem dX12_next_10 : decode cX12_next 10 = .ok (.invokevirtual 170, 3) := by decide +kernel
theorem dX12_next_13 : decode cX12_next 13 = .ok (.bipush 10, 2) := by decide +kernel
theorem dX12_next_15 : decode cX12_next 15 = .ok (.if_icmp .ne 16, 3) := by decide +kernel
theorem dX12_next_18 : decode cX12_next 18 = .ok (.aload_n 0, 1) := by decide +kernel
theorem dX12_next_19 : decode cX12_next 19 = .ok (.dup, 1) := by decide +kernel
theorem dX12_next_20 : decode cX12_next 20 = .ok (.getfield 164, 3) := by decide +kernel
theorem dX12_next_23 : decode cX12_next 23 = .ok (.iconst 1, 1) := by decide +kernel
theorem dX12_next_24 : decode cX12_next 24 = .ok (.iadd, 1) := by decide +kernel
theorem dX12_next_25 : decode cX12_next 25 = .ok (.putfield 164, 3) := by decide +kernel
theorem dX12_next_28 : decode cX12_next 28 = .ok (.goto (-28), 3) := by decide +kernel
theorem dX12_next_31 : decode cX12_next 31 = .ok (.aload_n 0, 1) := by decide +kernel
theorem dX12_next_32 : decode cX12_next 32 = .ok (.aload_n 0, 1) := by decide +kernel
theorem dX12_next_33 : decode cX12_next 33 = .ok (.getfield 164, 3) := by decide +kernel
theorem dX12_next_36 : decode cX12_next 36 = .ok (.putfield 174, 3) := by decide +kernel
theorem dX12_next_39 : decode cX12_next 39 = .ok (.aload_n 0, 1) := by decide +kernel
theorem dX12_next_40 : decode cX12_next 40 = .ok (.invokevirtual 170, 3) := by decide +kernel
theorem dX12_next_43 : decode cX12_next 43 = .ok (.istore_n 1, 1) := by decide +kernel
theorem dX12_next_44 : decode cX12_next 44 = .ok (.aload_n 0, 1) := by decide +kernel
theorem dX12_next_45 : decode cX12_next 45 = .ok (.ldc2_w 177, 3) := by decide +kernel
theorem dX12_next_48 : decode cX12_next 48 = .ok (.putfield 179, 3) := by decide +kernel
theorem dX12_next_51 : decode cX12_next 51 = .ok (.aload_n 0, 1) := by decide +kernel
theorem dX12_next_52 : decode cX12_next 52 = .ok (.iconst 0, 1) := by decide +kernel
theorem dX12_next_53 : decode cX12_next 53 = .ok (.putfield 183, 3) := by decide +kernel
theorem dX12_next_56 : decode cX12_next 56 = .ok (.iload_n 1, 1) := by decide +kernel
theorem dX12_next_57 : decode cX12_next 57 = .ok (.ifCond .ge 11, 3) := by decide +kernel
theorem dX12_next_60 : decode cX12_next 60 = .ok (.aload_n 0, 1) := by decide +kernel
theorem dX12_next_61 : decode cX12_next 61 = .ok (.iconst 0, 1) := by decide +kernel
theorem dX12_next_62 : decode cX12_next 62 = .ok (.putfield 186, 3) := by decide +kernel
theorem dX12_next_65 : decode cX12_next 65 = .ok (.goto 209, 3) := by decide +kernel
theorem dX12_next_68 : decode cX12_next 68 = .ok (.iload_n 1, 1) := by decide +kernel
theorem dX12_next_69 : decode cX12_next 69 = .ok (.bipush 97, 2) := by decide +kernel
theorem dX12_next_71 : decode cX12_next 71 = .ok (.bipush 122, 2) := by decide +kernel
theorem dX12_next_73 : decode cX12_next 73 = .ok (.invokestatic 189, 3) := by decide +kernel
theorem dX12_next_76 : decode cX12_next 76 = .ok (.ifCond .eq 81, 3) := by decide +kernel
theorem dX12_next_79 : decode cX12_next 79 = .ok (.aload_n 0, 1) := by decide +kernel
theorem dX12_next_80 : decode cX12_next 80 = .ok (.iconst 1, 1) := by decide +kernel
theorem dX12_next_81 : decode cX12_next 81 = .ok (.putfield 186, 3) := by decide +kernel
theorem dX12_next_84 : decode cX12_next 84 = .ok (.aload_n 0, 1) := by decide +kernel
theorem dX12_next_85 : decode cX12_next 85 = .ok (.lconst 0, 1) := by decide +kernel
theorem dX12_next_86 : decode cX12_next 86 = .ok (.putfield 179, 3) := by decide +kernel
theorem dX12_next_89 : decode cX12_next 89 = .ok (.aload_n 0, 1) := by decide +kernel
theorem dX12_next_90 : decode cX12_next 90 = .ok (.invokevirtual 170, 3) := by decide +kernel
theorem dX12_next_93 : decode cX12_next 93 = .ok (.bipush 97, 2) := by decide +kernel
theorem dX12_next_95 : decode cX12_next 95 = .ok (.bipush 122, 2) := by decide +kernel
theorem dX12_next_97 : decode cX12_next 97 = .ok (.invokestatic 189, 3) := by decide +kernel
theorem dX12_next_100 : decode cX12_next 100 = .ok (.ifCond .eq 174, 3) := by decide +kernel
theorem dX12_next_103 : decode cX12_next 103 = .ok (.aload_n 0, 1) := by decide +kernel
theorem dX12_next_104 : decode cX12_next 104 = .ok (.aload_n 0, 1) := by decide +kernel
theorem dX12_next_105 : decode cX12_next 105 = .ok (.getfield 164, 3) := by decide +kernel
theorem dX12_next_108 : decode cX12_next 108 = .ok (.aload_n 0, 1) := by decide +kernel
theorem dX12_next_109 : decode cX12_next 109 = .ok (.getfield 174, 3) := by decide +kernel
theorem dX12_next_112 : decode cX12_next 112 = .ok (.isub, 1) := by decide +kernel
theorem dX12_next_113 : decode cX12_next 113 = .ok (.bipush 8, 2) := by decide +kernel
theorem dX12_next_115 : decode cX12_next 115 = .ok (.if_icmp .ge 23, 3) := by decide +kernel
theorem dX12_next_118 : decode cX12_next 118 = .ok (.aload_n 0, 1) := by decide +kernel
theorem dX12_next_119 : decode cX12_next 119 = .ok (.getfield 179, 3) := by decide +kernel
theorem dX12_next_122 : decode cX12_next 122 = .ok (.ldc2_w 193, 3) := by decide +kernel
theorem dX12_next_125 : decode cX12_next 125 = .ok (.lmul, 1) := by decide +kernel
theorem dX12_next_126 : decode cX12_next 126 = .ok (.aload_n 0, 1) := by decide +kernel
theorem dX12_next_127 : decode cX12_next 127 = .ok (.invokevirtual 170, 3) := by decide +kernel
theorem dX12_next_130 : decode cX12_next 130 = .ok (.bipush 96, 2) := by decide +kernel
theorem dX12_next_132 : decode cX12_next 132 = .ok (.isub, 1) := by decide +kernel
theorem dX12_next_133 : decode cX12_next 133 = .ok (.i2l, 1) := by decide +kernel
theorem dX12_next_134 : decode cX12_next 134 = .ok (.ladd, 1) := by decide +kernel
theorem dX12_next_135 : decode cX12_next 135 = .ok (.goto 6, 3) := by decide +kernel
theorem dX12_next_138 : decode cX12_next 138 = .ok (.ldc2_w 177, 3) := by decide +kernel
theorem dX12_next_141 : decode cX12_next 141 = .ok (.putfield 179, 3) := by decide +kernel
theorem dX12_next_144 : decode cX12_next 144 = .ok (.aload_n 0, 1) := by decide +kernel
theorem dX12_next_145 : decode cX12_next 145 = .ok (.dup, 1) := by decide +kernel
theorem dX12_next_146 : decode cX12_next 146 = .ok (.getfield 164, 3) := by decide +kernel
theorem dX12_next_149 : decode cX12_next 149 = .ok (.iconst 1, 1) := by decide +kernel
theorem dX12_next_150 : decode cX12_next 150 = .ok (.iadd, 1) := by decide +kernel
theorem dX12_next_151 : decode cX12_next 151 = .ok (.putfield 164, 3) := by decide +kernel
theorem dX12_next_154 : decode cX12_next 154 = .ok (.goto (-65), 3) := by decide +kernel
theorem dX12_next_157 : decode cX12_next 157 = .ok (.iload_n 1, 1) := by decide +kernel
theorem dX12_next_158 : decode cX12_next 158 = .ok (.bipush 48, 2) := by decide +kernel
theorem dX12_next_160 : decode cX12_next 160 = .ok (.bipush 57, 2) := by decide +kernel
theorem dX12_next_162 : decode cX12_next 162 = .ok (.invokestatic 189, 3) := by decide +kernel
theorem dX12_next_165 : decode cX12_next 165 = .ok (.ifCond .eq 83, 3) := by decide +kernel
theorem dX12_next_168 : decode cX12_next 168 = .ok (.aload_n 0, 1) := by decide +kernel
theorem dX12_next_169 : decode cX12_next 169 = .ok (.invokevirtual 170, 3) := by decide +kernel
theorem dX12_next_172 : decode cX12_next 172 = .ok (.bipush 48, 2) := by decide +kernel
theorem dX12_next_174 : decode cX12_next 174 = .ok (.bipush 57, 2) := by decide +kernel
theorem dX12_next_176 : decode cX12_next 176 = .ok (.invokestatic 189, 3) := by decide +kernel
theorem dX12_next_179 : decode cX12_next 179 = .ok (.ifCond .eq 44, 3) := by decide +kernel
theorem dX12_next_182 : decode cX12_next 182 = .ok (.aload_n 0, 1) := by decide +kernel
theorem dX12_next_183 : decode cX12_next 183 = .ok (.getfield 183, 3) := by decide +kernel
theorem dX12_next_186 : decode cX12_next 186 = .ok (.ldc 195, 2) := by decide +kernel
theorem dX12_next_188 : decode cX12_next 188 = .ok (.if_icmp .ge 22, 3) := by decide +kernel
theorem dX12_next_191 : decode cX12_next 191 = .ok (.aload_n 0, 1) := by decide +kernel
theorem dX12_next_192 : decode cX12_next 192 = .ok (.bipush 10, 2) := by decide +kernel
theorem dX12_next_194 : decode cX12_next 194 = .ok (.aload_n 0, 1) := by decide +kernel
theorem dX12_next_195 : decode cX12_next 195 = .ok (.getfield 183, 3) := by decide +kernel
theorem dX12_next_198 : decode cX12_next 198 = .ok (.imul, 1) := by decide +kernel
theorem dX12_next_199 : decode cX12_next 199 = .ok (.aload_n 0, 1) := by decide +kernel
theorem dX12_next_200 : decode cX12_next 200 = .ok (.invokevirtual 170, 3) := by decide +kernel
theorem dX12_next_203 : decode cX12_next 203 = .ok (.iadd, 1) := by decide +kernel
theorem dX12_next_204 : decode cX12_next 204 = .ok (.bipush 48, 2) := by decide +kernel
theorem dX12_next_206 : decode cX12_next 206 = .ok (.isub, 1) := by decide +kernel
theorem dX12_next_207 : decode cX12_next 207 = .ok (.putfield 183, 3) := by decide +kernel
theorem dX12_next_210 : decode cX12_next 210 = .ok (.aload_n 0, 1) := by decide +kernel
theorem dX12_next_211 : decode cX12_next 211 = .ok (.dup, 1) := by decide +kernel
theorem dX12_next_212 : decode cX12_next 212 = .ok (.getfield 164, 3) := by decide +kernel
theorem dX12_next_215 : decode cX12_next 215 = .ok (.iconst 1, 1) := by decide +kernel
theorem dX12_next_216 : decode cX12_next 216 = .ok (.iadd, 1) := by decide +kernel
theorem dX12_next_217 : decode cX12_next 217 = .ok (.putfield 164, 3) := by decide +kernel
theorem dX12_next_220 : decode cX12_next 220 = .ok (.goto (-52), 3) := by decide +kernel
theorem dX12_next_223 : decode cX12_next 223 = .ok (.aload_n 0, 1) := by decide +kernel
theorem dX12_next_224 : decode cX12_next 224 = .ok (.aload_n 0, 1) := by decide +kernel
theorem dX12_next_225 : decode cX12_next 225 = .ok (.getfield 164, 3) := by decide +kernel
theorem dX12_next_228 : decode cX12_next 228 = .ok (.aload_n 0, 1) := by decide +kernel
theorem dX12_next_229 : decode cX12_next 229 = .ok (.getfield 174, 3) := by decide +kernel
theorem dX12_next_232 : decode cX12_next 232 = .ok (.isub, 1) := by decide +kernel
theorem dX12_next_233 : decode cX12_next 233 = .ok (.iconst 4, 1) := by decide +kernel
theorem dX12_next_234 : decode cX12_next 234 = .ok (.if_icmp .gt 7, 3) := by decide +kernel
theorem dX12_next_237 : decode cX12_next 237 = .ok (.iconst 2, 1) := by decide +kernel
theorem dX12_next_238 : decode cX12_next 238 = .ok (.goto 4, 3) := by decide +kernel
theorem dX12_next_241 : decode cX12_next 241 = .ok (.iconst 3, 1) := by decide +kernel
theorem dX12_next_242 : decode cX12_next 242 = .ok (.putfield 186, 3) := by decide +kernel
theorem dX12_next_245 : decode cX12_next 245 = .ok (.goto 29, 3) := by decide +kernel
theorem dX12_next_248 : decode cX12_next 248 = .ok (.aload_n 0, 1) := by decide +kernel
theorem dX12_next_249 : decode cX12_next 249 = .ok (.iload_n 1, 1) := by decide +kernel
theorem dX12_next_250 : decode cX12_next 250 = .ok (.bipush 59, 2) := by decide +kernel
theorem dX12_next_252 : decode cX12_next 252 = .ok (.if_icmp .ne 8, 3) := by decide +kernel
theorem dX12_next_255 : decode cX12_next 255 = .ok (.bipush 59, 2) := by decide +kernel
theorem dX12_next_257 : decode cX12_next 257 = .ok (.goto 4, 3) := by decide +kernel
theorem dX12_next_260 : decode cX12_next 260 = .ok (.iconst 3, 1) := by decide +kernel
theorem dX12_next_261 : decode cX12_next 261 = .ok (.putfield 186, 3) := by decide +kernel
theorem dX12_next_264 : decode cX12_next 264 = .ok (.aload_n 0, 1) := by decide +kernel
theorem dX12_next_265 : decode cX12_next 265 = .ok (.dup, 1) := by decide +kernel
theorem dX12_next_266 : decode cX12_next 266 = .ok (.getfield 164, 3) := by decide +kernel
theorem dX12_next_269 : decode cX12_next 269 = .ok (.iconst 1, 1) := by decide +kernel
theorem dX12_next_270 : decode cX12_next 270 = .ok (.iadd, 1) := by decide +kernel
theorem dX12_next_271 : decode cX12_next 271 = .ok (.putfield 164, 3) := by decide +kernel
theorem dX12_next_274 : decode cX12_next 274 = .ok (.return_, 1) := by decide +kernel
theorem dX12_errs_0 : decode cX12_errs 0 = .ok (.aload_n 0, 1) := by decide +kernel
theorem dX12_errs_1 : decode cX12_errs 1 = .ok (.getfield 196, 3) := by decide +kernel
theorem dX12_errs_4 : decode cX12_errs 4 = .ok (.ifCond .eq 4, 3) := by decide +kernel
theorem dX12_errs_7 : decode cX12_errs 7 = .ok (.return_, 1) := by decide +kernel
theorem dX12_errs_8 : decode cX12_errs 8 = .ok (.aload_n 0, 1) := by decide +kernel
theorem dX12_errs_9 : decode cX12_errs 9 = .ok (.iconst 1, 1) := by decide +kernel
theorem dX12_errs_10 : decode cX12_errs 10 = .ok (.putfield 196, 3) := by decide +kernel
theorem dX12_errs_13 : decode cX12_errs 13 = .ok (.aload_n 0, 1) := by decide +kernel
theorem dX12_errs_14 : decode cX12_errs 14 = .ok (.aload_n 0, 1) := by decide +kernel
theorem dX12_errs_15 : decode cX12_errs 15 = .ok (.getfield 174, 3) := by decide +kernel
theorem dX12_errs_18 : decode cX12_errs 18 = .ok (.putfield 114, 3) := by decide +kernel
theorem dX12_errs_21 : decode cX12_errs 21 = .ok (.return_, 1) := by decide +kernel
theorem dX12_is_0 : decode cX12_is 0 = .ok (.aload_n 0, 1) := by decide +kernel
theorem dX12_is_1 : decode cX12_is 1 = .ok (.getfield 196, 3) := by decide +kernel
theorem dX12_is_4 : decode cX12_is 4 = .ok (.ifCond .ne 24, 3) := by decide +kernel
theorem dX12_is_7 : decode cX12_is 7 = .ok (.aload_n 0, 1) := by decide +kernel
theorem dX12_is_8 : decode cX12_is 8 = .ok (.getfield 186, 3) := by decide +kernel
theorem dX12_is_11 : decode cX12_is 11 = .ok (.iconst 1, 1) := by decide +kernel
theorem dX12_is_12 : decode cX12_is 12 = .ok (.if_icmp .ne 16, 3) := by decide +kernel
theorem dX12_is_15 : decode cX12_is 15 = .ok (.aload_n 0, 1) := by decide +kernel
theorem dX12_is_16 : decode cX12_is 16 = .ok (.getfield 179, 3) := by decide +kernel
theorem dX12_is_19 : decode cX12_is 19 = .ok (.lload_n 1, 1) := by decide +kernel
theorem dX12_is_20 : decode cX12_is 20 = .ok (.lcmp, 1) := by decide +kernel
theorem dX12_is_21 : decode cX12_is 21 = .ok (.ifCond .ne 7, 3) := by decide +kernel
theorem dX12_is_24 : decode cX12_is 24 = .ok (.iconst 1, 1) := by decide +kernel
theorem dX12_is_25 : decode cX12_is 25 = .ok (.goto 4, 3) := by decide +kernel
theorem dX12_is_28 : decode cX12_is 28 = .ok (.iconst 0, 1) := by decide +kernel
theorem dX12_is_29 : decode cX12_is 29 = .ok (.ireturn, 1) := by decide +kernel
theorem dX12_mustBe_0 : decode cX12_mustBe 0 = .ok (.aload_n 0, 1) := by decide +kernel
theorem dX12_mustBe_1 : decode cX12_mustBe 1 = .ok (.lload_n 1, 1) := by decide +kernel
theorem dX12_mustBe_2 : decode cX12_mustBe 2 = .ok (.invokevirtual 200, 3) := by decide +kernel
theorem dX12_mustBe_5 : decode cX12_mustBe 5 = .ok (.ifCond .eq 10, 3) := by decide +kernel
theorem dX12_mustBe_8 : decode cX12_mustBe 8 = .ok (.aload_n 0, 1) := by decide +kernel
theorem dX12_mustBe_9 : decode cX12_mustBe 9 = .ok (.invokevirtual 204, 3) := by decide +kernel
theorem dX12_mustBe_12 : decode cX12_mustBe 12 = .ok (.goto 7, 3) := by decide +kernel
theorem dX12_mustBe_15 : decode cX12_mustBe 15 = .ok (.aload_n 0, 1) := by decide +kernel
theorem dX12_mustBe_16 : decode cX12_mustBe 16 = .ok (.invokevirtual 207, 3) := by decide +kernel
theorem dX12_mustBe_19 : decode cX12_mustBe 19 = .ok (.return_, 1) := by decide +kernel
theorem dX12_numeral_0 : decode cX12_numeral 0 = .ok (.aload_n 0, 1) := by decide +kernel
theorem dX12_numeral_1 : decode cX12_numeral 1 = .ok (.getfield 183, 3) := by decide +kernel
theorem dX12_numeral_4 : decode cX12_numeral 4 = .ok (.istore_n 3, 1) := by decide +kernel
theorem dX12_numeral_5 : decode cX12_numeral 5 = .ok (.aload_n 0, 1) := by decide +kernel
theorem dX12_numeral_6 : decode cX12_numeral 6 = .ok (.getfield 196, 3) := by decide +kernel
theorem dX12_numeral_9 : decode cX12_numeral 9 = .ok (.ifCond .eq 5, 3) := by decide +kernel
theorem dX12_numeral_12 : decode cX12_numeral 12 = .ok (.iconst 0, 1) := by decide +kernel
theorem dX12_numeral_13 : decode cX12_numeral 13 = .ok (.ireturn, 1) := by decide +kernel
theorem dX12_numeral_14 : decode cX12_numeral 14 = .ok (.aload_n 0, 1) := by decide +kernel
theorem dX12_numeral_15 : decode cX12_numeral 15 = .ok (.getfield 186, 3) := by decide +kernel
theorem dX12_numeral_18 : decode cX12_numeral 18 = .ok (.iconst 2, 1) := by decide +kernel
theorem dX12_numeral_19 : decode cX12_numeral 19 = .ok (.if_icmp .ne 13, 3) := by decide +kernel
theorem dX12_numeral_22 : decode cX12_numeral 22 = .ok (.iload_n 3, 1) := by decide +kernel
theorem dX12_numeral_23 : decode cX12_numeral 23 = .ok (.iload_n 1, 1) := by decide +kernel
theorem dX12_numeral_24 : decode cX12_numeral 24 = .ok (.if_icmp .lt 8, 3) := by decide +kernel
theorem dX12_numeral_27 : decode cX12_numeral 27 = .ok (.iload_n 3, 1) := by decide +kernel
theorem dX12_numeral_28 : decode cX12_numeral 28 = .ok (.iload_n 2, 1) := by decide +kernel
theorem dX12_numeral_29 : decode cX12_numeral 29 = .ok (.if_icmp .le 9, 3) := by decide +kernel
theorem dX12_numeral_32 : decode cX12_numeral 32 = .ok (.aload_n 0, 1) := by decide +kernel
theorem dX12_numeral_33 : decode cX12_numeral 33 = .ok (.invokevirtual 207, 3) := by decide +kernel
theorem dX12_numeral_36 : decode cX12_numeral 36 = .ok (.iconst 0, 1) := by decide +kernel
theorem dX12_numeral_37 : decode cX12_numeral 37 = .ok (.ireturn, 1) := by decide +kernel
theorem dX12_numeral_38 : decode cX12_numeral 38 = .ok (.aload_n 0, 1) := by decide +kernel
theorem dX12_numeral_39 : decode cX12_numeral 39 = .ok (.invokevirtual 204, 3) := by decide +kernel
theorem dX12_numeral_42 : decode cX12_numeral 42 = .ok (.iload_n 3, 1) := by decide +kernel
theorem dX12_numeral_43 : decode cX12_numeral 43 = .ok (.ireturn, 1) := by decide +kernel
theorem dX12_semicolon_0 : decode cX12_semicolon 0 = .ok (.aload_n 0, 1) := by decide +kernel
theorem dX12_semicolon_1 : decode cX12_semicolon 1 = .ok (.getfield 196, 3) := by decide +kernel
theorem dX12_semicolon_4 : decode cX12_semicolon 4 = .ok (.ifCond .eq 4, 3) := by decide +kernel
theorem dX12_semicolon_7 : decode cX12_semicolon 7 = .ok (.return_, 1) := by decide +kernel
theorem dX12_semicolon_8 : decode cX12_semicolon 8 = .ok (.aload_n 0, 1) := by decide +kernel
theorem dX12_semicolon_9 : decode cX12_semicolon 9 = .ok (.getfield 186, 3) := by decide +kernel
theorem dX12_semicolon_12 : decode cX12_semicolon 12 = .ok (.bipush 59, 2) := by decide +kernel
theorem dX12_semicolon_14 : decode cX12_semicolon 14 = .ok (.if_icmp .ne 10, 3) := by decide +kernel
theorem dX12_semicolon_17 : decode cX12_semicolon 17 = .ok (.aload_n 0, 1) := by decide +kernel
theorem dX12_semicolon_18 : decode cX12_semicolon 18 = .ok (.invokevirtual 204, 3) := by decide +kernel
theorem dX12_semicolon_21 : decode cX12_semicolon 21 = .ok (.goto 7, 3) := by decide +kernel
theorem dX12_semicolon_24 : decode cX12_semicolon 24 = .ok (.aload_n 0, 1) := by decide +kernel
theorem dX12_semicolon_25 : decode cX12_semicolon 25 = .ok (.invokevirtual 207, 3) := by decide +kernel
theorem dX12_semicolon_28 : decode cX12_semicolon 28 = .ok (.return_, 1) := by decide +kernel
theorem dX12_isKeyword_0 : decode cX12_isKeyword 0 = .ok (.aload_n 0, 1) := by decide +kernel
theorem dX12_isKeyword_1 : decode cX12_isKeyword 1 = .ok (.getfield 179, 3) := by decide +kernel
theorem dX12_isKeyword_4 : decode cX12_isKeyword 4 = .ok (.ldc2_w 210, 3) := by decide +kernel
theorem dX12_isKeyword_7 : decode cX12_isKeyword 7 = .ok (.lcmp, 1) := by decide +kernel
theorem dX12_isKeyword_8 : decode cX12_isKeyword 8 = .ok (.ifCond .eq 80, 3) := by decide +kernel
theorem dX12_isKeyword_11 : decode cX12_isKeyword 11 = .ok (.aload_n 0, 1) := by decide +kernel
theorem dX12_isKeyword_12 : decode cX12_isKeyword 12 = .ok (.getfield 179, 3) := by decide +kernel
theorem dX12_isKeyword_15 : decode cX12_isKeyword 15 = .ok (.ldc2_w 212, 3) := by decide +kernel
theorem dX12_isKeyword_18 : decode cX12_isKeyword 18 = .ok (.lcmp, 1) := by decide +kernel
theorem dX12_isKeyword_19 : decode cX12_isKeyword 19 = .ok (.ifCond .eq 69, 3) := by decide +kernel
theorem dX12_isKeyword_22 : decode cX12_isKeyword 22 = .ok (.aload_n 0, 1) := by decide +kernel
theorem dX12_isKeyword_23 : decode cX12_isKeyword 23 = .ok (.getfield 179, 3) := by decide +kernel
theorem dX12_isKeyword_26 : decode cX12_isKeyword 26 = .ok (.ldc2_w 214, 3) := by decide +kernel
theorem dX12_isKeyword_29 : decode cX12_isKeyword 29 = .ok (.lcmp, 1) := by decide +kernel
theorem dX12_isKeyword_30 : decode cX12_isKeyword 30 = .ok (.ifCond .eq 58, 3) := by decide +kernel
theorem dX12_isKeyword_33 : decode cX12_isKeyword 33 = .ok (.aload_n 0, 1) := by decide +kernel
theorem dX12_isKeyword_34 : decode cX12_isKeyword 34 = .ok (.getfield 179, 3) := by decide +kernel
theorem dX12_isKeyword_37 : decode cX12_isKeyword 37 = .ok (.ldc2_w 216, 3) := by decide +kernel
theorem dX12_isKeyword_40 : decode cX12_isKeyword 40 = .ok (.lcmp, 1) := by decide +kernel
theorem dX12_isKeyword_41 : decode cX12_isKeyword 41 = .ok (.ifCond .eq 47, 3) := by decide +kernel
theorem dX12_isKeyword_44 : decode cX12_isKeyword 44 = .ok (.aload_n 0, 1) := by decide +kernel
theorem dX12_isKeyword_45 : decode cX12_isKeyword 45 = .ok (.getfield 179, 3) := by decide +kernel
theorem dX12_isKeyword_48 : decode cX12_isKeyword 48 = .ok (.ldc2_w 218, 3) := by decide +kernel
theorem dX12_isKeyword_51 : decode cX12_isKeyword 51 = .ok (.lcmp, 1) := by decide +kernel
theorem dX12_isKeyword_52 : decode cX12_isKeyword 52 = .ok (.ifCond .eq 36, 3) := by decide +kernel
theorem dX12_isKeyword_55 : decode cX12_isKeyword 55 = .ok (.aload_n 0, 1) := by decide +kernel
theorem dX12_isKeyword_56 : decode cX12_isKeyword 56 = .ok (.getfield 179, 3) := by decide +kernel
theorem dX12_isKeyword_59 : decode cX12_isKeyword 59 = .ok (.ldc2_w 220, 3) := by decide +kernel
theorem dX12_isKeyword_62 : decode cX12_isKeyword 62 = .ok (.lcmp, 1) := by decide +kernel
theorem dX12_isKeyword_63 : decode cX12_isKeyword 63 = .ok (.ifCond .eq 25, 3) := by decide +kernel
theorem dX12_isKeyword_66 : decode cX12_isKeyword 66 = .ok (.aload_n 0, 1) := by decide +kernel
theorem dX12_isKeyword_67 : decode cX12_isKeyword 67 = .ok (.getfield 179, 3) := by decide +kernel
theorem dX12_isKeyword_70 : decode cX12_isKeyword 70 = .ok (.ldc2_w 222, 3) := by decide +kernel
theorem dX12_isKeyword_73 : decode cX12_isKeyword 73 = .ok (.lcmp, 1) := by decide +kernel
theorem dX12_isKeyword_74 : decode cX12_isKeyword 74 = .ok (.ifCond .eq 14, 3) := by decide +kernel
theorem dX12_isKeyword_77 : decode cX12_isKeyword 77 = .ok (.aload_n 0, 1) := by decide +kernel
theorem dX12_isKeyword_78 : decode cX12_isKeyword 78 = .ok (.getfield 179, 3) := by decide +kernel
theorem dX12_isKeyword_81 : decode cX12_isKeyword 81 = .ok (.ldc2_w 224, 3) := by decide +kernel
theorem dX12_isKeyword_84 : decode cX12_isKeyword 84 = .ok (.lcmp, 1) := by decide +kernel
theorem dX12_isKeyword_85 : decode cX12_isKeyword 85 = .ok (.ifCond .ne 5, 3) := by decide +kernel
theorem dX12_isKeyword_88 : decode cX12_isKeyword 88 = .ok (.iconst 1, 1) := by decide +kernel
theorem dX12_isKeyword_89 : decode cX12_isKeyword 89 = .ok (.ireturn, 1) := by decide +kernel
theorem dX12_isKeyword_90 : decode cX12_isKeyword 90 = .ok (.aload_n 0, 1) := by decide +kernel
theorem dX12_isKeyword_91 : decode cX12_isKeyword 91 = .ok (.getfield 179, 3) := by decide +kernel
theorem dX12_isKeyword_94 : decode cX12_isKeyword 94 = .ok (.ldc2_w 226, 3) := by decide +kernel
theorem dX12_isKeyword_97 : decode cX12_isKeyword 97 = .ok (.lcmp, 1) := by decide +kernel
theorem dX12_isKeyword_98 : decode cX12_isKeyword 98 = .ok (.ifCond .eq 80, 3) := by decide +kernel
theorem dX12_isKeyword_101 : decode cX12_isKeyword 101 = .ok (.aload_n 0, 1) := by decide +kernel
theorem dX12_isKeyword_102 : decode cX12_isKeyword 102 = .ok (.getfield 179, 3) := by decide +kernel
theorem dX12_isKeyword_105 : decode cX12_isKeyword 105 = .ok (.ldc2_w 228, 3) := by decide +kernel
theorem dX12_isKeyword_108 : decode cX12_isKeyword 108 = .ok (.lcmp, 1) := by decide +kernel
theorem dX12_isKeyword_109 : decode cX12_isKeyword 109 = .ok (.ifCond .eq 69, 3) := by decide +kernel
theorem dX12_isKeyword_112 : decode cX12_isKeyword 112 = .ok (.aload_n 0, 1) := by decide +kernel
theorem dX12_isKeyword_113 : decode cX12_isKeyword 113 = .ok (.getfield 179, 3) := by decide +kernel
theorem dX12_isKeyword_116 : decode cX12_isKeyword 116 = .ok (.ldc2_w 230, 3) := by decide +kernel
theorem dX12_isKeyword_119 : decode cX12_isKeyword 119 = .ok (.lcmp, 1) := by decide +kernel
theorem dX12_isKeyword_120 : decode cX12_isKeyword 120 = .ok (.ifCond .eq 58, 3) := by decide +kernel
theorem dX12_isKeyword_123 : decode cX12_isKeyword 123 = .ok (.aload_n 0, 1) := by decide +kernel
theorem dX12_isKeyword_124 : decode cX12_isKeyword 124 = .ok (.getfield 179, 3) := by decide +kernel
theorem dX12_isKeyword_127 : decode cX12_isKeyword 127 = .ok (.ldc2_w 232, 3) := by decide +kernel
theorem dX12_isKeyword_130 : decode cX12_isKeyword 130 = .ok (.lcmp, 1) := by decide +kernel
theorem dX12_isKeyword_131 : decode cX12_isKeyword 131 = .ok (.ifCond .eq 47, 3) := by decide +kernel
theorem dX12_isKeyword_134 : decode cX12_isKeyword 134 = .ok (.aload_n 0, 1) := by decide +kernel
theorem dX12_isKeyword_135 : decode cX12_isKeyword 135 = .ok (.getfield 179, 3) := by decide +kernel
theorem dX12_isKeyword_138 : decode cX12_isKeyword 138 = .ok (.ldc2_w 234, 3) := by decide +kernel
theorem dX12_isKeyword_141 : decode cX12_isKeyword 141 = .ok (.lcmp, 1) := by decide +kernel
theorem dX12_isKeyword_142 : decode cX12_isKeyword 142 = .ok (.ifCond .eq 36, 3) := by decide +kernel
theorem dX12_isKeyword_145 : decode cX12_isKeyword 145 = .ok (.aload_n 0, 1) := by decide +kernel
theorem dX12_isKeyword_146 : decode cX12_isKeyword 146 = .ok (.getfield 179, 3) := by decide +kernel
theorem dX12_isKeyword_149 : decode cX12_isKeyword 149 = .ok (.ldc2_w 236, 3) := by decide +kernel
theorem dX12_isKeyword_152 : decode cX12_isKeyword 152 = .ok (.lcmp, 1) := by decide +kernel
theorem dX12_isKeyword_153 : decode cX12_isKeyword 153 = .ok (.ifCond .eq 25, 3) := by decide +kernel
theorem dX12_isKeyword_156 : decode cX12_isKeyword 156 = .ok (.aload_n 0, 1) := by decide +kernel
theorem dX12_isKeyword_157 : decode cX12_isKeyword 157 = .ok (.getfield 179, 3) := by decide +kernel
theorem dX12_isKeyword_160 : decode cX12_isKeyword 160 = .ok (.ldc2_w 238, 3) := by decide +kernel
theorem dX12_isKeyword_163 : decode cX12_isKeyword 163 = .ok (.lcmp, 1) := by decide +kernel
theorem dX12_isKeyword_164 : decode cX12_isKeyword 164 = .ok (.ifCond .eq 14, 3) := by decide +kernel
theorem dX12_isKeyword_167 : decode cX12_isKeyword 167 = .ok (.aload_n 0, 1) := by decide +kernel
theorem dX12_isKeyword_168 : decode cX12_isKeyword 168 = .ok (.getfield 179, 3) := by decide +kernel
theorem dX12_isKeyword_171 : decode cX12_isKeyword 171 = .ok (.ldc2_w 240, 3) := by decide +kernel
theorem dX12_isKeyword_174 : decode cX12_isKeyword 174 = .ok (.lcmp, 1) := by decide +kernel
theorem dX12_isKeyword_175 : decode cX12_isKeyword 175 = .ok (.ifCond .ne 5, 3) := by decide +kernel
theorem dX12_isKeyword_178 : decode cX12_isKeyword 178 = .ok (.iconst 1, 1) := by decide +kernel
theorem dX12_isKeyword_179 : decode cX12_isKeyword 179 = .ok (.ireturn, 1) := by decide +kernel
theorem dX12_isKeyword_180 : decode cX12_isKeyword 180 = .ok (.aload_n 0, 1) := by decide +kernel
theorem dX12_isKeyword_181 : decode cX12_isKeyword 181 = .ok (.getfield 179, 3) := by decide +kernel
theorem dX12_isKeyword_184 : decode cX12_isKeyword 184 = .ok (.ldc2_w 242, 3) := by decide +kernel
theorem dX12_isKeyword_187 : decode cX12_isKeyword 187 = .ok (.lcmp, 1) := by decide +kernel
theorem dX12_isKeyword_188 : decode cX12_isKeyword 188 = .ok (.ifCond .eq 69, 3) := by decide +kernel
theorem dX12_isKeyword_191 : decode cX12_isKeyword 191 = .ok (.aload_n 0, 1) := by decide +kernel
theorem dX12_isKeyword_192 : decode cX12_isKeyword 192 = .ok (.getfield 179, 3) := by decide +kernel
theorem dX12_isKeyword_195 : decode cX12_isKeyword 195 = .ok (.ldc2_w 244, 3) := by decide +kernel
theorem dX12_isKeyword_198 : decode cX12_isKeyword 198 = .ok (.lcmp, 1) := by decide +kernel
theorem dX12_isKeyword_199 : decode cX12_isKeyword 199 = .ok (.ifCond .eq 58, 3) := by decide +kernel
theorem dX12_isKeyword_202 : decode cX12_isKeyword 202 = .ok (.aload_n 0, 1) := by decide +kernel
theorem dX12_isKeyword_203 : decode cX12_isKeyword 203 = .ok (.getfield 179, 3) := by decide +kernel
theorem dX12_isKeyword_206 : decode cX12_isKeyword 206 = .ok (.ldc2_w 246, 3) := by decide +kernel
theorem dX12_isKeyword_209 : decode cX12_isKeyword 209 = .ok (.lcmp, 1) := by decide +kernel
theorem dX12_isKeyword_210 : decode cX12_isKeyword 210 = .ok (.ifCond .eq 47, 3) := by decide +kernel
theorem dX12_isKeyword_213 : decode cX12_isKeyword 213 = .ok (.aload_n 0, 1) := by decide +kernel
theorem dX12_isKeyword_214 : decode cX12_isKeyword 214 = .ok (.getfield 179, 3) := by decide +kernel
theorem dX12_isKeyword_217 : decode cX12_isKeyword 217 = .ok (.ldc2_w 248, 3) := by decide +kernel
theorem dX12_isKeyword_220 : decode cX12_isKeyword 220 = .ok (.lcmp, 1) := by decide +kernel
theorem dX12_isKeyword_221 : decode cX12_isKeyword 221 = .ok (.ifCond .eq 36, 3) := by decide +kernel
theorem dX12_isKeyword_224 : decode cX12_isKeyword 224 = .ok (.aload_n 0, 1) := by decide +kernel
theorem dX12_isKeyword_225 : decode cX12_isKeyword 225 = .ok (.getfield 179, 3) := by decide +kernel
theorem dX12_isKeyword_228 : decode cX12_isKeyword 228 = .ok (.ldc2_w 250, 3) := by decide +kernel
theorem dX12_isKeyword_231 : decode cX12_isKeyword 231 = .ok (.lcmp, 1) := by decide +kernel
theorem dX12_isKeyword_232 : decode cX12_isKeyword 232 = .ok (.ifCond .eq 25, 3) := by decide +kernel
theorem dX12_isKeyword_235 : decode cX12_isKeyword 235 = .ok (.aload_n 0, 1) := by decide +kernel
theorem dX12_isKeyword_236 : decode cX12_isKeyword 236 = .ok (.getfield 179, 3) := by decide +kernel
theorem dX12_isKeyword_239 : decode cX12_isKeyword 239 = .ok (.ldc2_w 252, 3) := by decide +kernel
theorem dX12_isKeyword_242 : decode cX12_isKeyword 242 = .ok (.lcmp, 1) := by decide +kernel
theorem dX12_isKeyword_243 : decode cX12_isKeyword 243 = .ok (.ifCond .eq 14, 3) := by decide +kernel
theorem dX12_isKeyword_246 : decode cX12_isKeyword 246 = .ok (.aload_n 0, 1) := by decide +kernel
theorem dX12_isKeyword_247 : decode cX12_isKeyword 247 = .ok (.getfield 179, 3) := by decide +kernel
theorem dX12_isKeyword_250 : decode cX12_isKeyword 250 = .ok (.ldc2_w 254, 3) := by decide +kernel
theorem dX12_isKeyword_253 : decode cX12_isKeyword 253 = .ok (.lcmp, 1) := by decide +kernel
theorem dX12_isKeyword_254 : decode cX12_isKeyword 254 = .ok (.ifCond .ne 5, 3) := by decide +kernel
theorem dX12_isKeyword_257 : decode cX12_isKeyword 257 = .ok (.iconst 1, 1) := by decide +kernel
theorem dX12_isKeyword_258 : decode cX12_isKeyword 258 = .ok (.ireturn, 1) := by decide +kernel
theorem dX12_isKeyword_259 : decode cX12_isKeyword 259 = .ok (.iconst 0, 1) := by decide +kernel
theorem dX12_isKeyword_260 : decode cX12_isKeyword 260 = .ok (.ireturn, 1) := by decide +kernel
theorem dX12_find_0 : decode cX12_find 0 = .ok (.iconst 0, 1) := by decide +kernel
theorem dX12_find_1 : decode cX12_find 1 = .ok (.istore 5, 2) := by decide +kernel
theorem dX12_find_3 : decode cX12_find 3 = .ok (.iload 5, 2) := by decide +kernel
theorem dX12_find_5 : decode cX12_find 5 = .ok (.iload_n 2, 1) := by decide +kernel
theorem dX12_find_6 : decode cX12_find 6 = .ok (.if_icmp .ge 23, 3) := by decide +kernel
theorem dX12_find_9 : decode cX12_find 9 = .ok (.aload_n 0, 1) := by decide +kernel
theorem dX12_find_10 : decode cX12_find 10 = .ok (.iload_n 1, 1) := by decide +kernel
theorem dX12_find_11 : decode cX12_find 11 = .ok (.iload 5, 2) := by decide +kernel
theorem dX12_find_13 : decode cX12_find 13 = .ok (.iadd, 1) := by decide +kernel
theorem dX12_find_14 : decode cX12_find 14 = .ok (.laload, 1) := by decide +kernel
theorem dX12_find_15 : decode cX12_find 15 = .ok (.lload_n 3, 1) := by decide +kernel
theorem dX12_find_16 : decode cX12_find 16 = .ok (.lcmp, 1) := by decide +kernel
theorem dX12_find_17 : decode cX12_find 17 = .ok (.ifCond .ne 6, 3) := by decide +kernel
theorem dX12_find_20 : decode cX12_find 20 = .ok (.iload 5, 2) := by decide +kernel
theorem dX12_find_22 : decode cX12_find 22 = .ok (.ireturn, 1) := by decide +kernel
theorem dX12_find_23 : decode cX12_find 23 = .ok (.iinc 5 1, 3) := by decide +kernel
theorem dX12_find_26 : decode cX12_find 26 = .ok (.goto (-23), 3) := by decide +kernel
theorem dX12_find_29 : decode cX12_find 29 = .ok (.iconst (-1), 1) := by decide +kernel
theorem dX12_find_30 : decode cX12_find 30 = .ok (.ireturn, 1) := by decide +kernel
theorem dX12_newName_0 : decode cX12_newName 0 = .ok (.aload_n 0, 1) := by decide +kernel
theorem dX12_newName_1 : decode cX12_newName 1 = .ok (.getfield 196, 3) := by decide +kernel
theorem dX12_newName_4 : decode cX12_newName 4 = .ok (.ifCond .eq 5, 3) := by decide +kernel
theorem dX12_newName_7 : decode cX12_newName 7 = .ok (.lconst 0, 1) := by decide +kernel
theorem dX12_newName_8 : decode cX12_newName 8 = .ok (.lreturn, 1) := by decide +kernel
theorem dX12_newName_9 : decode cX12_newName 9 = .ok (.aload_n 0, 1) := by decide +kernel
theorem dX12_newName_10 : decode cX12_newName 10 = .ok (.getfield 179, 3) := by decide +kernel
theorem dX12_newName_13 : decode cX12_newName 13 = .ok (.lstore_n 2, 1) := by decide +kernel
theorem dX12_newName_14 : decode cX12_newName 14 = .ok (.aload_n 0, 1) := by decide +kernel
theorem dX12_newName_15 : decode cX12_newName 15 = .ok (.getfield 186, 3) := by decide +kernel
theorem dX12_newName_18 : decode cX12_newName 18 = .ok (.iconst 1, 1) := by decide +kernel
theorem dX12_newName_19 : decode cX12_newName 19 = .ok (.if_icmp .ne 131, 3) := by decide +kernel
theorem dX12_newName_22 : decode cX12_newName 22 = .ok (.lload_n 2, 1) := by decide +kernel
theorem dX12_newName_23 : decode cX12_newName 23 = .ok (.lconst 0, 1) := by decide +kernel
theorem dX12_newName_24 : decode cX12_newName 24 = .ok (.lcmp, 1) := by decide +kernel
theorem dX12_newName_25 : decode cX12_newName 25 = .ok (.ifCond .le 125, 3) := by decide +kernel
theorem dX12_newName_28 : decode cX12_newName 28 = .ok (.iload_n 1, 1) := by decide +kernel
theorem dX12_newName_29 : decode cX12_newName 29 = .ok (.ifCond .eq 121, 3) := by decide +kernel
theorem dX12_newName_32 : decode cX12_newName 32 = .ok (.aload_n 0, 1) := by decide +kernel
theorem dX12_newName_33 : decode cX12_newName 33 = .ok (.invokevirtual 256, 3) := by decide +kernel
theorem dX12_newName_36 : decode cX12_newName 36 = .ok (.ifCond .ne 114, 3) := by decide +kernel
theorem dX12_newName_39 : decode cX12_newName 39 = .ok (.aload_n 0, 1) := by decide +kernel
theorem dX12_newName_40 : decode cX12_newName 40 = .ok (.getfield 28, 3) := by decide +kernel
theorem dX12_newName_43 : decode cX12_newName 43 = .ok (.bipush 12, 2) := by decide +kernel
theorem dX12_newName_45 : decode cX12_newName 45 = .ok (.aload_n 0, 1) := by decide +kernel
theorem dX12_newName_46 : decode cX12_newName 46 = .ok (.getfield 260, 3) := by decide +kernel
theorem dX12_newName_49 : decode cX12_newName 49 = .ok (.imul, 1) := by decide +kernel
theorem dX12_newName_50 : decode cX12_newName 50 = .ok (.aload_n 0, 1) := by decide +kernel
theorem dX12_newName_51 : decode cX12_newName 51 = .ok (.getfield 7, 3) := by decide +kernel
theorem dX12_newName_54 : decode cX12_newName 54 = .ok (.aload_n 0, 1) := by decide +kernel
theorem dX12_newName_55 : decode cX12_newName 55 = .ok (.getfield 260, 3) := by decide +kernel
theorem dX12_newName_58 : decode cX12_newName 58 = .ok (.iaload, 1) := by decide +kernel
theorem dX12_newName_59 : decode cX12_newName 59 = .ok (.lload_n 2, 1) := by decide +kernel
theorem dX12_newName_60 : decode cX12_newName 60 = .ok (.invokestatic 263, 3) := by decide +kernel
theorem dX12_newName_63 : decode cX12_newName 63 = .ok (.ifCond .ge 87, 3) := by decide +kernel
theorem dX12_newName_66 : decode cX12_newName 66 = .ok (.aload_n 0, 1) := by decide +kernel
theorem dX12_newName_67 : decode cX12_newName 67 = .ok (.getfield 32, 3) := by decide +kernel
theorem dX12_newName_70 : decode cX12_newName 70 = .ok (.bipush 6, 2) := by decide +kernel
theorem dX12_newName_72 : decode cX12_newName 72 = .ok (.aload_n 0, 1) := by decide +kernel
theorem dX12_newName_73 : decode cX12_newName 73 = .ok (.getfield 260, 3) := by decide +kernel
theorem dX12_newName_76 : decode cX12_newName 76 = .ok (.imul, 1) := by decide +kernel
theorem dX12_newName_77 : decode cX12_newName 77 = .ok (.aload_n 0, 1) := by decide +kernel
theorem dX12_newName_78 : decode cX12_newName 78 = .ok (.getfield 13, 3) := by decide +kernel
theorem dX12_newName_81 : decode cX12_newName 81 = .ok (.aload_n 0, 1) := by decide +kernel
theorem dX12_newName_82 : decode cX12_newName 82 = .ok (.getfield 260, 3) := by decide +kernel
theorem dX12_newName_85 : decode cX12_newName 85 = .ok (.iaload, 1) := by decide +kernel
theorem dX12_newName_86 : decode cX12_newName 86 = .ok (.lload_n 2, 1) := by decide +kernel
theorem dX12_newName_87 : decode cX12_newName 87 = .ok (.invokestatic 263, 3) := by decide +kernel
theorem dX12_newName_90 : decode cX12_newName 90 = .ok (.ifCond .ge 60, 3) := by decide +kernel
theorem dX12_newName_93 : decode cX12_newName 93 = .ok (.aload_n 0, 1) := by decide +kernel
theorem dX12_newName_94 : decode cX12_newName 94 = .ok (.getfield 35, 3) := by decide +kernel
theorem dX12_newName_97 : decode cX12_newName 97 = .ok (.bipush 10, 2) := by decide +kernel
theorem dX12_newName_99 : decode cX12_newName 99 = .ok (.aload_n 0, 1) := by decide +kernel
theorem dX12_newName_100 : decode cX12_newName 100 = .ok (.getfield 260, 3) := by decide +kernel
theorem dX12_newName_103 : decode cX12_newName 103 = .ok (.imul, 1) := by decide +kernel
theorem dX12_newName_104 : decode cX12_newName 104 = .ok (.aload_n 0, 1) := by decide +kernel
theorem dX12_newName_105 : decode cX12_newName 105 = .ok (.getfield 16, 3) := by decide +kernel
theorem dX12_newName_108 : decode cX12_newName 108 = .ok (.aload_n 0, 1) := by decide +kernel
theorem dX12_newName_109 : decode cX12_newName 109 = .ok (.getfield 260, 3) := by decide +kernel
theorem dX12_newName_112 : decode cX12_newName 112 = .ok (.iaload, 1) := by decide +kernel
theorem dX12_newName_113 : decode cX12_newName 113 = .ok (.lload_n 2, 1) := by decide +kernel
theorem dX12_newName_114 : decode cX12_newName 114 = .ok (.invokestatic 263, 3) := by decide +kernel
theorem dX12_newName_117 : decode cX12_newName 117 = .ok (.ifCond .ge 33, 3) := by decide +kernel
theorem dX12_newName_120 : decode cX12_newName 120 = .ok (.aload_n 0, 1) := by decide +kernel
theorem dX12_newName_121 : decode cX12_newName 121 = .ok (.getfield 38, 3) := by decide +kernel
theorem dX12_newName_124 : decode cX12_newName 124 = .ok (.iconst 4, 1) := by decide +kernel
theorem dX12_newName_125 : decode cX12_newName 125 = .ok (.aload_n 0, 1) := by decide +kernel
theorem dX12_newName_126 : decode cX12_newName 126 = .ok (.getfield 260, 3) := by decide +kernel
theorem dX12_newName_129 : decode cX12_newName 129 = .ok (.imul, 1) := by decide +kernel
theorem dX12_newName_130 : decode cX12_newName 130 = .ok (.aload_n 0, 1) := by decide +kernel
theorem dX12_newName_131 : decode cX12_newName 131 = .ok (.getfield 19, 3) := by decide +kernel
theorem dX12_newName_134 : decode cX12_newName 134 = .ok (.aload_n 0, 1) := by decide +kernel
theorem dX12_newName_135 : decode cX12_newName 135 = .ok (.getfield 260, 3) := by decide +kernel
theorem dX12_newName_138 : decode cX12_newName 138 = .ok (.iaload, 1) := by decide +kernel
theorem dX12_newName_139 : decode cX12_newName 139 = .ok (.lload_n 2, 1) := by decide +kernel
theorem dX12_newName_140 : decode cX12_newName 140 = .ok (.invokestatic 263, 3) := by decide +kernel
theorem dX12_newName_143 : decode cX12_newName 143 = .ok (.ifCond .ge 7, 3) := by decide +kernel
theorem dX12_newName_146 : decode cX12_newName 146 = .ok (.iconst 1, 1) := by decide +kernel
theorem dX12_newName_147 : decode cX12_newName 147 = .ok (.goto 4, 3) := by decide +kernel
theorem dX12_newName_150 : decode cX12_newName 150 = .ok (.iconst 0, 1) := by decide +kernel
theorem dX12_newName_151 : decode cX12_newName 151 = .ok (.istore 4, 2) := by decide +kernel
theorem dX12_newName_153 : decode cX12_newName 153 = .ok (.iload 4, 2) := by decide +kernel
theorem dX12_newName_155 : decode cX12_newName 155 = .ok (.ifCond .eq 10, 3) := by decide +kernel
theorem dX12_newName_158 : decode cX12_newName 158 = .ok (.aload_n 0, 1) := by decide +kernel
theorem dX12_newName_159 : decode cX12_newName 159 = .ok (.invokevirtual 204, 3) := by decide +kernel
theorem dX12_newName_162 : decode cX12_newName 162 = .ok (.goto 7, 3) := by decide +kernel
theorem dX12_newName_165 : decode cX12_newName 165 = .ok (.aload_n 0, 1) := by decide +kernel
theorem dX12_newName_166 : decode cX12_newName 166 = .ok (.invokevirtual 207, 3) := by decide +kernel
theorem dX12_newName_169 : decode cX12_newName 169 = .ok (.lload_n 2, 1) := by decide +kernel
theorem dX12_newName_170 : decode cX12_newName 170 = .ok (.lreturn, 1) := by decide +kernel
theorem dX12_givenHere_0 : decode cX12_givenHere 0 = .ok (.aload_n 0, 1) := by decide +kernel
theorem dX12_givenHere_1 : decode cX12_givenHere 1 = .ok (.ldc2_w 214, 3) := by decide +kernel
theorem dX12_givenHere_4 : decode cX12_givenHere 4 = .ok (.invokevirtual 200, 3) := by decide +kernel
theorem dX12_givenHere_7 : decode cX12_givenHere 7 = .ok (.ifCond .ne 5, 3) := by decide +kernel
theorem dX12_givenHere_10 : decode cX12_givenHere 10 = .ok (.iconst 0, 1) := by decide +kernel
theorem dX12_givenHere_11 : decode cX12_givenHere 11 = .ok (.ireturn, 1) := by decide +kernel
theorem dX12_givenHere_12 : decode cX12_givenHere 12 = .ok (.aload_n 0, 1) := by decide +kernel
theorem dX12_givenHere_13 : decode cX12_givenHere 13 = .ok (.invokevirtual 204, 3) := by decide +kernel
theorem dX12_givenHere_16 : decode cX12_givenHere 16 = .ok (.aload_n 0, 1) := by decide +kernel
theorem dX12_givenHere_17 : decode cX12_givenHere 17 = .ok (.iconst 0, 1) := by decide +kernel
theorem dX12_givenHere_18 : decode cX12_givenHere 18 = .ok (.bipush 99, 2) := by decide +kernel
theorem dX12_givenHere_20 : decode cX12_givenHere 20 = .ok (.invokevirtual 267, 3) := by decide +kernel
theorem dX12_givenHere_23 : decode cX12_givenHere 23 = .ok (.ireturn, 1) := by decide +kernel
theorem dX12_readThing_0 : decode cX12_readThing 0 = .ok (.bipush 12, 2) := by decide +kernel
theorem dX12_readThing_2 : decode cX12_readThing 2 = .ok (.aload_n 0, 1) := by decide +kernel
theorem dX12_readThing_3 : decode cX12_readThing 3 = .ok (.getfield 260, 3) := by decide +kernel
theorem dX12_readThing_6 : decode cX12_readThing 6 = .ok (.imul, 1) := by decide +kernel
theorem dX12_readThing_7 : decode cX12_readThing 7 = .ok (.aload_n 0, 1) := by decide +kernel
theorem dX12_readThing_8 : decode cX12_readThing 8 = .ok (.getfield 7, 3) := by decide +kernel
theorem dX12_readThing_11 : decode cX12_readThing 11 = .ok (.aload_n 0, 1) := by decide +kernel
theorem dX12_readThing_12 : decode cX12_readThing 12 = .ok (.getfield 260, 3) := by decide +kernel
theorem dX12_readThing_15 : decode cX12_readThing 15 = .ok (.iaload, 1) := by decide +kernel
theorem dX12_readThing_16 : decode cX12_readThing 16 = .ok (.iadd, 1) := by decide +kernel
theorem dX12_readThing_17 : decode cX12_readThing 17 = .ok (.istore_n 1, 1) := by decide +kernel
theorem dX12_readThing_18 : decode cX12_readThing 18 = .ok (.aload_n 0, 1) := by decide +kernel
theorem dX12_readThing_19 : decode cX12_readThing 19 = .ok (.aload_n 0, 1) := by decide +kernel
theorem dX12_readThing_20 : decode cX12_readThing 20 = .ok (.getfield 7, 3) := by decide +kernel
theorem dX12_readThing_23 : decode cX12_readThing 23 = .ok (.aload_n 0, 1) := by decide +kernel
theorem dX12_readThing_24 : decode cX12_readThing 24 = .ok (.getfield 260, 3) := by decide +kernel
theorem dX12_readThing_27 : decode cX12_readThing 27 = .ok (.iaload, 1) := by decide +kernel
theorem dX12_readThing_28 : decode cX12_readThing 28 = .ok (.bipush 12, 2) := by decide +kernel
theorem dX12_readThing_30 : decode cX12_readThing 30 = .ok (.if_icmp .ge 7, 3) := by decide +kernel
theorem dX12_readThing_33 : decode cX12_readThing 33 = .ok (.iconst 1, 1) := by decide +kernel
theorem dX12_readThing_34 : decode cX12_readThing 34 = .ok (.goto 4, 3) := by decide +kernel
theorem dX12_readThing_37 : decode cX12_readThing 37 = .ok (.iconst 0, 1) := by decide +kernel
theorem dX12_readThing_38 : decode cX12_readThing 38 = .ok (.invokevirtual 271, 3) := by decide +kernel
theorem dX12_readThing_41 : decode cX12_readThing 41 = .ok (.lstore_n 2, 1) := by decide +kernel
theorem dX12_readThing_42 : decode cX12_readThing 42 = .ok (.aload_n 0, 1) := by decide +kernel
theorem dX12_readThing_43 : decode cX12_readThing 43 = .ok (.getfield 196, 3) := by decide +kernel
theorem dX12_readThing_46 : decode cX12_readThing 46 = .ok (.ifCond .eq 4, 3) := by decide +kernel
theorem dX12_readThing_49 : decode cX12_readThing 49 = .ok (.return_, 1) := by decide +kernel
theorem dX12_readThing_50 : decode cX12_readThing 50 = .ok (.aload_n 0, 1) := by decide +kernel
theorem dX12_readThing_51 : decode cX12_readThing 51 = .ok (.getfield 28, 3) := by decide +kernel
theorem dX12_readThing_54 : decode cX12_readThing 54 = .ok (.iload_n 1, 1) := by decide +kernel
theorem dX12_readThing_55 : decode cX12_readThing 55 = .ok (.lload_n 2, 1) := by decide +kernel
theorem dX12_readThing_56 : decode cX12_readThing 56 = .ok (.lastore, 1) := by decide +kernel
theorem dX12_readThing_57 : decode cX12_readThing 57 = .ok (.aload_n 0, 1) := by decide +kernel
theorem dX12_readThing_58 : decode cX12_readThing 58 = .ok (.ldc2_w 212, 3) := by decide +kernel
theorem dX12_readThing_61 : decode cX12_readThing 61 = .ok (.invokevirtual 275, 3) := by decide +kernel
theorem dX12_readThing_64 : decode cX12_readThing 64 = .ok (.aload_n 0, 1) := by decide +kernel
theorem dX12_readThing_65 : decode cX12_readThing 65 = .ok (.getfield 41, 3) := by decide +kernel
theorem dX12_readThing_68 : decode cX12_readThing 68 = .ok (.iload_n 1, 1) := by decide +kernel
theorem dX12_readThing_69 : decode cX12_readThing 69 = .ok (.aload_n 0, 1) := by decide +kernel
theorem dX12_readThing_70 : decode cX12_readThing 70 = .ok (.iconst 0, 1) := by decide +kernel
theorem dX12_readThing_71 : decode cX12_readThing 71 = .ok (.sipush 3599, 3) := by decide +kernel
theorem dX12_readThing_74 : decode cX12_readThing 74 = .ok (.invokevirtual 267, 3) := by decide +kernel
theorem dX12_readThing_77 : decode cX12_readThing 77 = .ok (.iastore, 1) := by decide +kernel
theorem dX12_readThing_78 : decode cX12_readThing 78 = .ok (.aload_n 0, 1) := by decide +kernel
theorem dX12_readThing_79 : decode cX12_readThing 79 = .ok (.getfield 44, 3) := by decide +kernel
theorem dX12_readThing_82 : decode cX12_readThing 82 = .ok (.iload_n 1, 1) := by decide +kernel
theorem dX12_readThing_83 : decode cX12_readThing 83 = .ok (.aload_n 0, 1) := by decide +kernel
theorem dX12_readThing_84 : decode cX12_readThing 84 = .ok (.invokevirtual 279, 3) := by decide +kernel
theorem dX12_readThing_87 : decode cX12_readThing 87 = .ok (.iastore, 1) := by decide +kernel
theorem dX12_readThing_88 : decode cX12_readThing 88 = .ok (.aload_n 0, 1) := by decide +kernel
theorem dX12_readThing_89 : decode cX12_readThing 89 = .ok (.getfield 47, 3) := by decide +kernel
theorem dX12_readThing_92 : decode cX12_readThing 92 = .ok (.iload_n 1, 1) := by decide +kernel
theorem dX12_readThing_93 : decode cX12_readThing 93 = .ok (.iconst (-1), 1) := by decide +kernel
theorem dX12_readThing_94 : decode cX12_readThing 94 = .ok (.iastore, 1) := by decide +kernel
theorem dX12_readThing_95 : decode cX12_readThing 95 = .ok (.aload_n 0, 1) := by decide +kernel
theorem dX12_readThing_96 : decode cX12_readThing 96 = .ok (.getfield 50, 3) := by decide +kernel
theorem dX12_readThing_99 : decode cX12_readThing 99 = .ok (.iload_n 1, 1) := by decide +kernel
theorem dX12_readThing_100 : decode cX12_readThing 100 = .ok (.iconst 0, 1) := by decide +kernel
theorem dX12_readThing_101 : decode cX12_readThing 101 = .ok (.iastore, 1) := by decide +kernel
theorem dX12_readThing_102 : decode cX12_readThing 102 = .ok (.aload_n 0, 1) := by decide +kernel
theorem dX12_readThing_103 : decode cX12_readThing 103 = .ok (.ldc2_w 216, 3) := by decide +kernel
theorem dX12_readThing_106 : decode cX12_readThing 106 = .ok (.invokevirtual 200, 3) := by decide +kernel
theorem dX12_readThing_109 : decode cX12_readThing 109 = .ok (.ifCond .eq 36, 3) := by decide +kernel
theorem dX12_readThing_112 : decode cX12_readThing 112 = .ok (.aload_n 0, 1) := by decide +kernel
theorem dX12_readThing_113 : decode cX12_readThing 113 = .ok (.invokevirtual 204, 3) := by decide +kernel
theorem dX12_readThing_116 : decode cX12_readThing 116 = .ok (.aload_n 0, 1) := by decide +kernel
theorem dX12_readThing_117 : decode cX12_readThing 117 = .ok (.getfield 47, 3) := by decide +kernel
theorem dX12_readThing_120 : decode cX12_readThing 120 = .ok (.iload_n 1, 1) := by decide +kernel
theorem dX12_readThing_121 : decode cX12_readThing 121 = .ok (.aload_n 0, 1) := by decide +kernel
theorem dX12_readThing_122 : decode cX12_readThing 122 = .ok (.aload_n 0, 1) := by decide +kernel
theorem dX12_readThing_123 : decode cX12_readThing 123 = .ok (.getfield 41, 3) := by decide +kernel
theorem dX12_readThing_126 : decode cX12_readThing 126 = .ok (.iload_n 1, 1) := by decide +kernel
theorem dX12_readThing_127 : decode cX12_readThing 127 = .ok (.iaload, 1) := by decide +kernel
theorem dX12_readThing_128 : decode cX12_readThing 128 = .ok (.sipush 3599, 3) := by decide +kernel
theorem dX12_readThing_131 : decode cX12_readThing 131 = .ok (.invokevirtual 267, 3) := by decide +kernel
theorem dX12_readThing_134 : decode cX12_readThing 134 = .ok (.iastore, 1) := by decide +kernel
theorem dX12_readThing_135 : decode cX12_readThing 135 = .ok (.aload_n 0, 1) := by decide +kernel
theorem dX12_readThing_136 : decode cX12_readThing 136 = .ok (.getfield 50, 3) := by decide +kernel
theorem dX12_readThing_139 : decode cX12_readThing 139 = .ok (.iload_n 1, 1) := by decide +kernel
theorem dX12_readThing_140 : decode cX12_readThing 140 = .ok (.aload_n 0, 1) := by decide +kernel
theorem dX12_readThing_141 : decode cX12_readThing 141 = .ok (.invokevirtual 279, 3) := by decide +kernel
theorem dX12_readThing_144 : decode cX12_readThing 144 = .ok (.iastore, 1) := by decide +kernel
theorem dX12_readThing_145 : decode cX12_readThing 145 = .ok (.aload_n 0, 1) := by decide +kernel
theorem dX12_readThing_146 : decode cX12_readThing 146 = .ok (.getfield 7, 3) := by decide +kernel
theorem dX12_readThing_149 : decode cX12_readThing 149 = .ok (.aload_n 0, 1) := by decide +kernel
theorem dX12_readThing_150 : decode cX12_readThing 150 = .ok (.getfield 260, 3) := by decide +kernel
theorem dX12_readThing_153 : decode cX12_readThing 153 = .ok (.dup2, 1) := by decide +kernel
theorem dX12_readThing_154 : decode cX12_readThing 154 = .ok (.iaload, 1) := by decide +kernel
theorem dX12_readThing_155 : decode cX12_readThing 155 = .ok (.iconst 1, 1) := by decide +kernel
theorem dX12_readThing_156 : decode cX12_readThing 156 = .ok (.iadd, 1) := by decide +kernel
theorem dX12_readThing_157 : decode cX12_readThing 157 = .ok (.iastore, 1) := by decide +kernel
theorem dX12_readThing_158 : decode cX12_readThing 158 = .ok (.return_, 1) := by decide +kernel
theorem dX12_readTree_0 : decode cX12_readTree 0 = .ok (.bipush 6, 2) := by decide +kernel
theorem dX12_readTree_2 : decode cX12_readTree 2 = .ok (.aload_n 0, 1) := by decide +kernel
theorem dX12_readTree_3 : decode cX12_readTree 3 = .ok (.getfield 260, 3) := by decide +kernel
theorem dX12_readTree_6 : decode cX12_readTree 6 = .ok (.imul, 1) := by decide +kernel
theorem dX12_readTree_7 : decode cX12_readTree 7 = .ok (.aload_n 0, 1) := by decide +kernel
theorem dX12_readTree_8 : decode cX12_readTree 8 = .ok (.getfield 13, 3) := by decide +kernel
theorem dX12_readTree_11 : decode cX12_readTree 11 = .ok (.aload_n 0, 1) := by decide +kernel
theorem dX12_readTree_12 : decode cX12_readTree 12 = .ok (.getfield 260, 3) := by decide +kernel
theorem dX12_readTree_15 : decode cX12_readTree 15 = .ok (.iaload, 1) := by decide +kernel
theorem dX12_readTree_16 : decode cX12_readTree 16 = .ok (.iadd, 1) := by decide +kernel
theorem dX12_readTree_17 : decode cX12_readTree 17 = .ok (.istore_n 1, 1) := by decide +kernel
theorem dX12_readTree_18 : decode cX12_readTree 18 = .ok (.aload_n 0, 1) := by decide +kernel
theorem dX12_readTree_19 : decode cX12_readTree 19 = .ok (.aload_n 0, 1) := by decide +kernel
theorem dX12_readTree_20 : decode cX12_readTree 20 = .ok (.getfield 13, 3) := by decide +kernel
theorem dX12_readTree_23 : decode cX12_readTree 23 = .ok (.aload_n 0, 1) := by decide +kernel
theorem dX12_readTree_24 : decode cX12_readTree 24 = .ok (.getfield 260, 3) := by decide +kernel
theorem dX12_readTree_27 : decode cX12_readTree 27 = .ok (.iaload, 1) := by decide +kernel
theorem dX12_readTree_28 : decode cX12_readTree 28 = .ok (.bipush 6, 2) := by decide +kernel
theorem dX12_readTree_30 : decode cX12_readTree 30 = .ok (.if_icmp .ge 7, 3) := by decide +kernel
theorem dX12_readTree_33 : decode cX12_readTree 33 = .ok (.iconst 1, 1) := by decide +kernel
theorem dX12_readTree_34 : decode cX12_readTree 34 = .ok (.goto 4, 3) := by decide +kernel
theorem dX12_readTree_37 : decode cX12_readTree 37 = .ok (.iconst 0, 1) := by decide +kernel
theorem dX12_readTree_38 : decode cX12_readTree 38 = .ok (.invokevirtual 271, 3) := by decide +kernel
theorem dX12_readTree_41 : decode cX12_readTree 41 = .ok (.lstore_n 2, 1) := by decide +kernel
theorem dX12_readTree_42 : decode cX12_readTree 42 = .ok (.aload_n 0, 1) := by decide +kernel
theorem dX12_readTree_43 : decode cX12_readTree 43 = .ok (.getfield 196, 3) := by decide +kernel
theorem dX12_readTree_46 : decode cX12_readTree 46 = .ok (.ifCond .eq 4, 3) := by decide +kernel
theorem dX12_readTree_49 : decode cX12_readTree 49 = .ok (.return_, 1) := by decide +kernel
theorem dX12_readTree_50 : decode cX12_readTree 50 = .ok (.aload_n 0, 1) := by decide +kernel
theorem dX12_readTree_51 : decode cX12_readTree 51 = .ok (.getfield 32, 3) := by decide +kernel
theorem dX12_readTree_54 : decode cX12_readTree 54 = .ok (.iload_n 1, 1) := by decide +kernel
theorem dX12_readTree_55 : decode cX12_readTree 55 = .ok (.lload_n 2, 1) := by decide +kernel
theorem dX12_readTree_56 : decode cX12_readTree 56 = .ok (.lastore, 1) := by decide +kernel
theorem dX12_readTree_57 : decode cX12_readTree 57 = .ok (.aload_n 0, 1) := by decide +kernel
theorem dX12_readTree_58 : decode cX12_readTree 58 = .ok (.ldc2_w 220, 3) := by decide +kernel
theorem dX12_readTree_61 : decode cX12_readTree 61 = .ok (.invokevirtual 275, 3) := by decide +kernel
theorem dX12_readTree_64 : decode cX12_readTree 64 = .ok (.aload_n 0, 1) := by decide +kernel
theorem dX12_readTree_65 : decode cX12_readTree 65 = .ok (.getfield 53, 3) := by decide +kernel
theorem dX12_readTree_68 : decode cX12_readTree 68 = .ok (.iload_n 1, 1) := by decide +kernel
theorem dX12_readTree_69 : decode cX12_readTree 69 = .ok (.aload_n 0, 1) := by decide +kernel
theorem dX12_readTree_70 : decode cX12_readTree 70 = .ok (.iconst 0, 1) := by decide +kernel
theorem dX12_readTree_71 : decode cX12_readTree 71 = .ok (.sipush 359, 3) := by decide +kernel
theorem dX12_readTree_74 : decode cX12_readTree 74 = .ok (.invokevirtual 267, 3) := by decide +kernel
theorem dX12_readTree_77 : decode cX12_readTree 77 = .ok (.iastore, 1) := by decide +kernel
theorem dX12_readTree_78 : decode cX12_readTree 78 = .ok (.aload_n 0, 1) := by decide +kernel
theorem dX12_readTree_79 : decode cX12_readTree 79 = .ok (.ldc2_w 222, 3) := by decide +kernel
theorem dX12_readTree_82 : decode cX12_readTree 82 = .ok (.invokevirtual 275, 3) := by decide +kernel
theorem dX12_readTree_85 : decode cX12_readTree 85 = .ok (.aload_n 0, 1) := by decide +kernel
theorem dX12_readTree_86 : decode cX12_readTree 86 = .ok (.getfield 56, 3) := by decide +kernel
theorem dX12_readTree_89 : decode cX12_readTree 89 = .ok (.iload_n 1, 1) := by decide +kernel
theorem dX12_readTree_90 : decode cX12_readTree 90 = .ok (.aload_n 0, 1) := by decide +kernel
theorem dX12_readTree_91 : decode cX12_readTree 91 = .ok (.getfield 183, 3) := by decide +kernel
theorem dX12_readTree_94 : decode cX12_readTree 94 = .ok (.iastore, 1) := by decide +kernel
theorem dX12_readTree_95 : decode cX12_readTree 95 = .ok (.aload_n 0, 1) := by decide +kernel
theorem dX12_readTree_96 : decode cX12_readTree 96 = .ok (.getfield 196, 3) := by decide +kernel
theorem dX12_readTree_99 : decode cX12_readTree 99 = .ok (.ifCond .ne 28, 3) := by decide +kernel
theorem dX12_readTree_102 : decode cX12_readTree 102 = .ok (.aload_n 0, 1) := by decide +kernel
theorem dX12_readTree_103 : decode cX12_readTree 103 = .ok (.getfield 186, 3) := by decide +kernel
theorem dX12_readTree_106 : decode cX12_readTree 106 = .ok (.iconst 2, 1) := by decide +kernel
theorem dX12_readTree_107 : decode cX12_readTree 107 = .ok (.if_icmp .ne 20, 3) := by decide +kernel
theorem dX12_readTree_110 : decode cX12_readTree 110 = .ok (.aload_n 0, 1) := by decide +kernel
theorem dX12_readTree_111 : decode cX12_readTree 111 = .ok (.getfield 183, 3) := by decide +kernel
theorem dX12_readTree_114 : decode cX12_readTree 114 = .ok (.aload_n 0, 1) := by decide +kernel
theorem dX12_readTree_115 : decode cX12_readTree 115 = .ok (.getfield 53, 3) := by decide +kernel
theorem dX12_readTree_118 : decode cX12_readTree 118 = .ok (.iload_n 1, 1) := by decide +kernel
theorem dX12_readTree_119 : decode cX12_readTree 119 = .ok (.iaload, 1) := by decide +kernel
theorem dX12_readTree_120 : decode cX12_readTree 120 = .ok (.if_icmp .ne 7, 3) := by decide +kernel
theorem dX12_readTree_123 : decode cX12_readTree 123 = .ok (.aload_n 0, 1) := by decide +kernel
theorem dX12_readTree_124 : decode cX12_readTree 124 = .ok (.invokevirtual 207, 3) := by decide +kernel
theorem dX12_readTree_127 : decode cX12_readTree 127 = .ok (.aload_n 0, 1) := by decide +kernel
theorem dX12_readTree_128 : decode cX12_readTree 128 = .ok (.getfield 56, 3) := by decide +kernel
theorem dX12_readTree_131 : decode cX12_readTree 131 = .ok (.iload_n 1, 1) := by decide +kernel
theorem dX12_readTree_132 : decode cX12_readTree 132 = .ok (.aload_n 0, 1) := by decide +kernel
theorem dX12_readTree_133 : decode cX12_readTree 133 = .ok (.iconst 0, 1) := by decide +kernel
theorem dX12_readTree_134 : decode cX12_readTree 134 = .ok (.sipush 359, 3) := by decide +kernel
theorem dX12_readTree_137 : decode cX12_readTree 137 = .ok (.invokevirtual 267, 3) := by decide +kernel
theorem dX12_readTree_140 : decode cX12_readTree 140 = .ok (.iastore, 1) := by decide +kernel
theorem dX12_readTree_141 : decode cX12_readTree 141 = .ok (.aload_n 0, 1) := by decide +kernel
theorem dX12_readTree_142 : decode cX12_readTree 142 = .ok (.getfield 13, 3) := by decide +kernel
theorem dX12_readTree_145 : decode cX12_readTree 145 = .ok (.aload_n 0, 1) := by decide +kernel
theorem dX12_readTree_146 : decode cX12_readTree 146 = .ok (.getfield 260, 3) := by decide +kernel
theorem dX12_readTree_149 : decode cX12_readTree 149 = .ok (.dup2, 1) := by decide +kernel
theorem dX12_readTree_150 : decode cX12_readTree 150 = .ok (.iaload, 1) := by decide +kernel
theorem dX12_readTree_151 : decode cX12_readTree 151 = .ok (.iconst 1, 1) := by decide +kernel
theorem dX12_readTree_152 : decode cX12_readTree 152 = .ok (.iadd, 1) := by decide +kernel
theorem dX12_readTree_153 : decode cX12_readTree 153 = .ok (.iastore, 1) := by decide +kernel
theorem dX12_readTree_154 : decode cX12_readTree 154 = .ok (.return_, 1) := by decide +kernel
theorem dX12_readPost_0 : decode cX12_readPost 0 = .ok (.bipush 10, 2) := by decide +kernel
theorem dX12_readPost_2 : decode cX12_readPost 2 = .ok (.aload_n 0, 1) := by decide +kernel
theorem dX12_readPost_3 : decode cX12_readPost 3 = .ok (.getfield 260, 3) := by decide +kernel
theorem dX12_readPost_6 : decode cX12_readPost 6 = .ok (.imul, 1) := by decide +kernel
theorem dX12_readPost_7 : decode cX12_readPost 7 = .ok (.aload_n 0, 1) := by decide +kernel
theorem dX12_readPost_8 : decode cX12_readPost 8 = .ok (.getfield 16, 3) := by decide +kernel
theorem dX12_readPost_11 : decode cX12_readPost 11 = .ok (.aload_n 0, 1) := by decide +kernel
theorem dX12_readPost_12 : decode cX12_readPost 12 = .ok (.getfield 260, 3) := by decide +kernel
theorem dX12_readPost_15 : decode cX12_readPost 15 = .ok (.iaload, 1) := by decide +kernel
theorem dX12_readPost_16 : decode cX12_readPost 16 = .ok (.iadd, 1) := by decide +kernel
theorem dX12_readPost_17 : decode cX12_readPost 17 = .ok (.istore_n 1, 1) := by decide +kernel
theorem dX12_readPost_18 : decode cX12_readPost 18 = .ok (.aload_n 0, 1) := by decide +kernel
theorem dX12_readPost_19 : decode cX12_readPost 19 = .ok (.aload_n 0, 1) := by decide +kernel
theorem dX12_readPost_20 : decode cX12_readPost 20 = .ok (.getfield 16, 3) := by decide +kernel
theorem dX12_readPost_23 : decode cX12_readPost 23 = .ok (.aload_n 0, 1) := by decide +kernel
theorem dX12_readPost_24 : decode cX12_readPost 24 = .ok (.getfield 260, 3) := by decide +kernel
theorem dX12_readPost_27 : decode cX12_readPost 27 = .ok (.iaload, 1) := by decide +kernel
theorem dX12_readPost_28 : decode cX12_readPost 28 = .ok (.bipush 10, 2) := by decide +kernel
theorem dX12_readPost_30 : decode cX12_readPost 30 = .ok (.if_icmp .ge 7, 3) := by decide +kernel
theorem dX12_readPost_33 : decode cX12_readPost 33 = .ok (.iconst 1, 1) := by decide +kernel
theorem dX12_readPost_34 : decode cX12_readPost 34 = .ok (.goto 4, 3) := by decide +kernel
theorem dX12_readPost_37 : decode cX12_readPost 37 = .ok (.iconst 0, 1) := by decide +kernel
theorem dX12_readPost_38 : decode cX12_readPost 38 = .ok (.invokevirtual 271, 3) := by decide +kernel
theorem dX12_readPost_41 : decode cX12_readPost 41 = .ok (.lstore_n 2, 1) := by decide +kernel
theorem dX12_readPost_42 : decode cX12_readPost 42 = .ok (.aload_n 0, 1) := by decide +kernel
theorem dX12_readPost_43 : decode cX12_readPost 43 = .ok (.getfield 196, 3) := by decide +kernel
theorem dX12_readPost_46 : decode cX12_readPost 46 = .ok (.ifCond .eq 4, 3) := by decide +kernel
theorem dX12_readPost_49 : decode cX12_readPost 49 = .ok (.return_, 1) := by decide +kernel
theorem dX12_readPost_50 : decode cX12_readPost 50 = .ok (.aload_n 0, 1) := by decide +kernel
theorem dX12_readPost_51 : decode cX12_readPost 51 = .ok (.getfield 35, 3) := by decide +kernel
theorem dX12_readPost_54 : decode cX12_readPost 54 = .ok (.iload_n 1, 1) := by decide +kernel
theorem dX12_readPost_55 : decode cX12_readPost 55 = .ok (.lload_n 2, 1) := by decide +kernel
theorem dX12_readPost_56 : decode cX12_readPost 56 = .ok (.lastore, 1) := by decide +kernel
theorem dX12_readPost_57 : decode cX12_readPost 57 = .ok (.aload_n 0, 1) := by decide +kernel
theorem dX12_readPost_58 : decode cX12_readPost 58 = .ok (.getfield 59, 3) := by decide +kernel
theorem dX12_readPost_61 : decode cX12_readPost 61 = .ok (.iload_n 1, 1) := by decide +kernel
theorem dX12_readPost_62 : decode cX12_readPost 62 = .ok (.aload_n 0, 1) := by decide +kernel
theorem dX12_readPost_63 : decode cX12_readPost 63 = .ok (.iconst 0, 1) := by decide +kernel
theorem dX12_readPost_64 : decode cX12_readPost 64 = .ok (.bipush 31, 2) := by decide +kernel
theorem dX12_readPost_66 : decode cX12_readPost 66 = .ok (.invokevirtual 267, 3) := by decide +kernel
theorem dX12_readPost_69 : decode cX12_readPost 69 = .ok (.iastore, 1) := by decide +kernel
theorem dX12_readPost_70 : decode cX12_readPost 70 = .ok (.aload_n 0, 1) := by decide +kernel
theorem dX12_readPost_71 : decode cX12_readPost 71 = .ok (.getfield 62, 3) := by decide +kernel
theorem dX12_readPost_74 : decode cX12_readPost 74 = .ok (.iload_n 1, 1) := by decide +kernel
theorem dX12_readPost_75 : decode cX12_readPost 75 = .ok (.aload_n 0, 1) := by decide +kernel
theorem dX12_readPost_76 : decode cX12_readPost 76 = .ok (.iconst 0, 1) := by decide +kernel
theorem dX12_readPost_77 : decode cX12_readPost 77 = .ok (.bipush 31, 2) := by decide +kernel
theorem dX12_readPost_79 : decode cX12_readPost 79 = .ok (.invokevirtual 267, 3) := by decide +kernel
theorem dX12_readPost_82 : decode cX12_readPost 82 = .ok (.iastore, 1) := by decide +kernel
theorem dX12_readPost_83 : decode cX12_readPost 83 = .ok (.aload_n 0, 1) := by decide +kernel
theorem dX12_readPost_84 : decode cX12_readPost 84 = .ok (.getfield 65, 3) := by decide +kernel
theorem dX12_readPost_87 : decode cX12_readPost 87 = .ok (.iload_n 1, 1) := by decide +kernel
theorem dX12_readPost_88 : decode cX12_readPost 88 = .ok (.aload_n 0, 1) := by decide +kernel
theorem dX12_readPost_89 : decode cX12_readPost 89 = .ok (.iconst 1, 1) := by decide +kernel
theorem dX12_readPost_90 : decode cX12_readPost 90 = .ok (.bipush 20, 2) := by decide +kernel
theorem dX12_readPost_92 : decode cX12_readPost 92 = .ok (.invokevirtual 267, 3) := by decide +kernel
theorem dX12_readPost_95 : decode cX12_readPost 95 = .ok (.iastore, 1) := by decide +kernel
theorem dX12_readPost_96 : decode cX12_readPost 96 = .ok (.aload_n 0, 1) := by decide +kernel
theorem dX12_readPost_97 : decode cX12_readPost 97 = .ok (.getfield 16, 3) := by decide +kernel
theorem dX12_readPost_100 : decode cX12_readPost 100 = .ok (.aload_n 0, 1) := by decide +kernel
theorem dX12_readPost_101 : decode cX12_readPost 101 = .ok (.getfield 260, 3) := by decide +kernel
theorem dX12_readPost_104 : decode cX12_readPost 104 = .ok (.dup2, 1) := by decide +kernel
theorem dX12_readPost_105 : decode cX12_readPost 105 = .ok (.iaload, 1) := by decide +kernel
theorem dX12_readPost_106 : decode cX12_readPost 106 = .ok (.iconst 1, 1) := by decide +kernel
theorem dX12_readPost_107 : decode cX12_readPost 107 = .ok (.iadd, 1) := by decide +kernel
theorem dX12_readPost_108 : decode cX12_readPost 108 = .ok (.iastore, 1) := by decide +kernel
theorem dX12_readPost_109 : decode cX12_readPost 109 = .ok (.return_, 1) := by decide +kernel
theorem dX12_readClock_0 : decode cX12_readClock 0 = .ok (.iconst 4, 1) := by decide +kernel
theorem dX12_readClock_1 : decode cX12_readClock 1 = .ok (.aload_n 0, 1) := by decide +kernel
theorem dX12_readClock_2 : decode cX12_readClock 2 = .ok (.getfield 260, 3) := by decide +kernel
theorem dX12_readClock_5 : decode cX12_readClock 5 = .ok (.imul, 1) := by decide +kernel
theorem dX12_readClock_6 : decode cX12_readClock 6 = .ok (.aload_n 0, 1) := by decide +kernel
theorem dX12_readClock_7 : decode cX12_readClock 7 = .ok (.getfield 19, 3) := by decide +kernel
theorem dX12_readClock_10 : decode cX12_readClock 10 = .ok (.aload_n 0, 1) := by decide +kernel
theorem dX12_readClock_11 : decode cX12_readClock 11 = .ok (.getfield 260, 3) := by decide +kernel
theorem dX12_readClock_14 : decode cX12_readClock 14 = .ok (.iaload, 1) := by decide +kernel
theorem dX12_readClock_15 : decode cX12_readClock 15 = .ok (.iadd, 1) := by decide +kernel
theorem dX12_readClock_16 : decode cX12_readClock 16 = .ok (.istore_n 1, 1) := by decide +kernel
theorem dX12_readClock_17 : decode cX12_readClock 17 = .ok (.aload_n 0, 1) := by decide +kernel
theorem dX12_readClock_18 : decode cX12_readClock 18 = .ok (.aload_n 0, 1) := by decide +kernel
theorem dX12_readClock_19 : decode cX12_readClock 19 = .ok (.getfield 19, 3) := by decide +kernel
theorem dX12_readClock_22 : decode cX12_readClock 22 = .ok (.aload_n 0, 1) := by decide +kernel
theorem dX12_readClock_23 : decode cX12_readClock 23 = .ok (.getfield 260, 3) := by decide +kernel
theorem dX12_readClock_26 : decode cX12_readClock 26 = .ok (.iaload, 1) := by decide +kernel
theorem dX12_readClock_27 : decode cX12_readClock 27 = .ok (.iconst 4, 1) := by decide +kernel
theorem dX12_readClock_28 : decode cX12_readClock 28 = .ok (.if_icmp .ge 7, 3) := by decide +kernel
theorem dX12_readClock_31 : decode cX12_readClock 31 = .ok (.iconst 1, 1) := by decide +kernel
theorem dX12_readClock_32 : decode cX12_readClock 32 = .ok (.goto 4, 3) := by decide +kernel
theorem dX12_readClock_35 : decode cX12_readClock 35 = .ok (.iconst 0, 1) := by decide +kernel
theorem dX12_readClock_36 : decode cX12_readClock 36 = .ok (.invokevirtual 271, 3) := by decide +kernel
theorem dX12_readClock_39 : decode cX12_readClock 39 = .ok (.lstore_n 2, 1) := by decide +kernel
theorem dX12_readClock_40 : decode cX12_readClock 40 = .ok (.aload_n 0, 1) := by decide +kernel
theorem dX12_readClock_41 : decode cX12_readClock 41 = .ok (.getfield 196, 3) := by decide +kernel
theorem dX12_readClock_44 : decode cX12_readClock 44 = .ok (.ifCond .eq 4, 3) := by decide +kernel
theorem dX12_readClock_47 : decode cX12_readClock 47 = .ok (.return_, 1) := by decide +kernel
theorem dX12_readClock_48 : decode cX12_readClock 48 = .ok (.aload_n 0, 1) := by decide +kernel
theorem dX12_readClock_49 : decode cX12_readClock 49 = .ok (.getfield 38, 3) := by decide +kernel
theorem dX12_readClock_52 : decode cX12_readClock 52 = .ok (.iload_n 1, 1) := by decide +kernel
theorem dX12_readClock_53 : decode cX12_readClock 53 = .ok (.lload_n 2, 1) := by decide +kernel
theorem dX12_readClock_54 : decode cX12_readClock 54 = .ok (.lastore, 1) := by decide +kernel
theorem dX12_readClock_55 : decode cX12_readClock 55 = .ok (.aload_n 0, 1) := by decide +kernel
theorem dX12_readClock_56 : decode cX12_readClock 56 = .ok (.ldc2_w 228, 3) := by decide +kernel
theorem dX12_readClock_59 : decode cX12_readClock 59 = .ok (.invokevirtual 275, 3) := by decide +kernel
theorem dX12_readClock_62 : decode cX12_readClock 62 = .ok (.aload_n 0, 1) := by decide +kernel
theorem dX12_readClock_63 : decode cX12_readClock 63 = .ok (.getfield 68, 3) := by decide +kernel
theorem dX12_readClock_66 : decode cX12_readClock 66 = .ok (.iload_n 1, 1) := by decide +kernel
theorem dX12_readClock_67 : decode cX12_readClock 67 = .ok (.aload_n 0, 1) := by decide +kernel
theorem dX12_readClock_68 : decode cX12_readClock 68 = .ok (.iconst 0, 1) := by decide +kernel
theorem dX12_readClock_69 : decode cX12_readClock 69 = .ok (.bipush 99, 2) := by decide +kernel
theorem dX12_readClock_71 : decode cX12_readClock 71 = .ok (.invokevirtual 267, 3) := by decide +kernel
theorem dX12_readClock_74 : decode cX12_readClock 74 = .ok (.iastore, 1) := by decide +kernel
theorem dX12_readClock_75 : decode cX12_readClock 75 = .ok (.aload_n 0, 1) := by decide +kernel
theorem dX12_readClock_76 : decode cX12_readClock 76 = .ok (.ldc2_w 230, 3) := by decide +kernel
theorem dX12_readClock_79 : decode cX12_readClock 79 = .ok (.invokevirtual 275, 3) := by decide +kernel
theorem dX12_readClock_82 : decode cX12_readClock 82 = .ok (.aload_n 0, 1) := by decide +kernel
theorem dX12_readClock_83 : decode cX12_readClock 83 = .ok (.getfield 71, 3) := by decide +kernel
theorem dX12_readClock_86 : decode cX12_readClock 86 = .ok (.iload_n 1, 1) := by decide +kernel
theorem dX12_readClock_87 : decode cX12_readClock 87 = .ok (.aload_n 0, 1) := by decide +kernel
theorem dX12_readClock_88 : decode cX12_readClock 88 = .ok (.iconst 0, 1) := by decide +kernel
theorem dX12_readClock_89 : decode cX12_readClock 89 = .ok (.bipush 99, 2) := by decide +kernel
theorem dX12_readClock_91 : decode cX12_readClock 91 = .ok (.invokevirtual 267, 3) := by decide +kernel
theorem dX12_readClock_94 : decode cX12_readClock 94 = .ok (.iastore, 1) := by decide +kernel
theorem dX12_readClock_95 : decode cX12_readClock 95 = .ok (.aload_n 0, 1) := by decide +kernel
theorem dX12_readClock_96 : decode cX12_readClock 96 = .ok (.getfield 19, 3) := by decide +kernel
theorem dX12_readClock_99 : decode cX12_readClock 99 = .ok (.aload_n 0, 1) := by decide +kernel
theorem dX12_readClock_100 : decode cX12_readClock 100 = .ok (.getfield 260, 3) := by decide +kernel
theorem dX12_readClock_103 : decode cX12_readClock 103 = .ok (.dup2, 1) := by decide +kernel
theorem dX12_readClock_104 : decode cX12_readClock 104 = .ok (.iaload, 1) := by decide +kernel
theorem dX12_readClock_105 : decode cX12_readClock 105 = .ok (.iconst 1, 1) := by decide +kernel
theorem dX12_readClock_106 : decode cX12_readClock 106 = .ok (.iadd, 1) := by decide +kernel
theorem dX12_readClock_107 : decode cX12_readClock 107 = .ok (.iastore, 1) := by decide +kernel
theorem dX12_readClock_108 : decode cX12_readClock 108 = .ok (.return_, 1) := by decide +kernel
theorem dX12_falls_0 : decode cX12_falls 0 = .ok (.aload_n 0, 1) := by decide +kernel
theorem dX12_falls_1 : decode cX12_falls 1 = .ok (.lload_n 1, 1) := by decide +kernel
theorem dX12_falls_2 : decode cX12_falls 2 = .ok (.invokevirtual 200, 3) := by decide +kernel
theorem dX12_falls_5 : decode cX12_falls 5 = .ok (.istore 5, 2) := by decide +kernel
theorem dX12_falls_7 : decode cX12_falls 7 = .ok (.iload 5, 2) := by decide +kernel
theorem dX12_falls_9 : decode cX12_falls 9 = .ok (.ifCond .ne 17, 3) := by decide +kernel
theorem dX12_falls_12 : decode cX12_falls 12 = .ok (.aload_n 0, 1) := by decide +kernel
theorem dX12_falls_13 : decode cX12_falls 13 = .ok (.lload_n 3, 1) := by decide +kernel
theorem dX12_falls_14 : decode cX12_falls 14 = .ok (.invokevirtual 200, 3) := by decide +kernel
theorem dX12_falls_17 : decode cX12_falls 17 = .ok (.ifCond .ne 9, 3) := by decide +kernel
theorem dX12_falls_20 : decode cX12_falls 20 = .ok (.aload_n 0, 1) := by decide +kernel
theorem dX12_falls_21 : decode cX12_falls 21 = .ok (.invokevirtual 207, 3) := by decide +kernel
theorem dX12_falls_24 : decode cX12_falls 24 = .ok (.iconst 0, 1) := by decide +kernel
theorem dX12_falls_25 : decode cX12_falls 25 = .ok (.ireturn, 1) := by decide +kernel
theorem dX12_falls_26 : decode cX12_falls 26 = .ok (.aload_n 0, 1) := by decide +kernel
theorem dX12_falls_27 : decode cX12_falls 27 = .ok (.invokevirtual 204, 3) := by decide +kernel
theorem dX12_falls_30 : decode cX12_falls 30 = .ok (.aload_n 0, 1) := by decide +kernel
theorem dX12_falls_31 : decode cX12_falls 31 = .ok (.iconst 0, 1) := by decide +kernel
theorem dX12_falls_32 : decode cX12_falls 32 = .ok (.bipush 99, 2) := by decide +kernel
theorem dX12_falls_34 : decode cX12_falls 34 = .ok (.invokevirtual 267, 3) := by decide +kernel
theorem dX12_falls_37 : decode cX12_falls 37 = .ok (.istore 6, 2) := by decide +kernel
theorem dX12_falls_39 : decode cX12_falls 39 = .ok (.iload 5, 2) := by decide +kernel
theorem dX12_falls_41 : decode cX12_falls 41 = .ok (.ifCond .eq 8, 3) := by decide +kernel
theorem dX12_falls_44 : decode cX12_falls 44 = .ok (.iload 6, 2) := by decide +kernel
theorem dX12_falls_46 : decode cX12_falls 46 = .ok (.goto 6, 3) := by decide +kernel
theorem dX12_falls_49 : decode cX12_falls 49 = .ok (.iload 6, 2) := by decide +kernel
theorem dX12_falls_51 : decode cX12_falls 51 = .ok (.ineg, 1) := by decide +kernel
theorem dX12_falls_52 : decode cX12_falls 52 = .ok (.ireturn, 1) := by decide +kernel
theorem dX12_lastMinute_0 : decode cX12_lastMinute 0 = .ok (.iconst (-1), 1) := by decide +kernel
theorem dX12_lastMinute_1 : decode cX12_lastMinute 1 = .ok (.istore_n 2, 1) := by decide +kernel
theorem dX12_lastMinute_2 : decode cX12_lastMinute 2 = .ok (.bipush 40, 2) := by decide +kernel
