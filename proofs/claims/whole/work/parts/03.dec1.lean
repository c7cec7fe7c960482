theorem dX6_rivals_32 : decode cX6_rivals 32 = .ok (.iload_n 1, 1) := by decide +kernel
theorem dX6_rivals_33 : decode cX6_rivals 33 = .ok (.iload 4, 2) := by decide +kernel
theorem dX6_rivals_35 : decode cX6_rivals 35 = .ok (.iconst (-1), 1) := by decide +kernel
theorem dX6_rivals_36 : decode cX6_rivals 36 = .ok (.ixor, 1) := by decide +kernel
theorem dX6_rivals_37 : decode cX6_rivals 37 = .ok (.iand, 1) := by decide +kernel
theorem dX6_rivals_38 : decode cX6_rivals 38 = .ok (.iaload, 1) := by decide +kernel
theorem dX6_rivals_39 : decode cX6_rivals 39 = .ok (.iconst 1, 1) := by decide +kernel
theorem dX6_rivals_40 : decode cX6_rivals 40 = .ok (.if_icmp .ne 15, 3) := by decide +kernel
theorem dX6_rivals_43 : decode cX6_rivals 43 = .ok (.iload 4, 2) := by decide +kernel
theorem dX6_rivals_45 : decode cX6_rivals 45 = .ok (.invokestatic 66, 3) := by decide +kernel
theorem dX6_rivals_48 : decode cX6_rivals 48 = .ok (.iload_n 2, 1) := by decide +kernel
theorem dX6_rivals_49 : decode cX6_rivals 49 = .ok (.if_icmp .ne 6, 3) := by decide +kernel
theorem dX6_rivals_52 : decode cX6_rivals 52 = .ok (.iinc 3 1, 3) := by decide +kernel
theorem dX6_rivals_55 : decode cX6_rivals 55 = .ok (.iinc 4 1, 3) := by decide +kernel
theorem dX6_rivals_58 : decode cX6_rivals 58 = .ok (.goto (-36), 3) := by decide +kernel
theorem dX6_rivals_61 : decode cX6_rivals 61 = .ok (.iload_n 3, 1) := by decide +kernel
theorem dX6_rivals_62 : decode cX6_rivals 62 = .ok (.ireturn, 1) := by decide +kernel
theorem dX6_noteDays_0 : decode cX6_noteDays 0 = .ok (.aload_n 0, 1) := by decide +kernel
theorem dX6_noteDays_1 : decode cX6_noteDays 1 = .ok (.dup, 1) := by decide +kernel
theorem dX6_noteDays_2 : decode cX6_noteDays 2 = .ok (.getfield 75, 3) := by decide +kernel
theorem dX6_noteDays_5 : decode cX6_noteDays 5 = .ok (.iconst 1, 1) := by decide +kernel
theorem dX6_noteDays_6 : decode cX6_noteDays 6 = .ok (.iadd, 1) := by decide +kernel
theorem dX6_noteDays_7 : decode cX6_noteDays 7 = .ok (.putfield 75, 3) := by decide +kernel
theorem dX6_noteDays_10 : decode cX6_noteDays 10 = .ok (.iload_n 2, 1) := by decide +kernel
theorem dX6_noteDays_11 : decode cX6_noteDays 11 = .ok (.istore_n 3, 1) := by decide +kernel
theorem dX6_noteDays_12 : decode cX6_noteDays 12 = .ok (.iload_n 3, 1) := by decide +kernel
theorem dX6_noteDays_13 : decode cX6_noteDays 13 = .ok (.bipush 120, 2) := by decide +kernel
theorem dX6_noteDays_15 : decode cX6_noteDays 15 = .ok (.if_icmp .ge 50, 3) := by decide +kernel
theorem dX6_noteDays_18 : decode cX6_noteDays 18 = .ok (.iconst 0, 1) := by decide +kernel
theorem dX6_noteDays_19 : decode cX6_noteDays 19 = .ok (.istore 4, 2) := by decide +kernel
theorem dX6_noteDays_21 : decode cX6_noteDays 21 = .ok (.iload 4, 2) := by decide +kernel
theorem dX6_noteDays_23 : decode cX6_noteDays 23 = .ok (.aload_n 0, 1) := by decide +kernel
theorem dX6_noteDays_24 : decode cX6_noteDays 24 = .ok (.getfield 40, 3) := by decide +kernel
theorem dX6_noteDays_27 : decode cX6_noteDays 27 = .ok (.if_icmp .ge 28, 3) := by decide +kernel
theorem dX6_noteDays_30 : decode cX6_noteDays 30 = .ok (.aload_n 0, 1) := by decide +kernel
theorem dX6_noteDays_31 : decode cX6_noteDays 31 = .ok (.getfield 21, 3) := by decide +kernel
theorem dX6_noteDays_34 : decode cX6_noteDays 34 = .ok (.iload 4, 2) := by decide +kernel
theorem dX6_noteDays_36 : decode cX6_noteDays 36 = .ok (.aload_n 0, 1) := by decide +kernel
theorem dX6_noteDays_37 : decode cX6_noteDays 37 = .ok (.getfield 24, 3) := by decide +kernel
theorem dX6_noteDays_40 : decode cX6_noteDays 40 = .ok (.aload_n 1, 1) := by decide +kernel
theorem dX6_noteDays_41 : decode cX6_noteDays 41 = .ok (.iload 4, 2) := by decide +kernel
theorem dX6_noteDays_43 : decode cX6_noteDays 43 = .ok (.iload_n 3, 1) := by decide +kernel
theorem dX6_noteDays_44 : decode cX6_noteDays 44 = .ok (.iconst 0, 1) := by decide +kernel
theorem dX6_noteDays_45 : decode cX6_noteDays 45 = .ok (.invokevirtual 78, 3) := by decide +kernel
theorem dX6_noteDays_48 : decode cX6_noteDays 48 = .ok (.iastore, 1) := by decide +kernel
theorem dX6_noteDays_49 : decode cX6_noteDays 49 = .ok (.iinc 4 1, 3) := by decide +kernel
theorem dX6_noteDays_52 : decode cX6_noteDays 52 = .ok (.goto (-31), 3) := by decide +kernel
theorem dX6_noteDays_55 : decode cX6_noteDays 55 = .ok (.aload_n 0, 1) := by decide +kernel
theorem dX6_noteDays_56 : decode cX6_noteDays 56 = .ok (.invokevirtual 84, 3) := by decide +kernel
theorem dX6_noteDays_59 : decode cX6_noteDays 59 = .ok (.iinc 3 12, 3) := by decide +kernel
theorem dX6_noteDays_62 : decode cX6_noteDays 62 = .ok (.goto (-50), 3) := by decide +kernel
theorem dX6_noteDays_65 : decode cX6_noteDays 65 = .ok (.return_, 1) := by decide +kernel
theorem dX6_noteMinutes_0 : decode cX6_noteMinutes 0 = .ok (.aload_n 0, 1) := by decide +kernel
theorem dX6_noteMinutes_1 : decode cX6_noteMinutes 1 = .ok (.dup, 1) := by decide +kernel
theorem dX6_noteMinutes_2 : decode cX6_noteMinutes 2 = .ok (.getfield 75, 3) := by decide +kernel
theorem dX6_noteMinutes_5 : decode cX6_noteMinutes 5 = .ok (.iconst 1, 1) := by decide +kernel
theorem dX6_noteMinutes_6 : decode cX6_noteMinutes 6 = .ok (.iadd, 1) := by decide +kernel
theorem dX6_noteMinutes_7 : decode cX6_noteMinutes 7 = .ok (.putfield 75, 3) := by decide +kernel
theorem dX6_noteMinutes_10 : decode cX6_noteMinutes 10 = .ok (.iconst 0, 1) := by decide +kernel
theorem dX6_noteMinutes_11 : decode cX6_noteMinutes 11 = .ok (.istore_n 3, 1) := by decide +kernel
theorem dX6_noteMinutes_12 : decode cX6_noteMinutes 12 = .ok (.iload_n 3, 1) := by decide +kernel
theorem dX6_noteMinutes_13 : decode cX6_noteMinutes 13 = .ok (.bipush 24, 2) := by decide +kernel
theorem dX6_noteMinutes_15 : decode cX6_noteMinutes 15 = .ok (.if_icmp .ge 50, 3) := by decide +kernel
theorem dX6_noteMinutes_18 : decode cX6_noteMinutes 18 = .ok (.iconst 0, 1) := by decide +kernel
theorem dX6_noteMinutes_19 : decode cX6_noteMinutes 19 = .ok (.istore 4, 2) := by decide +kernel
theorem dX6_noteMinutes_21 : decode cX6_noteMinutes 21 = .ok (.iload 4, 2) := by decide +kernel
theorem dX6_noteMinutes_23 : decode cX6_noteMinutes 23 = .ok (.aload_n 0, 1) := by decide +kernel
theorem dX6_noteMinutes_24 : decode cX6_noteMinutes 24 = .ok (.getfield 40, 3) := by decide +kernel
theorem dX6_noteMinutes_27 : decode cX6_noteMinutes 27 = .ok (.if_icmp .ge 28, 3) := by decide +kernel
theorem dX6_noteMinutes_30 : decode cX6_noteMinutes 30 = .ok (.aload_n 0, 1) := by decide +kernel
theorem dX6_noteMinutes_31 : decode cX6_noteMinutes 31 = .ok (.getfield 21, 3) := by decide +kernel
theorem dX6_noteMinutes_34 : decode cX6_noteMinutes 34 = .ok (.iload 4, 2) := by decide +kernel
theorem dX6_noteMinutes_36 : decode cX6_noteMinutes 36 = .ok (.aload_n 0, 1) := by decide +kernel
theorem dX6_noteMinutes_37 : decode cX6_noteMinutes 37 = .ok (.getfield 24, 3) := by decide +kernel
theorem dX6_noteMinutes_40 : decode cX6_noteMinutes 40 = .ok (.aload_n 1, 1) := by decide +kernel
theorem dX6_noteMinutes_41 : decode cX6_noteMinutes 41 = .ok (.iload 4, 2) := by decide +kernel
theorem dX6_noteMinutes_43 : decode cX6_noteMinutes 43 = .ok (.iload_n 2, 1) := by decide +kernel
theorem dX6_noteMinutes_44 : decode cX6_noteMinutes 44 = .ok (.iload_n 3, 1) := by decide +kernel
theorem dX6_noteMinutes_45 : decode cX6_noteMinutes 45 = .ok (.invokevirtual 87, 3) := by decide +kernel
theorem dX6_noteMinutes_48 : decode cX6_noteMinutes 48 = .ok (.iastore, 1) := by decide +kernel
theorem dX6_noteMinutes_49 : decode cX6_noteMinutes 49 = .ok (.iinc 4 1, 3) := by decide +kernel
theorem dX6_noteMinutes_52 : decode cX6_noteMinutes 52 = .ok (.goto (-31), 3) := by decide +kernel
theorem dX6_noteMinutes_55 : decode cX6_noteMinutes 55 = .ok (.aload_n 0, 1) := by decide +kernel
theorem dX6_noteMinutes_56 : decode cX6_noteMinutes 56 = .ok (.invokevirtual 84, 3) := by decide +kernel
theorem dX6_noteMinutes_59 : decode cX6_noteMinutes 59 = .ok (.iinc 3 1, 3) := by decide +kernel
theorem dX6_noteMinutes_62 : decode cX6_noteMinutes 62 = .ok (.goto (-50), 3) := by decide +kernel
theorem dX6_noteMinutes_65 : decode cX6_noteMinutes 65 = .ok (.return_, 1) := by decide +kernel
theorem dX6_noteRow_0 : decode cX6_noteRow 0 = .ok (.ldc 90, 2) := by decide +kernel
theorem dX6_noteRow_2 : decode cX6_noteRow 2 = .ok (.istore_n 1, 1) := by decide +kernel
theorem dX6_noteRow_3 : decode cX6_noteRow 3 = .ok (.iconst 0, 1) := by decide +kernel
theorem dX6_noteRow_4 : decode cX6_noteRow 4 = .ok (.istore_n 2, 1) := by decide +kernel
theorem dX6_noteRow_5 : decode cX6_noteRow 5 = .ok (.iload_n 2, 1) := by decide +kernel
theorem dX6_noteRow_6 : decode cX6_noteRow 6 = .ok (.bipush 30, 2) := by decide +kernel
theorem dX6_noteRow_8 : decode cX6_noteRow 8 = .ok (.if_icmp .ge 157, 3) := by decide +kernel
theorem dX6_noteRow_11 : decode cX6_noteRow 11 = .ok (.iload_n 1, 1) := by decide +kernel
theorem dX6_noteRow_12 : decode cX6_noteRow 12 = .ok (.ifCond .eq 153, 3) := by decide +kernel
theorem dX6_noteRow_15 : decode cX6_noteRow 15 = .ok (.iload_n 1, 1) := by decide +kernel
theorem dX6_noteRow_16 : decode cX6_noteRow 16 = .ok (.iload_n 1, 1) := by decide +kernel
theorem dX6_noteRow_17 : decode cX6_noteRow 17 = .ok (.ineg, 1) := by decide +kernel
theorem dX6_noteRow_18 : decode cX6_noteRow 18 = .ok (.iand, 1) := by decide +kernel
theorem dX6_noteRow_19 : decode cX6_noteRow 19 = .ok (.istore_n 3, 1) := by decide +kernel
theorem dX6_noteRow_20 : decode cX6_noteRow 20 = .ok (.iload_n 1, 1) := by decide +kernel
theorem dX6_noteRow_21 : decode cX6_noteRow 21 = .ok (.istore 4, 2) := by decide +kernel
theorem dX6_noteRow_23 : decode cX6_noteRow 23 = .ok (.iconst 0, 1) := by decide +kernel
theorem dX6_noteRow_24 : decode cX6_noteRow 24 = .ok (.istore 5, 2) := by decide +kernel
theorem dX6_noteRow_26 : decode cX6_noteRow 26 = .ok (.iconst 0, 1) := by decide +kernel
theorem dX6_noteRow_27 : decode cX6_noteRow 27 = .ok (.istore 6, 2) := by decide +kernel
theorem dX6_noteRow_29 : decode cX6_noteRow 29 = .ok (.iload 6, 2) := by decide +kernel
theorem dX6_noteRow_31 : decode cX6_noteRow 31 = .ok (.aload_n 0, 1) := by decide +kernel
theorem dX6_noteRow_32 : decode cX6_noteRow 32 = .ok (.getfield 40, 3) := by decide +kernel
theorem dX6_noteRow_35 : decode cX6_noteRow 35 = .ok (.if_icmp .ge 59, 3) := by decide +kernel
theorem dX6_noteRow_38 : decode cX6_noteRow 38 = .ok (.aload_n 0, 1) := by decide +kernel
theorem dX6_noteRow_39 : decode cX6_noteRow 39 = .ok (.getfield 21, 3) := by decide +kernel
theorem dX6_noteRow_42 : decode cX6_noteRow 42 = .ok (.iload 6, 2) := by decide +kernel
theorem dX6_noteRow_44 : decode cX6_noteRow 44 = .ok (.iaload, 1) := by decide +kernel
theorem dX6_noteRow_45 : decode cX6_noteRow 45 = .ok (.iload_n 3, 1) := by decide +kernel
theorem dX6_noteRow_46 : decode cX6_noteRow 46 = .ok (.iand, 1) := by decide +kernel
theorem dX6_noteRow_47 : decode cX6_noteRow 47 = .ok (.ifCond .eq 27, 3) := by decide +kernel
theorem dX6_noteRow_50 : decode cX6_noteRow 50 = .ok (.iload 5, 2) := by decide +kernel
theorem dX6_noteRow_52 : decode cX6_noteRow 52 = .ok (.iconst 1, 1) := by decide +kernel
theorem dX6_noteRow_53 : decode cX6_noteRow 53 = .ok (.iload 6, 2) := by decide +kernel
theorem dX6_noteRow_55 : decode cX6_noteRow 55 = .ok (.ishl, 1) := by decide +kernel
theorem dX6_noteRow_56 : decode cX6_noteRow 56 = .ok (.ior, 1) := by decide +kernel
theorem dX6_noteRow_57 : decode cX6_noteRow 57 = .ok (.istore 5, 2) := by decide +kernel
theorem dX6_noteRow_59 : decode cX6_noteRow 59 = .ok (.iload 4, 2) := by decide +kernel
theorem dX6_noteRow_61 : decode cX6_noteRow 61 = .ok (.aload_n 0, 1) := by decide +kernel
theorem dX6_noteRow_62 : decode cX6_noteRow 62 = .ok (.getfield 21, 3) := by decide +kernel
theorem dX6_noteRow_65 : decode cX6_noteRow 65 = .ok (.iload 6, 2) := by decide +kernel
theorem dX6_noteRow_67 : decode cX6_noteRow 67 = .ok (.iaload, 1) := by decide +kernel
theorem dX6_noteRow_68 : decode cX6_noteRow 68 = .ok (.iand, 1) := by decide +kernel
theorem dX6_noteRow_69 : decode cX6_noteRow 69 = .ok (.istore 4, 2) := by decide +kernel
theorem dX6_noteRow_71 : decode cX6_noteRow 71 = .ok (.goto 17, 3) := by decide +kernel
theorem dX6_noteRow_74 : decode cX6_noteRow 74 = .ok (.iload 4, 2) := by decide +kernel
theorem dX6_noteRow_76 : decode cX6_noteRow 76 = .ok (.aload_n 0, 1) := by decide +kernel
theorem dX6_noteRow_77 : decode cX6_noteRow 77 = .ok (.getfield 21, 3) := by decide +kernel
theorem dX6_noteRow_80 : decode cX6_noteRow 80 = .ok (.iload 6, 2) := by decide +kernel
theorem dX6_noteRow_82 : decode cX6_noteRow 82 = .ok (.iaload, 1) := by decide +kernel
theorem dX6_noteRow_83 : decode cX6_noteRow 83 = .ok (.iconst (-1), 1) := by decide +kernel
theorem dX6_noteRow_84 : decode cX6_noteRow 84 = .ok (.ixor, 1) := by decide +kernel
theorem dX6_noteRow_85 : decode cX6_noteRow 85 = .ok (.iand, 1) := by decide +kernel
theorem dX6_noteRow_86 : decode cX6_noteRow 86 = .ok (.istore 4, 2) := by decide +kernel
theorem dX6_noteRow_88 : decode cX6_noteRow 88 = .ok (.iinc 6 1, 3) := by decide +kernel
theorem dX6_noteRow_91 : decode cX6_noteRow 91 = .ok (.goto (-62), 3) := by decide +kernel
theorem dX6_noteRow_94 : decode cX6_noteRow 94 = .ok (.aload_n 0, 1) := by decide +kernel
theorem dX6_noteRow_95 : decode cX6_noteRow 95 = .ok (.getfield 15, 3) := by decide +kernel
theorem dX6_noteRow_98 : decode cX6_noteRow 98 = .ok (.iload 5, 2) := by decide +kernel
theorem dX6_noteRow_100 : decode cX6_noteRow 100 = .ok (.iaload, 1) := by decide +kernel
theorem dX6_noteRow_101 : decode cX6_noteRow 101 = .ok (.aload_n 0, 1) := by decide +kernel
theorem dX6_noteRow_102 : decode cX6_noteRow 102 = .ok (.getfield 75, 3) := by decide +kernel
theorem dX6_noteRow_105 : decode cX6_noteRow 105 = .ok (.if_icmp .eq 47, 3) := by decide +kernel
theorem dX6_noteRow_108 : decode cX6_noteRow 108 = .ok (.aload_n 0, 1) := by decide +kernel
theorem dX6_noteRow_109 : decode cX6_noteRow 109 = .ok (.getfield 49, 3) := by decide +kernel
theorem dX6_noteRow_112 : decode cX6_noteRow 112 = .ok (.aload_n 0, 1) := by decide +kernel
theorem dX6_noteRow_113 : decode cX6_noteRow 113 = .ok (.getfield 18, 3) := by decide +kernel
theorem dX6_noteRow_116 : decode cX6_noteRow 116 = .ok (.arraylength, 1) := by decide +kernel
theorem dX6_noteRow_117 : decode cX6_noteRow 117 = .ok (.if_icmp .ge 35, 3) := by decide +kernel
theorem dX6_noteRow_120 : decode cX6_noteRow 120 = .ok (.aload_n 0, 1) := by decide +kernel
theorem dX6_noteRow_121 : decode cX6_noteRow 121 = .ok (.getfield 15, 3) := by decide +kernel
theorem dX6_noteRow_124 : decode cX6_noteRow 124 = .ok (.iload 5, 2) := by decide +kernel
theorem dX6_noteRow_126 : decode cX6_noteRow 126 = .ok (.aload_n 0, 1) := by decide +kernel
theorem dX6_noteRow_127 : decode cX6_noteRow 127 = .ok (.getfield 75, 3) := by decide +kernel
theorem dX6_noteRow_130 : decode cX6_noteRow 130 = .ok (.iastore, 1) := by decide +kernel
theorem dX6_noteRow_131 : decode cX6_noteRow 131 = .ok (.aload_n 0, 1) := by decide +kernel
theorem dX6_noteRow_132 : decode cX6_noteRow 132 = .ok (.getfield 18, 3) := by decide +kernel
theorem dX6_noteRow_135 : decode cX6_noteRow 135 = .ok (.aload_n 0, 1) := by decide +kernel
theorem dX6_noteRow_136 : decode cX6_noteRow 136 = .ok (.getfield 49, 3) := by decide +kernel
theorem dX6_noteRow_139 : decode cX6_noteRow 139 = .ok (.iload 5, 2) := by decide +kernel
theorem dX6_noteRow_141 : decode cX6_noteRow 141 = .ok (.iastore, 1) := by decide +kernel
theorem dX6_noteRow_142 : decode cX6_noteRow 142 = .ok (.aload_n 0, 1) := by decide +kernel
theorem dX6_noteRow_143 : decode cX6_noteRow 143 = .ok (.dup, 1) := by decide +kernel
theorem dX6_noteRow_144 : decode cX6_noteRow 144 = .ok (.getfield 49, 3) := by decide +kernel
theorem dX6_noteRow_147 : decode cX6_noteRow 147 = .ok (.iconst 1, 1) := by decide +kernel
theorem dX6_noteRow_148 : decode cX6_noteRow 148 = .ok (.iadd, 1) := by decide +kernel
theorem dX6_noteRow_149 : decode cX6_noteRow 149 = .ok (.putfield 49, 3) := by decide +kernel
theorem dX6_noteRow_152 : decode cX6_noteRow 152 = .ok (.iload_n 1, 1) := by decide +kernel
theorem dX6_noteRow_153 : decode cX6_noteRow 153 = .ok (.iload 4, 2) := by decide +kernel
theorem dX6_noteRow_155 : decode cX6_noteRow 155 = .ok (.iconst (-1), 1) := by decide +kernel
theorem dX6_noteRow_156 : decode cX6_noteRow 156 = .ok (.ixor, 1) := by decide +kernel
theorem dX6_noteRow_157 : decode cX6_noteRow 157 = .ok (.iand, 1) := by decide +kernel
theorem dX6_noteRow_158 : decode cX6_noteRow 158 = .ok (.istore_n 1, 1) := by decide +kernel
theorem dX6_noteRow_159 : decode cX6_noteRow 159 = .ok (.iinc 2 1, 3) := by decide +kernel
theorem dX6_noteRow_162 : decode cX6_noteRow 162 = .ok (.goto (-157), 3) := by decide +kernel
theorem dX6_noteRow_165 : decode cX6_noteRow 165 = .ok (.return_, 1) := by decide +kernel
theorem dX6_markMoments_0 : decode cX6_markMoments 0 = .ok (.iconst 0, 1) := by decide +kernel
theorem dX6_markMoments_1 : decode cX6_markMoments 1 = .ok (.istore_n 2, 1) := by decide +kernel
theorem dX6_markMoments_2 : decode cX6_markMoments 2 = .ok (.iload_n 2, 1) := by decide +kernel
theorem dX6_markMoments_3 : decode cX6_markMoments 3 = .ok (.iload_n 1, 1) := by decide +kernel
theorem dX6_markMoments_4 : decode cX6_markMoments 4 = .ok (.if_icmp .ge 44, 3) := by decide +kernel
theorem dX6_markMoments_7 : decode cX6_markMoments 7 = .ok (.iload_n 1, 1) := by decide +kernel
theorem dX6_markMoments_8 : decode cX6_markMoments 8 = .ok (.istore_n 3, 1) := by decide +kernel
theorem dX6_markMoments_9 : decode cX6_markMoments 9 = .ok (.iload_n 3, 1) := by decide +kernel
theorem dX6_markMoments_10 : decode cX6_markMoments 10 = .ok (.aload_n 0, 1) := by decide +kernel
theorem dX6_markMoments_11 : decode cX6_markMoments 11 = .ok (.getfield 49, 3) := by decide +kernel
theorem dX6_markMoments_14 : decode cX6_markMoments 14 = .ok (.if_icmp .ge 28, 3) := by decide +kernel
theorem dX6_markMoments_17 : decode cX6_markMoments 17 = .ok (.aload_n 0, 1) := by decide +kernel
theorem dX6_markMoments_18 : decode cX6_markMoments 18 = .ok (.getfield 11, 3) := by decide +kernel
theorem dX6_markMoments_21 : decode cX6_markMoments 21 = .ok (.aload_n 0, 1) := by decide +kernel
theorem dX6_markMoments_22 : decode cX6_markMoments 22 = .ok (.getfield 18, 3) := by decide +kernel
theorem dX6_markMoments_25 : decode cX6_markMoments 25 = .ok (.iload_n 2, 1) := by decide +kernel
theorem dX6_markMoments_26 : decode cX6_markMoments 26 = .ok (.iaload, 1) := by decide +kernel
theorem dX6_markMoments_27 : decode cX6_markMoments 27 = .ok (.aload_n 0, 1) := by decide +kernel
theorem dX6_markMoments_28 : decode cX6_markMoments 28 = .ok (.getfield 18, 3) := by decide +kernel
theorem dX6_markMoments_31 : decode cX6_markMoments 31 = .ok (.iload_n 3, 1) := by decide +kernel
theorem dX6_markMoments_32 : decode cX6_markMoments 32 = .ok (.iaload, 1) := by decide +kernel
theorem dX6_markMoments_33 : decode cX6_markMoments 33 = .ok (.iand, 1) := by decide +kernel
theorem dX6_markMoments_34 : decode cX6_markMoments 34 = .ok (.iconst 1, 1) := by decide +kernel
theorem dX6_markMoments_35 : decode cX6_markMoments 35 = .ok (.iastore, 1) := by decide +kernel
theorem dX6_markMoments_36 : decode cX6_markMoments 36 = .ok (.iinc 3 1, 3) := by decide +kernel
theorem dX6_markMoments_39 : decode cX6_markMoments 39 = .ok (.goto (-30), 3) := by decide +kernel
theorem dX6_markMoments_42 : decode cX6_markMoments 42 = .ok (.iinc 2 1, 3) := by decide +kernel
theorem dX6_markMoments_45 : decode cX6_markMoments 45 = .ok (.goto (-43), 3) := by decide +kernel
theorem dX6_markMoments_48 : decode cX6_markMoments 48 = .ok (.return_, 1) := by decide +kernel
theorem dX6_markSmaller_0 : decode cX6_markSmaller 0 = .ok (.iconst 0, 1) := by decide +kernel
theorem dX6_markSmaller_1 : decode cX6_markSmaller 1 = .ok (.istore_n 1, 1) := by decide +kernel
theorem dX6_markSmaller_2 : decode cX6_markSmaller 2 = .ok (.iload_n 1, 1) := by decide +kernel
theorem dX6_markSmaller_3 : decode cX6_markSmaller 3 = .ok (.aload_n 0, 1) := by decide +kernel
theorem dX6_markSmaller_4 : decode cX6_markSmaller 4 = .ok (.getfield 40, 3) := by decide +kernel
theorem dX6_markSmaller_7 : decode cX6_markSmaller 7 = .ok (.if_icmp .ge 59, 3) := by decide +kernel
theorem dX6_markSmaller_10 : decode cX6_markSmaller 10 = .ok (.iconst 0, 1) := by decide +kernel
theorem dX6_markSmaller_11 : decode cX6_markSmaller 11 = .ok (.istore_n 2, 1) := by decide +kernel
theorem dX6_markSmaller_12 : decode cX6_markSmaller 12 = .ok (.iload_n 2, 1) := by decide +kernel
theorem dX6_markSmaller_13 : decode cX6_markSmaller 13 = .ok (.iconst 1, 1) := by decide +kernel
theorem dX6_markSmaller_14 : decode cX6_markSmaller 14 = .ok (.aload_n 0, 1) := by decide +kernel
theorem dX6_markSmaller_15 : decode cX6_markSmaller 15 = .ok (.getfield 40, 3) := by decide +kernel
theorem dX6_markSmaller_18 : decode cX6_markSmaller 18 = .ok (.ishl, 1) := by decide +kernel
theorem dX6_markSmaller_19 : decode cX6_markSmaller 19 = .ok (.if_icmp .ge 41, 3) := by decide +kernel
theorem dX6_markSmaller_22 : decode cX6_markSmaller 22 = .ok (.iload_n 2, 1) := by decide +kernel
theorem dX6_markSmaller_23 : decode cX6_markSmaller 23 = .ok (.iload_n 1, 1) := by decide +kernel
theorem dX6_markSmaller_24 : decode cX6_markSmaller 24 = .ok (.ishr, 1) := by decide +kernel
theorem dX6_markSmaller_25 : decode cX6_markSmaller 25 = .ok (.iconst 1, 1) := by decide +kernel
theorem dX6_markSmaller_26 : decode cX6_markSmaller 26 = .ok (.iand, 1) := by decide +kernel
theorem dX6_markSmaller_27 : decode cX6_markSmaller 27 = .ok (.iconst 1, 1) := by decide +kernel
theorem dX6_markSmaller_28 : decode cX6_markSmaller 28 = .ok (.if_icmp .ne 26, 3) := by decide +kernel
theorem dX6_markSmaller_31 : decode cX6_markSmaller 31 = .ok (.aload_n 0, 1) := by decide +kernel
theorem dX6_markSmaller_32 : decode cX6_markSmaller 32 = .ok (.getfield 11, 3) := by decide +kernel
theorem dX6_markSmaller_35 : decode cX6_markSmaller 35 = .ok (.iload_n 2, 1) := by decide +kernel
theorem dX6_markSmaller_36 : decode cX6_markSmaller 36 = .ok (.iaload, 1) := by decide +kernel
theorem dX6_markSmaller_37 : decode cX6_markSmaller 37 = .ok (.iconst 1, 1) := by decide +kernel
theorem dX6_markSmaller_38 : decode cX6_markSmaller 38 = .ok (.if_icmp .ne 16, 3) := by decide +kernel
theorem dX6_markSmaller_41 : decode cX6_markSmaller 41 = .ok (.aload_n 0, 1) := by decide +kernel
theorem dX6_markSmaller_42 : decode cX6_markSmaller 42 = .ok (.getfield 11, 3) := by decide +kernel
theorem dX6_markSmaller_45 : decode cX6_markSmaller 45 = .ok (.iload_n 2, 1) := by decide +kernel
theorem dX6_markSmaller_46 : decode cX6_markSmaller 46 = .ok (.iconst 1, 1) := by decide +kernel
theorem dX6_markSmaller_47 : decode cX6_markSmaller 47 = .ok (.iload_n 1, 1) := by decide +kernel
theorem dX6_markSmaller_48 : decode cX6_markSmaller 48 = .ok (.ishl, 1) := by decide +kernel
theorem dX6_markSmaller_49 : decode cX6_markSmaller 49 = .ok (.iconst (-1), 1) := by decide +kernel
theorem dX6_markSmaller_50 : decode cX6_markSmaller 50 = .ok (.ixor, 1) := by decide +kernel
theorem dX6_markSmaller_51 : decode cX6_markSmaller 51 = .ok (.iand, 1) := by decide +kernel
theorem dX6_markSmaller_52 : decode cX6_markSmaller 52 = .ok (.iconst 1, 1) := by decide +kernel
theorem dX6_markSmaller_53 : decode cX6_markSmaller 53 = .ok (.iastore, 1) := by decide +kernel
theorem dX6_markSmaller_54 : decode cX6_markSmaller 54 = .ok (.iinc 2 1, 3) := by decide +kernel
theorem dX6_markSmaller_57 : decode cX6_markSmaller 57 = .ok (.goto (-45), 3) := by decide +kernel
theorem dX6_markSmaller_60 : decode cX6_markSmaller 60 = .ok (.iinc 1 1, 3) := by decide +kernel
theorem dX6_markSmaller_63 : decode cX6_markSmaller 63 = .ok (.goto (-61), 3) := by decide +kernel
theorem dX6_markSmaller_66 : decode cX6_markSmaller 66 = .ok (.return_, 1) := by decide +kernel
theorem dX7_init_0 : decode cX7_init 0 = .ok (.aload_n 0, 1) := by decide +kernel
theorem dX7_init_1 : decode cX7_init 1 = .ok (.invokespecial 5, 3) := by decide +kernel
theorem dX7_init_4 : decode cX7_init 4 = .ok (.aload_n 0, 1) := by decide +kernel
theorem dX7_init_5 : decode cX7_init 5 = .ok (.new 11, 3) := by decide +kernel
theorem dX7_init_8 : decode cX7_init 8 = .ok (.dup, 1) := by decide +kernel
theorem dX7_init_9 : decode cX7_init 9 = .ok (.aload_n 1, 1) := by decide +kernel
theorem dX7_init_10 : decode cX7_init 10 = .ok (.invokespecial 13, 3) := by decide +kernel
theorem dX7_init_13 : decode cX7_init 13 = .ok (.putfield 16, 3) := by decide +kernel
theorem dX7_init_16 : decode cX7_init 16 = .ok (.aload_n 0, 1) := by decide +kernel
theorem dX7_init_17 : decode cX7_init 17 = .ok (.aload_n 2, 1) := by decide +kernel
theorem dX7_init_18 : decode cX7_init 18 = .ok (.putfield 20, 3) := by decide +kernel
theorem dX7_init_21 : decode cX7_init 21 = .ok (.aload_n 0, 1) := by decide +kernel
theorem dX7_init_22 : decode cX7_init 22 = .ok (.aload_n 3, 1) := by decide +kernel
theorem dX7_init_23 : decode cX7_init 23 = .ok (.putfield 24, 3) := by decide +kernel
theorem dX7_init_26 : decode cX7_init 26 = .ok (.aload_n 0, 1) := by decide +kernel
theorem dX7_init_27 : decode cX7_init 27 = .ok (.aload 4, 2) := by decide +kernel
theorem dX7_init_29 : decode cX7_init 29 = .ok (.putfield 27, 3) := by decide +kernel
theorem dX7_init_32 : decode cX7_init 32 = .ok (.return_, 1) := by decide +kernel
theorem dX7_placeOfToken_0 : decode cX7_placeOfToken 0 = .ok (.aload_n 0, 1) := by decide +kernel
theorem dX7_placeOfToken_1 : decode cX7_placeOfToken 1 = .ok (.getfield 16, 3) := by decide +kernel
theorem dX7_placeOfToken_4 : decode cX7_placeOfToken 4 = .ok (.invokevirtual 31, 3) := by decide +kernel
theorem dX7_placeOfToken_7 : decode cX7_placeOfToken 7 = .ok (.ireturn, 1) := by decide +kernel
theorem dX7_readsTown_0 : decode cX7_readsTown 0 = .ok (.aload_n 0, 1) := by decide +kernel
theorem dX7_readsTown_1 : decode cX7_readsTown 1 = .ok (.getfield 24, 3) := by decide +kernel
theorem dX7_readsTown_4 : decode cX7_readsTown 4 = .ok (.invokevirtual 35, 3) := by decide +kernel
theorem dX7_readsTown_7 : decode cX7_readsTown 7 = .ok (.aload_n 0, 1) := by decide +kernel
theorem dX7_readsTown_8 : decode cX7_readsTown 8 = .ok (.getfield 16, 3) := by decide +kernel
theorem dX7_readsTown_11 : decode cX7_readsTown 11 = .ok (.iload_n 1, 1) := by decide +kernel
theorem dX7_readsTown_12 : decode cX7_readsTown 12 = .ok (.invokevirtual 40, 3) := by decide +kernel
theorem dX7_readsTown_15 : decode cX7_readsTown 15 = .ok (.iconst 0, 1) := by decide +kernel
theorem dX7_readsTown_16 : decode cX7_readsTown 16 = .ok (.istore_n 2, 1) := by decide +kernel
theorem dX7_readsTown_17 : decode cX7_readsTown 17 = .ok (.iload_n 2, 1) := by decide +kernel
theorem dX7_readsTown_18 : decode cX7_readsTown 18 = .ok (.bipush 60, 2) := by decide +kernel
theorem dX7_readsTown_20 : decode cX7_readsTown 20 = .ok (.if_icmp .ge 45, 3) := by decide +kernel
theorem dX7_readsTown_23 : decode cX7_readsTown 23 = .ok (.aload_n 0, 1) := by decide +kernel
theorem dX7_readsTown_24 : decode cX7_readsTown 24 = .ok (.getfield 16, 3) := by decide +kernel
theorem dX7_readsTown_27 : decode cX7_readsTown 27 = .ok (.invokevirtual 44, 3) := by decide +kernel
theorem dX7_readsTown_30 : decode cX7_readsTown 30 = .ok (.ifCond .ne 35, 3) := by decide +kernel
theorem dX7_readsTown_33 : decode cX7_readsTown 33 = .ok (.aload_n 0, 1) := by decide +kernel
theorem dX7_readsTown_34 : decode cX7_readsTown 34 = .ok (.invokevirtual 48, 3) := by decide +kernel
theorem dX7_readsTown_37 : decode cX7_readsTown 37 = .ok (.ifCond .eq 13, 3) := by decide +kernel
theorem dX7_readsTown_40 : decode cX7_readsTown 40 = .ok (.aload_n 0, 1) := by decide +kernel
theorem dX7_readsTown_41 : decode cX7_readsTown 41 = .ok (.getfield 16, 3) := by decide +kernel
theorem dX7_readsTown_44 : decode cX7_readsTown 44 = .ok (.invokevirtual 51, 3) := by decide +kernel
theorem dX7_readsTown_47 : decode cX7_readsTown 47 = .ok (.ifCond .ne 5, 3) := by decide +kernel
theorem dX7_readsTown_50 : decode cX7_readsTown 50 = .ok (.iconst 0, 1) := by decide +kernel
theorem dX7_readsTown_51 : decode cX7_readsTown 51 = .ok (.ireturn, 1) := by decide +kernel
theorem dX7_readsTown_52 : decode cX7_readsTown 52 = .ok (.aload_n 0, 1) := by decide +kernel
theorem dX7_readsTown_53 : decode cX7_readsTown 53 = .ok (.getfield 24, 3) := by decide +kernel
theorem dX7_readsTown_56 : decode cX7_readsTown 56 = .ok (.invokevirtual 54, 3) := by decide +kernel
theorem dX7_readsTown_59 : decode cX7_readsTown 59 = .ok (.iinc 2 1, 3) := by decide +kernel
theorem dX7_readsTown_62 : decode cX7_readsTown 62 = .ok (.goto (-45), 3) := by decide +kernel
theorem dX7_readsTown_65 : decode cX7_readsTown 65 = .ok (.aload_n 0, 1) := by decide +kernel
theorem dX7_readsTown_66 : decode cX7_readsTown 66 = .ok (.getfield 16, 3) := by decide +kernel
theorem dX7_readsTown_69 : decode cX7_readsTown 69 = .ok (.invokevirtual 44, 3) := by decide +kernel
theorem dX7_readsTown_72 : decode cX7_readsTown 72 = .ok (.ireturn, 1) := by decide +kernel
theorem dX7_readsSigns_0 : decode cX7_readsSigns 0 = .ok (.aload_n 0, 1) := by decide +kernel
theorem dX7_readsSigns_1 : decode cX7_readsSigns 1 = .ok (.getfield 16, 3) := by decide +kernel
theorem dX7_readsSigns_4 : decode cX7_readsSigns 4 = .ok (.iload_n 1, 1) := by decide +kernel
theorem dX7_readsSigns_5 : decode cX7_readsSigns 5 = .ok (.invokevirtual 40, 3) := by decide +kernel
theorem dX7_readsSigns_8 : decode cX7_readsSigns 8 = .ok (.aload_n 0, 1) := by decide +kernel
theorem dX7_readsSigns_9 : decode cX7_readsSigns 9 = .ok (.getfield 27, 3) := by decide +kernel
theorem dX7_readsSigns_12 : decode cX7_readsSigns 12 = .ok (.invokevirtual 57, 3) := by decide +kernel
theorem dX7_readsSigns_15 : decode cX7_readsSigns 15 = .ok (.istore_n 2, 1) := by decide +kernel
theorem dX7_readsSigns_16 : decode cX7_readsSigns 16 = .ok (.iload_n 2, 1) := by decide +kernel
theorem dX7_readsSigns_17 : decode cX7_readsSigns 17 = .ok (.istore_n 3, 1) := by decide +kernel
theorem dX7_readsSigns_18 : decode cX7_readsSigns 18 = .ok (.iload_n 3, 1) := by decide +kernel
theorem dX7_readsSigns_19 : decode cX7_readsSigns 19 = .ok (.bipush 12, 2) := by decide +kernel
theorem dX7_readsSigns_21 : decode cX7_readsSigns 21 = .ok (.if_icmp .ge 38, 3) := by decide +kernel
theorem dX7_readsSigns_24 : decode cX7_readsSigns 24 = .ok (.aload_n 0, 1) := by decide +kernel
theorem dX7_readsSigns_25 : decode cX7_readsSigns 25 = .ok (.getfield 16, 3) := by decide +kernel
theorem dX7_readsSigns_28 : decode cX7_readsSigns 28 = .ok (.invokevirtual 44, 3) := by decide +kernel
theorem dX7_readsSigns_31 : decode cX7_readsSigns 31 = .ok (.ifCond .ne 28, 3) := by decide +kernel
theorem dX7_readsSigns_34 : decode cX7_readsSigns 34 = .ok (.aload_n 0, 1) := by decide +kernel
theorem dX7_readsSigns_35 : decode cX7_readsSigns 35 = .ok (.invokevirtual 62, 3) := by decide +kernel
theorem dX7_readsSigns_38 : decode cX7_readsSigns 38 = .ok (.ifCond .eq 13, 3) := by decide +kernel
theorem dX7_readsSigns_41 : decode cX7_readsSigns 41 = .ok (.aload_n 0, 1) := by decide +kernel
theorem dX7_readsSigns_42 : decode cX7_readsSigns 42 = .ok (.getfield 16, 3) := by decide +kernel
theorem dX7_readsSigns_45 : decode cX7_readsSigns 45 = .ok (.invokevirtual 51, 3) := by decide +kernel
theorem dX7_readsSigns_48 : decode cX7_readsSigns 48 = .ok (.ifCond .ne 5, 3) := by decide +kernel
theorem dX7_readsSigns_51 : decode cX7_readsSigns 51 = .ok (.iconst 0, 1) := by decide +kernel
theorem dX7_readsSigns_52 : decode cX7_readsSigns 52 = .ok (.ireturn, 1) := by decide +kernel
theorem dX7_readsSigns_53 : decode cX7_readsSigns 53 = .ok (.iinc 3 1, 3) := by decide +kernel
theorem dX7_readsSigns_56 : decode cX7_readsSigns 56 = .ok (.goto (-38), 3) := by decide +kernel
theorem dX7_readsSigns_59 : decode cX7_readsSigns 59 = .ok (.aload_n 0, 1) := by decide +kernel
theorem dX7_readsSigns_60 : decode cX7_readsSigns 60 = .ok (.getfield 16, 3) := by decide +kernel
theorem dX7_readsSigns_63 : decode cX7_readsSigns 63 = .ok (.invokevirtual 44, 3) := by decide +kernel
theorem dX7_readsSigns_66 : decode cX7_readsSigns 66 = .ok (.ifCond .eq 18, 3) := by decide +kernel
theorem dX7_readsSigns_69 : decode cX7_readsSigns 69 = .ok (.aload_n 0, 1) := by decide +kernel
theorem dX7_readsSigns_70 : decode cX7_readsSigns 70 = .ok (.getfield 27, 3) := by decide +kernel
theorem dX7_readsSigns_73 : decode cX7_readsSigns 73 = .ok (.invokevirtual 57, 3) := by decide +kernel
theorem dX7_readsSigns_76 : decode cX7_readsSigns 76 = .ok (.iload_n 2, 1) := by decide +kernel
theorem dX7_readsSigns_77 : decode cX7_readsSigns 77 = .ok (.if_icmp .le 7, 3) := by decide +kernel
theorem dX7_readsSigns_80 : decode cX7_readsSigns 80 = .ok (.iconst 1, 1) := by decide +kernel
theorem dX7_readsSigns_81 : decode cX7_readsSigns 81 = .ok (.goto 4, 3) := by decide +kernel
theorem dX7_readsSigns_84 : decode cX7_readsSigns 84 = .ok (.iconst 0, 1) := by decide +kernel
theorem dX7_readsSigns_85 : decode cX7_readsSigns 85 = .ok (.ireturn, 1) := by decide +kernel
theorem dX7_readsStatement_0 : decode cX7_readsStatement 0 = .ok (.aload_n 0, 1) := by decide +kernel
theorem dX7_readsStatement_1 : decode cX7_readsStatement 1 = .ok (.getfield 16, 3) := by decide +kernel
theorem dX7_readsStatement_4 : decode cX7_readsStatement 4 = .ok (.ldc 65, 2) := by decide +kernel
theorem dX7_readsStatement_6 : decode cX7_readsStatement 6 = .ok (.invokevirtual 67, 3) := by decide +kernel
theorem dX7_readsStatement_9 : decode cX7_readsStatement 9 = .ok (.ifCond .eq 8, 3) := by decide +kernel
theorem dX7_readsStatement_12 : decode cX7_readsStatement 12 = .ok (.aload_n 0, 1) := by decide +kernel
theorem dX7_readsStatement_13 : decode cX7_readsStatement 13 = .ok (.invokevirtual 71, 3) := by decide +kernel
theorem dX7_readsStatement_16 : decode cX7_readsStatement 16 = .ok (.ireturn, 1) := by decide +kernel
theorem dX7_readsStatement_17 : decode cX7_readsStatement 17 = .ok (.aload_n 0, 1) := by decide +kernel
theorem dX7_readsStatement_18 : decode cX7_readsStatement 18 = .ok (.getfield 16, 3) := by decide +kernel
theorem dX7_readsStatement_21 : decode cX7_readsStatement 21 = .ok (.ldc 74, 2) := by decide +kernel
theorem dX7_readsStatement_23 : decode cX7_readsStatement 23 = .ok (.invokevirtual 67, 3) := by decide +kernel
theorem dX7_readsStatement_26 : decode cX7_readsStatement 26 = .ok (.ifCond .eq 8, 3) := by decide +kernel
theorem dX7_readsStatement_29 : decode cX7_readsStatement 29 = .ok (.aload_n 0, 1) := by decide +kernel
theorem dX7_readsStatement_30 : decode cX7_readsStatement 30 = .ok (.invokevirtual 76, 3) := by decide +kernel
theorem dX7_readsStatement_33 : decode cX7_readsStatement 33 = .ok (.ireturn, 1) := by decide +kernel
theorem dX7_readsStatement_34 : decode cX7_readsStatement 34 = .ok (.aload_n 0, 1) := by decide +kernel
theorem dX7_readsStatement_35 : decode cX7_readsStatement 35 = .ok (.getfield 16, 3) := by decide +kernel
theorem dX7_readsStatement_38 : decode cX7_readsStatement 38 = .ok (.ldc 79, 2) := by decide +kernel
theorem dX7_readsStatement_40 : decode cX7_readsStatement 40 = .ok (.invokevirtual 67, 3) := by decide +kernel
theorem dX7_readsStatement_43 : decode cX7_readsStatement 43 = .ok (.ifCond .eq 8, 3) := by decide +kernel
theorem dX7_readsStatement_46 : decode cX7_readsStatement 46 = .ok (.aload_n 0, 1) := by decide +kernel
theorem dX7_readsStatement_47 : decode cX7_readsStatement 47 = .ok (.invokevirtual 81, 3) := by decide +kernel
theorem dX7_readsStatement_50 : decode cX7_readsStatement 50 = .ok (.ireturn, 1) := by decide +kernel
theorem dX7_readsStatement_51 : decode cX7_readsStatement 51 = .ok (.aload_n 0, 1) := by decide +kernel
theorem dX7_readsStatement_52 : decode cX7_readsStatement 52 = .ok (.getfield 16, 3) := by decide +kernel
theorem dX7_readsStatement_55 : decode cX7_readsStatement 55 = .ok (.ldc 84, 2) := by decide +kernel
theorem dX7_readsStatement_57 : decode cX7_readsStatement 57 = .ok (.invokevirtual 67, 3) := by decide +kernel
theorem dX7_readsStatement_60 : decode cX7_readsStatement 60 = .ok (.ifCond .eq 8, 3) := by decide +kernel
theorem dX7_readsStatement_63 : decode cX7_readsStatement 63 = .ok (.aload_n 0, 1) := by decide +kernel
theorem dX7_readsStatement_64 : decode cX7_readsStatement 64 = .ok (.invokevirtual 86, 3) := by decide +kernel
theorem dX7_readsStatement_67 : decode cX7_readsStatement 67 = .ok (.ireturn, 1) := by decide +kernel
theorem dX7_readsStatement_68 : decode cX7_readsStatement 68 = .ok (.aload_n 0, 1) := by decide +kernel
theorem dX7_readsStatement_69 : decode cX7_readsStatement 69 = .ok (.getfield 16, 3) := by decide +kernel
theorem dX7_readsStatement_72 : decode cX7_readsStatement 72 = .ok (.ldc 89, 2) := by decide +kernel
theorem dX7_readsStatement_74 : decode cX7_readsStatement 74 = .ok (.invokevirtual 67, 3) := by decide +kernel
theorem dX7_readsStatement_77 : decode cX7_readsStatement 77 = .ok (.ifCond .eq 14, 3) := by decide +kernel
theorem dX7_readsStatement_80 : decode cX7_readsStatement 80 = .ok (.aload_n 0, 1) := by decide +kernel
theorem dX7_readsStatement_81 : decode cX7_readsStatement 81 = .ok (.invokevirtual 91, 3) := by decide +kernel
theorem dX7_readsStatement_84 : decode cX7_readsStatement 84 = .ok (.ifCond .eq 7, 3) := by decide +kernel
theorem dX7_readsStatement_87 : decode cX7_readsStatement 87 = .ok (.iconst 1, 1) := by decide +kernel
theorem dX7_readsStatement_88 : decode cX7_readsStatement 88 = .ok (.goto 4, 3) := by decide +kernel
theorem dX7_readsStatement_91 : decode cX7_readsStatement 91 = .ok (.iconst 0, 1) := by decide +kernel
theorem dX7_readsStatement_92 : decode cX7_readsStatement 92 = .ok (.ireturn, 1) := by decide +kernel
theorem dX7_takesNewName_0 : decode cX7_takesNewName 0 = .ok (.aload_n 0, 1) := by decide +kernel
theorem dX7_takesNewName_1 : decode cX7_takesNewName 1 = .ok (.getfield 16, 3) := by decide +kernel
theorem dX7_takesNewName_4 : decode cX7_takesNewName 4 = .ok (.invokevirtual 94, 3) := by decide +kernel
theorem dX7_takesNewName_7 : decode cX7_takesNewName 7 = .ok (.lstore_n 2, 1) := by decide +kernel
theorem dX7_takesNewName_8 : decode cX7_takesNewName 8 = .ok (.lload_n 2, 1) := by decide +kernel
theorem dX7_takesNewName_9 : decode cX7_takesNewName 9 = .ok (.lconst 0, 1) := by decide +kernel
theorem dX7_takesNewName_10 : decode cX7_takesNewName 10 = .ok (.lcmp, 1) := by decide +kernel
theorem dX7_takesNewName_11 : decode cX7_takesNewName 11 = .ok (.ifCond .eq 35, 3) := by decide +kernel
theorem dX7_takesNewName_14 : decode cX7_takesNewName 14 = .ok (.aload_n 0, 1) := by decide +kernel
theorem dX7_takesNewName_15 : decode cX7_takesNewName 15 = .ok (.getfield 16, 3) := by decide +kernel
theorem dX7_takesNewName_18 : decode cX7_takesNewName 18 = .ok (.invokevirtual 98, 3) := by decide +kernel
theorem dX7_takesNewName_21 : decode cX7_takesNewName 21 = .ok (.ifCond .ne 25, 3) := by decide +kernel
theorem dX7_takesNewName_24 : decode cX7_takesNewName 24 = .ok (.aload_n 0, 1) := by decide +kernel
theorem dX7_takesNewName_25 : decode cX7_takesNewName 25 = .ok (.getfield 24, 3) := by decide +kernel
theorem dX7_takesNewName_28 : decode cX7_takesNewName 28 = .ok (.iload_n 1, 1) := by decide +kernel
theorem dX7_takesNewName_29 : decode cX7_takesNewName 29 = .ok (.invokevirtual 101, 3) := by decide +kernel
theorem dX7_takesNewName_32 : decode cX7_takesNewName 32 = .ok (.ifCond .eq 14, 3) := by decide +kernel
theorem dX7_takesNewName_35 : decode cX7_takesNewName 35 = .ok (.aload_n 0, 1) := by decide +kernel
theorem dX7_takesNewName_36 : decode cX7_takesNewName 36 = .ok (.getfield 24, 3) := by decide +kernel
theorem dX7_takesNewName_39 : decode cX7_takesNewName 39 = .ok (.lload_n 2, 1) := by decide +kernel
theorem dX7_takesNewName_40 : decode cX7_takesNewName 40 = .ok (.invokevirtual 105, 3) := by decide +kernel
theorem dX7_takesNewName_43 : decode cX7_takesNewName 43 = .ok (.ifCond .eq 5, 3) := by decide +kernel
theorem dX7_takesNewName_46 : decode cX7_takesNewName 46 = .ok (.iconst 0, 1) := by decide +kernel
theorem dX7_takesNewName_47 : decode cX7_takesNewName 47 = .ok (.ireturn, 1) := by decide +kernel
theorem dX7_takesNewName_48 : decode cX7_takesNewName 48 = .ok (.aload_n 0, 1) := by decide +kernel
theorem dX7_takesNewName_49 : decode cX7_takesNewName 49 = .ok (.getfield 24, 3) := by decide +kernel
theorem dX7_takesNewName_52 : decode cX7_takesNewName 52 = .ok (.iload_n 1, 1) := by decide +kernel
theorem dX7_takesNewName_53 : decode cX7_takesNewName 53 = .ok (.lload_n 2, 1) := by decide +kernel
theorem dX7_takesNewName_54 : decode cX7_takesNewName 54 = .ok (.invokevirtual 109, 3) := by decide +kernel
theorem dX7_takesNewName_57 : decode cX7_takesNewName 57 = .ok (.aload_n 0, 1) := by decide +kernel
theorem dX7_takesNewName_58 : decode cX7_takesNewName 58 = .ok (.getfield 16, 3) := by decide +kernel
theorem dX7_takesNewName_61 : decode cX7_takesNewName 61 = .ok (.invokevirtual 113, 3) := by decide +kernel
theorem dX7_takesNewName_64 : decode cX7_takesNewName 64 = .ok (.iconst 1, 1) := by decide +kernel
theorem dX7_takesNewName_65 : decode cX7_takesNewName 65 = .ok (.ireturn, 1) := by decide +kernel
theorem dX7_readsThing_0 : decode cX7_readsThing 0 = .ok (.aload_n 0, 1) := by decide +kernel
theorem dX7_readsThing_1 : decode cX7_readsThing 1 = .ok (.iconst 0, 1) := by decide +kernel
theorem dX7_readsThing_2 : decode cX7_readsThing 2 = .ok (.invokevirtual 116, 3) := by decide +kernel
theorem dX7_readsThing_5 : decode cX7_readsThing 5 = .ok (.ifCond .eq 15, 3) := by decide +kernel
theorem dX7_readsThing_8 : decode cX7_readsThing 8 = .ok (.aload_n 0, 1) := by decide +kernel
theorem dX7_readsThing_9 : decode cX7_readsThing 9 = .ok (.getfield 16, 3) := by decide +kernel
theorem dX7_readsThing_12 : decode cX7_readsThing 12 = .ok (.ldc 119, 2) := by decide +kernel
theorem dX7_readsThing_14 : decode cX7_readsThing 14 = .ok (.invokevirtual 67, 3) := by decide +kernel
theorem dX7_readsThing_17 : decode cX7_readsThing 17 = .ok (.ifCond .ne 5, 3) := by decide +kernel
theorem dX7_readsThing_20 : decode cX7_readsThing 20 = .ok (.iconst 0, 1) := by decide +kernel
theorem dX7_readsThing_21 : decode cX7_readsThing 21 = .ok (.ireturn, 1) := by decide +kernel
theorem dX7_readsThing_22 : decode cX7_readsThing 22 = .ok (.aload_n 0, 1) := by decide +kernel
theorem dX7_readsThing_23 : decode cX7_readsThing 23 = .ok (.getfield 16, 3) := by decide +kernel
theorem dX7_readsThing_26 : decode cX7_readsThing 26 = .ok (.iconst 0, 1) := by decide +kernel
theorem dX7_readsThing_27 : decode cX7_readsThing 27 = .ok (.sipush 3599, 3) := by decide +kernel
theorem dX7_readsThing_30 : decode cX7_readsThing 30 = .ok (.invokevirtual 121, 3) := by decide +kernel
theorem dX7_readsThing_33 : decode cX7_readsThing 33 = .ok (.istore_n 1, 1) := by decide +kernel
theorem dX7_readsThing_34 : decode cX7_readsThing 34 = .ok (.iload_n 1, 1) := by decide +kernel
theorem dX7_readsThing_35 : decode cX7_readsThing 35 = .ok (.iconst (-1), 1) := by decide +kernel
theorem dX7_readsThing_36 : decode cX7_readsThing 36 = .ok (.if_icmp .ne 7, 3) := by decide +kernel
theorem dX7_readsThing_39 : decode cX7_readsThing 39 = .ok (.iconst (-1), 1) := by decide +kernel
theorem dX7_readsThing_40 : decode cX7_readsThing 40 = .ok (.goto 10, 3) := by decide +kernel
theorem dX7_readsThing_43 : decode cX7_readsThing 43 = .ok (.aload_n 0, 1) := by decide +kernel
theorem dX7_readsThing_44 : decode cX7_readsThing 44 = .ok (.getfield 16, 3) := by decide +kernel
theorem dX7_readsThing_47 : decode cX7_readsThing 47 = .ok (.invokevirtual 125, 3) := by decide +kernel
theorem dX7_readsThing_50 : decode cX7_readsThing 50 = .ok (.istore_n 2, 1) := by decide +kernel
theorem dX7_readsThing_51 : decode cX7_readsThing 51 = .ok (.iload_n 2, 1) := by decide +kernel
theorem dX7_readsThing_52 : decode cX7_readsThing 52 = .ok (.iconst (-1), 1) := by decide +kernel
theorem dX7_readsThing_53 : decode cX7_readsThing 53 = .ok (.if_icmp .ne 5, 3) := by decide +kernel
theorem dX7_readsThing_56 : decode cX7_readsThing 56 = .ok (.iconst 0, 1) := by decide +kernel
theorem dX7_readsThing_57 : decode cX7_readsThing 57 = .ok (.ireturn, 1) := by decide +kernel
theorem dX7_readsThing_58 : decode cX7_readsThing 58 = .ok (.iconst (-1), 1) := by decide +kernel
theorem dX7_readsThing_59 : decode cX7_readsThing 59 = .ok (.istore_n 3, 1) := by decide +kernel
theorem dX7_readsThing_60 : decode cX7_readsThing 60 = .ok (.iconst 0, 1) := by decide +kernel
theorem dX7_readsThing_61 : decode cX7_readsThing 61 = .ok (.istore 4, 2) := by decide +kernel
theorem dX7_readsThing_63 : decode cX7_readsThing 63 = .ok (.aload_n 0, 1) := by decide +kernel
theorem dX7_readsThing_64 : decode cX7_readsThing 64 = .ok (.getfield 16, 3) := by decide +kernel
theorem dX7_readsThing_67 : decode cX7_readsThing 67 = .ok (.ldc 128, 2) := by decide +kernel
theorem dX7_readsThing_69 : decode cX7_readsThing 69 = .ok (.invokevirtual 67, 3) := by decide +kernel
theorem dX7_readsThing_72 : decode cX7_readsThing 72 = .ok (.ifCond .eq 33, 3) := by decide +kernel
theorem dX7_readsThing_75 : decode cX7_readsThing 75 = .ok (.aload_n 0, 1) := by decide +kernel
theorem dX7_readsThing_76 : decode cX7_readsThing 76 = .ok (.getfield 16, 3) := by decide +kernel
theorem dX7_readsThing_79 : decode cX7_readsThing 79 = .ok (.iload_n 1, 1) := by decide +kernel
theorem dX7_readsThing_80 : decode cX7_readsThing 80 = .ok (.sipush 3599, 3) := by decide +kernel
theorem dX7_readsThing_83 : decode cX7_readsThing 83 = .ok (.invokevirtual 121, 3) := by decide +kernel
theorem dX7_readsThing_86 : decode cX7_readsThing 86 = .ok (.istore_n 3, 1) := by decide +kernel
theorem dX7_readsThing_87 : decode cX7_readsThing 87 = .ok (.iload_n 3, 1) := by decide +kernel
theorem dX7_readsThing_88 : decode cX7_readsThing 88 = .ok (.iconst (-1), 1) := by decide +kernel
theorem dX7_readsThing_89 : decode cX7_readsThing 89 = .ok (.if_icmp .ne 7, 3) := by decide +kernel
theorem dX7_readsThing_92 : decode cX7_readsThing 92 = .ok (.iconst (-1), 1) := by decide +kernel
theorem dX7_readsThing_93 : decode cX7_readsThing 93 = .ok (.goto 10, 3) := by decide +kernel
theorem dX7_readsThing_96 : decode cX7_readsThing 96 = .ok (.aload_n 0, 1) := by decide +kernel
theorem dX7_readsThing_97 : decode cX7_readsThing 97 = .ok (.getfield 16, 3) := by decide +kernel
theorem dX7_readsThing_100 : decode cX7_readsThing 100 = .ok (.invokevirtual 125, 3) := by decide +kernel
theorem dX7_readsThing_103 : decode cX7_readsThing 103 = .ok (.istore 4, 2) := by decide +kernel
theorem dX7_readsThing_105 : decode cX7_readsThing 105 = .ok (.aload_n 0, 1) := by decide +kernel
theorem dX7_readsThing_106 : decode cX7_readsThing 106 = .ok (.getfield 24, 3) := by decide +kernel
theorem dX7_readsThing_109 : decode cX7_readsThing 109 = .ok (.iconst 0, 1) := by decide +kernel
theorem dX7_readsThing_110 : decode cX7_readsThing 110 = .ok (.iload_n 1, 1) := by decide +kernel
theorem dX7_readsThing_111 : decode cX7_readsThing 111 = .ok (.iload_n 2, 1) := by decide +kernel
theorem dX7_readsThing_112 : decode cX7_readsThing 112 = .ok (.iload_n 3, 1) := by decide +kernel
theorem dX7_readsThing_113 : decode cX7_readsThing 113 = .ok (.iload 4, 2) := by decide +kernel
theorem dX7_readsThing_115 : decode cX7_readsThing 115 = .ok (.invokevirtual 130, 3) := by decide +kernel
theorem dX7_readsThing_118 : decode cX7_readsThing 118 = .ok (.iload 4, 2) := by decide +kernel
theorem dX7_readsThing_120 : decode cX7_readsThing 120 = .ok (.iconst (-1), 1) := by decide +kernel
theorem dX7_readsThing_121 : decode cX7_readsThing 121 = .ok (.if_icmp .eq 7, 3) := by decide +kernel
theorem dX7_readsThing_124 : decode cX7_readsThing 124 = .ok (.iconst 1, 1) := by decide +kernel
theorem dX7_readsThing_125 : decode cX7_readsThing 125 = .ok (.goto 4, 3) := by decide +kernel
theorem dX7_readsThing_128 : decode cX7_readsThing 128 = .ok (.iconst 0, 1) := by decide +kernel
theorem dX7_readsThing_129 : decode cX7_readsThing 129 = .ok (.ireturn, 1) := by decide +kernel
theorem dX7_readsTree_0 : decode cX7_readsTree 0 = .ok (.aload_n 0, 1) := by decide +kernel
theorem dX7_readsTree_1 : decode cX7_readsTree 1 = .ok (.iconst 1, 1) := by decide +kernel
theorem dX7_readsTree_2 : decode cX7_readsTree 2 = .ok (.invokevirtual 116, 3) := by decide +kernel
theorem dX7_readsTree_5 : decode cX7_readsTree 5 = .ok (.ifCond .eq 15, 3) := by decide +kernel
theorem dX7_readsTree_8 : decode cX7_readsTree 8 = .ok (.aload_n 0, 1) := by decide +kernel
theorem dX7_readsTree_9 : decode cX7_readsTree 9 = .ok (.getfield 16, 3) := by decide +kernel
theorem dX7_readsTree_12 : decode cX7_readsTree 12 = .ok (.ldc 134, 2) := by decide +kernel
theorem dX7_readsTree_14 : decode cX7_readsTree 14 = .ok (.invokevirtual 67, 3) := by decide +kernel
theorem dX7_readsTree_17 : decode cX7_readsTree 17 = .ok (.ifCond .ne 5, 3) := by decide +kernel
theorem dX7_readsTree_20 : decode cX7_readsTree 20 = .ok (.iconst 0, 1) := by decide +kernel
theorem dX7_readsTree_21 : decode cX7_readsTree 21 = .ok (.ireturn, 1) := by decide +kernel
theorem dX7_readsTree_22 : decode cX7_readsTree 22 = .ok (.aload_n 0, 1) := by decide +kernel
theorem dX7_readsTree_23 : decode cX7_readsTree 23 = .ok (.getfield 16, 3) := by decide +kernel
theorem dX7_readsTree_26 : decode cX7_readsTree 26 = .ok (.iconst 0, 1) := by decide +kernel
theorem dX7_readsTree_27 : decode cX7_readsTree 27 = .ok (.sipush 359, 3) := by decide +kernel
theorem dX7_readsTree_30 : decode cX7_readsTree 30 = .ok (.invokevirtual 121, 3) := by decide +kernel
theorem dX7_readsTree_33 : decode cX7_readsTree 33 = .ok (.istore_n 1, 1) := by decide +kernel
theorem dX7_readsTree_34 : decode cX7_readsTree 34 = .ok (.iload_n 1, 1) := by decide +kernel
theorem dX7_readsTree_35 : decode cX7_readsTree 35 = .ok (.iconst (-1), 1) := by decide +kernel
theorem dX7_readsTree_36 : decode cX7_readsTree 36 = .ok (.if_icmp .eq 26, 3) := by decide +kernel
theorem dX7_readsTree_39 : decode cX7_readsTree 39 = .ok (.aload_n 0, 1) := by decide +kernel
theorem dX7_readsTree_40 : decode cX7_readsTree 40 = .ok (.getfield 16, 3) := by decide +kernel
theorem dX7_readsTree_43 : decode cX7_readsTree 43 = .ok (.ldc 136, 2) := by decide +kernel
theorem dX7_readsTree_45 : decode cX7_readsTree 45 = .ok (.invokevirtual 67, 3) := by decide +kernel
theorem dX7_readsTree_48 : decode cX7_readsTree 48 = .ok (.ifCond .eq 14, 3) := by decide +kernel
theorem dX7_readsTree_51 : decode cX7_readsTree 51 = .ok (.aload_n 0, 1) := by decide +kernel
theorem dX7_readsTree_52 : decode cX7_readsTree 52 = .ok (.getfield 16, 3) := by decide +kernel
theorem dX7_readsTree_55 : decode cX7_readsTree 55 = .ok (.invokevirtual 138, 3) := by decide +kernel
theorem dX7_readsTree_58 : decode cX7_readsTree 58 = .ok (.iload_n 1, 1) := by decide +kernel
theorem dX7_readsTree_59 : decode cX7_readsTree 59 = .ok (.if_icmp .ne 5, 3) := by decide +kernel
theorem dX7_readsTree_62 : decode cX7_readsTree 62 = .ok (.iconst 0, 1) := by decide +kernel
theorem dX7_readsTree_63 : decode cX7_readsTree 63 = .ok (.ireturn, 1) := by decide +kernel
theorem dX7_readsTree_64 : decode cX7_readsTree 64 = .ok (.aload_n 0, 1) := by decide +kernel
theorem dX7_readsTree_65 : decode cX7_readsTree 65 = .ok (.getfield 16, 3) := by decide +kernel
theorem dX7_readsTree_68 : decode cX7_readsTree 68 = .ok (.iconst 0, 1) := by decide +kernel
theorem dX7_readsTree_69 : decode cX7_readsTree 69 = .ok (.sipush 359, 3) := by decide +kernel
theorem dX7_readsTree_72 : decode cX7_readsTree 72 = .ok (.invokevirtual 121, 3) := by decide +kernel
theorem dX7_readsTree_75 : decode cX7_readsTree 75 = .ok (.istore_n 2, 1) := by decide +kernel
theorem dX7_readsTree_76 : decode cX7_readsTree 76 = .ok (.aload_n 0, 1) := by decide +kernel
theorem dX7_readsTree_77 : decode cX7_readsTree 77 = .ok (.getfield 24, 3) := by decide +kernel
theorem dX7_readsTree_80 : decode cX7_readsTree 80 = .ok (.iconst 1, 1) := by decide +kernel
theorem dX7_readsTree_81 : decode cX7_readsTree 81 = .ok (.iload_n 1, 1) := by decide +kernel
theorem dX7_readsTree_82 : decode cX7_readsTree 82 = .ok (.iload_n 2, 1) := by decide +kernel
theorem dX7_readsTree_83 : decode cX7_readsTree 83 = .ok (.iconst (-1), 1) := by decide +kernel
theorem dX7_readsTree_84 : decode cX7_readsTree 84 = .ok (.iconst (-1), 1) := by decide +kernel
theorem dX7_readsTree_85 : decode cX7_readsTree 85 = .ok (.invokevirtual 130, 3) := by decide +kernel
theorem dX7_readsTree_88 : decode cX7_readsTree 88 = .ok (.iload_n 2, 1) := by decide +kernel
theorem dX7_readsTree_89 : decode cX7_readsTree 89 = .ok (.iconst (-1), 1) := by decide +kernel
theorem dX7_readsTree_90 : decode cX7_readsTree 90 = .ok (.if_icmp .eq 7, 3) := by decide +kernel
theorem dX7_readsTree_93 : decode cX7_readsTree 93 = .ok (.iconst 1, 1) := by decide +kernel
theorem dX7_readsTree_94 : decode cX7_readsTree 94 = .ok (.goto 4, 3) := by decide +kernel
theorem dX7_readsTree_97 : decode cX7_readsTree 97 = .ok (.iconst 0, 1) := by decide +kernel
theorem dX7_readsTree_98 : decode cX7_readsTree 98 = .ok (.ireturn, 1) := by decide +kernel
theorem dX7_readsPost_0 : decode cX7_readsPost 0 = .ok (.aload_n 0, 1) := by decide +kernel
theorem dX7_readsPost_1 : decode cX7_readsPost 1 = .ok (.iconst 2, 1) := by decide +kernel
theorem dX7_readsPost_2 : decode cX7_readsPost 2 = .ok (.invokevirtual 116, 3) := by decide +kernel
theorem dX7_readsPost_5 : decode cX7_readsPost 5 = .ok (.ifCond .ne 5, 3) := by decide +kernel
theorem dX7_readsPost_8 : decode cX7_readsPost 8 = .ok (.iconst 0, 1) := by decide +kernel
theorem dX7_readsPost_9 : decode cX7_readsPost 9 = .ok (.ireturn, 1) := by decide +kernel
theorem dX7_readsPost_10 : decode cX7_readsPost 10 = .ok (.aload_n 0, 1) := by decide +kernel
theorem dX7_readsPost_11 : decode cX7_readsPost 11 = .ok (.getfield 16, 3) := by decide +kernel
theorem dX7_readsPost_14 : decode cX7_readsPost 14 = .ok (.iconst 0, 1) := by decide +kernel
theorem dX7_readsPost_15 : decode cX7_readsPost 15 = .ok (.bipush 31, 2) := by decide +kernel
theorem dX7_readsPost_17 : decode cX7_readsPost 17 = .ok (.invokevirtual 121, 3) := by decide +kernel
theorem dX7_readsPost_20 : decode cX7_readsPost 20 = .ok (.istore_n 1, 1) := by decide +kernel
theorem dX7_readsPost_21 : decode cX7_readsPost 21 = .ok (.iload_n 1, 1) := by decide +kernel
theorem dX7_readsPost_22 : decode cX7_readsPost 22 = .ok (.iconst (-1), 1) := by decide +kernel
theorem dX7_readsPost_23 : decode cX7_readsPost 23 = .ok (.if_icmp .ne 7, 3) := by decide +kernel
theorem dX7_readsPost_26 : decode cX7_readsPost 26 = .ok (.iconst (-1), 1) := by decide +kernel
theorem dX7_readsPost_27 : decode cX7_readsPost 27 = .ok (.goto 13, 3) := by decide +kernel
theorem dX7_readsPost_30 : decode cX7_readsPost 30 = .ok (.aload_n 0, 1) := by decide +kernel
theorem dX7_readsPost_31 : decode cX7_readsPost 31 = .ok (.getfield 16, 3) := by decide +kernel
theorem dX7_readsPost_34 : decode cX7_readsPost 34 = .ok (.iconst 0, 1) := by decide +kernel
theorem dX7_readsPost_35 : decode cX7_readsPost 35 = .ok (.bipush 31, 2) := by decide +kernel
theorem dX7_readsPost_37 : decode cX7_readsPost 37 = .ok (.invokevirtual 121, 3) := by decide +kernel
theorem dX7_readsPost_40 : decode cX7_readsPost 40 = .ok (.istore_n 2, 1) := by decide +kernel
theorem dX7_readsPost_41 : decode cX7_readsPost 41 = .ok (.iload_n 2, 1) := by decide +kernel
theorem dX7_readsPost_42 : decode cX7_readsPost 42 = .ok (.iconst (-1), 1) := by decide +kernel
theorem dX7_readsPost_43 : decode cX7_readsPost 43 = .ok (.if_icmp .ne 7, 3) := by decide +kernel
theorem dX7_readsPost_46 : decode cX7_readsPost 46 = .ok (.iconst (-1), 1) := by decide +kernel
theorem dX7_readsPost_47 : decode cX7_readsPost 47 = .ok (.goto 13, 3) := by decide +kernel
theorem dX7_readsPost_50 : decode cX7_readsPost 50 = .ok (.aload_n 0, 1) := by decide +kernel
theorem dX7_readsPost_51 : decode cX7_readsPost 51 = .ok (.getfield 16, 3) := by decide +kernel
theorem dX7_readsPost_54 : decode cX7_readsPost 54 = .ok (.iconst 1, 1) := by decide +kernel
theorem dX7_readsPost_55 : decode cX7_readsPost 55 = .ok (.bipush 20, 2) := by decide +kernel
theorem dX7_readsPost_57 : decode cX7_readsPost 57 = .ok (.invokevirtual 121, 3) := by decide +kernel
theorem dX7_readsPost_60 : decode cX7_readsPost 60 = .ok (.istore_n 3, 1) := by decide +kernel
theorem dX7_readsPost_61 : decode cX7_readsPost 61 = .ok (.aload_n 0, 1) := by decide +kernel
theorem dX7_readsPost_62 : decode cX7_readsPost 62 = .ok (.getfield 24, 3) := by decide +kernel
theorem dX7_readsPost_65 : decode cX7_readsPost 65 = .ok (.iconst 2, 1) := by decide +kernel
theorem dX7_readsPost_66 : decode cX7_readsPost 66 = .ok (.iload_n 1, 1) := by decide +kernel
theorem dX7_readsPost_67 : decode cX7_readsPost 67 = .ok (.iload_n 2, 1) := by decide +kernel
theorem dX7_readsPost_68 : decode cX7_readsPost 68 = .ok (.iload_n 3, 1) := by decide +kernel
theorem dX7_readsPost_69 : decode cX7_readsPost 69 = .ok (.iconst (-1), 1) := by decide +kernel
theorem dX7_readsPost_70 : decode cX7_readsPost 70 = .ok (.invokevirtual 130, 3) := by decide +kernel
theorem dX7_readsPost_73 : decode cX7_readsPost 73 = .ok (.iload_n 3, 1) := by decide +kernel
theorem dX7_readsPost_74 : decode cX7_readsPost 74 = .ok (.iconst (-1), 1) := by decide +kernel
theorem dX7_readsPost_75 : decode cX7_readsPost 75 = .ok (.if_icmp .eq 7, 3) := by decide +kernel
theorem dX7_readsPost_78 : decode cX7_readsPost 78 = .ok (.iconst 1, 1) := by decide +kernel
theorem dX7_readsPost_79 : decode cX7_readsPost 79 = .ok (.goto 4, 3) := by decide +kernel
theorem dX7_readsPost_82 : decode cX7_readsPost 82 = .ok (.iconst 0, 1) := by decide +kernel
theorem dX7_readsPost_83 : decode cX7_readsPost 83 = .ok (.ireturn, 1) := by decide +kernel
theorem dX7_readsClock_0 : decode cX7_readsClock 0 = .ok (.aload_n 0, 1) := by decide +kernel
theorem dX7_readsClock_1 : decode cX7_readsClock 1 = .ok (.iconst 3, 1) := by decide +kernel
theorem dX7_readsClock_2 : decode cX7_readsClock 2 = .ok (.invokevirtual 116, 3) := by decide +kernel
theorem dX7_readsClock_5 : decode cX7_readsClock 5 = .ok (.ifCond .eq 15, 3) := by decide +kernel
theorem dX7_readsClock_8 : decode cX7_readsClock 8 = .ok (.aload_n 0, 1) := by decide +kernel
theorem dX7_readsClock_9 : decode cX7_readsClock 9 = .ok (.getfield 16, 3) := by decide +kernel
theorem dX7_readsClock_12 : decode cX7_readsClock 12 = .ok (.ldc 141, 2) := by decide +kernel
theorem dX7_readsClock_14 : decode cX7_readsClock 14 = .ok (.invokevirtual 67, 3) := by decide +kernel
theorem dX7_readsClock_17 : decode cX7_readsClock 17 = .ok (.ifCond .ne 5, 3) := by decide +kernel
theorem dX7_readsClock_20 : decode cX7_readsClock 20 = .ok (.iconst 0, 1) := by decide +kernel
theorem dX7_readsClock_21 : decode cX7_readsClock 21 = .ok (.ireturn, 1) := by decide +kernel
theorem dX7_readsClock_22 : decode cX7_readsClock 22 = .ok (.aload_n 0, 1) := by decide +kernel
theorem dX7_readsClock_23 : decode cX7_readsClock 23 = .ok (.getfield 16, 3) := by decide +kernel
theorem dX7_readsClock_26 : decode cX7_readsClock 26 = .ok (.iconst 0, 1) := by decide +kernel
theorem dX7_readsClock_27 : decode cX7_readsClock 27 = .ok (.bipush 99, 2) := by decide +kernel
theorem dX7_readsClock_29 : decode cX7_readsClock 29 = .ok (.invokevirtual 121, 3) := by decide +kernel
theorem dX7_readsClock_32 : decode cX7_readsClock 32 = .ok (.istore_n 1, 1) := by decide +kernel
theorem dX7_readsClock_33 : decode cX7_readsClock 33 = .ok (.iload_n 1, 1) := by decide +kernel
theorem dX7_readsClock_34 : decode cX7_readsClock 34 = .ok (.iconst (-1), 1) := by decide +kernel
theorem dX7_readsClock_35 : decode cX7_readsClock 35 = .ok (.if_icmp .eq 15, 3) := by decide +kernel
theorem dX7_readsClock_38 : decode cX7_readsClock 38 = .ok (.aload_n 0, 1) := by decide +kernel
theorem dX7_readsClock_39 : decode cX7_readsClock 39 = .ok (.getfield 16, 3) := by decide +kernel
theorem dX7_readsClock_42 : decode cX7_readsClock 42 = .ok (.ldc 143, 2) := by decide +kernel
theorem dX7_readsClock_44 : decode cX7_readsClock 44 = .ok (.invokevirtual 67, 3) := by decide +kernel
theorem dX7_readsClock_47 : decode cX7_readsClock 47 = .ok (.ifCond .ne 5, 3) := by decide +kernel
theorem dX7_readsClock_50 : decode cX7_readsClock 50 = .ok (.iconst 0, 1) := by decide +kernel
theorem dX7_readsClock_51 : decode cX7_readsClock 51 = .ok (.ireturn, 1) := by decide +kernel
theorem dX7_readsClock_52 : decode cX7_readsClock 52 = .ok (.aload_n 0, 1) := by decide +kernel
theorem dX7_readsClock_53 : decode cX7_readsClock 53 = .ok (.getfield 16, 3) := by decide +kernel
theorem dX7_readsClock_56 : decode cX7_readsClock 56 = .ok (.iconst 0, 1) := by decide +kernel
theorem dX7_readsClock_57 : decode cX7_readsClock 57 = .ok (.bipush 99, 2) := by decide +kernel
theorem dX7_readsClock_59 : decode cX7_readsClock 59 = .ok (.invokevirtual 121, 3) := by decide +kernel
theorem dX7_readsClock_62 : decode cX7_readsClock 62 = .ok (.istore_n 2, 1) := by decide +kernel
theorem dX7_readsClock_63 : decode cX7_readsClock 63 = .ok (.aload_n 0, 1) := by decide +kernel
theorem dX7_readsClock_64 : decode cX7_readsClock 64 = .ok (.getfield 24, 3) := by decide +kernel
theorem dX7_readsClock_67 : decode cX7_readsClock 67 = .ok (.iconst 3, 1) := by decide +kernel
theorem dX7_readsClock_68 : decode cX7_readsClock 68 = .ok (.iload_n 1, 1) := by decide +kernel
theorem dX7_readsClock_69 : decode cX7_readsClock 69 = .ok (.iload_n 2, 1) := by decide +kernel
theorem dX7_readsClock_70 : decode cX7_readsClock 70 = .ok (.iconst (-1), 1) := by decide +kernel
theorem dX7_readsClock_71 : decode cX7_readsClock 71 = .ok (.iconst (-1), 1) := by decide +kernel
theorem dX7_readsClock_72 : decode cX7_readsClock 72 = .ok (.invokevirtual 130, 3) := by decide +kernel
theorem dX7_readsClock_75 : decode cX7_readsClock 75 = .ok (.iload_n 2, 1) := by decide +kernel
theorem dX7_readsClock_76 : decode cX7_readsClock 76 = .ok (.iconst (-1), 1) := by decide +kernel
theorem dX7_readsClock_77 : decode cX7_readsClock 77 = .ok (.if_icmp .eq 7, 3) := by decide +kernel
theorem dX7_readsClock_80 : decode cX7_readsClock 80 = .ok (.iconst 1, 1) := by decide +kernel
theorem dX7_readsClock_81 : decode cX7_readsClock 81 = .ok (.goto 4, 3) := by decide +kernel
theorem dX7_readsClock_84 : decode cX7_readsClock 84 = .ok (.iconst 0, 1) := by decide +kernel
theorem dX7_readsClock_85 : decode cX7_readsClock 85 = .ok (.ireturn, 1) := by decide +kernel
theorem dX7_readsSun_0 : decode cX7_readsSun 0 = .ok (.aload_n 0, 1) := by decide +kernel
theorem dX7_readsSun_1 : decode cX7_readsSun 1 = .ok (.getfield 24, 3) := by decide +kernel
theorem dX7_readsSun_4 : decode cX7_readsSun 4 = .ok (.iconst 4, 1) := by decide +kernel
theorem dX7_readsSun_5 : decode cX7_readsSun 5 = .ok (.invokevirtual 101, 3) := by decide +kernel
theorem dX7_readsSun_8 : decode cX7_readsSun 8 = .ok (.ifCond .ne 5, 3) := by decide +kernel
theorem dX7_readsSun_11 : decode cX7_readsSun 11 = .ok (.iconst 0, 1) := by decide +kernel
theorem dX7_readsSun_12 : decode cX7_readsSun 12 = .ok (.ireturn, 1) := by decide +kernel
theorem dX7_readsSun_13 : decode cX7_readsSun 13 = .ok (.aload_n 0, 1) := by decide +kernel
theorem dX7_readsSun_14 : decode cX7_readsSun 14 = .ok (.getfield 16, 3) := by decide +kernel
theorem dX7_readsSun_17 : decode cX7_readsSun 17 = .ok (.iconst 0, 1) := by decide +kernel
theorem dX7_readsSun_18 : decode cX7_readsSun 18 = .ok (.bipush 11, 2) := by decide +kernel
theorem dX7_readsSun_20 : decode cX7_readsSun 20 = .ok (.invokevirtual 121, 3) := by decide +kernel
theorem dX7_readsSun_23 : decode cX7_readsSun 23 = .ok (.istore_n 1, 1) := by decide +kernel
theorem dX7_readsSun_24 : decode cX7_readsSun 24 = .ok (.iload_n 1, 1) := by decide +kernel
theorem dX7_readsSun_25 : decode cX7_readsSun 25 = .ok (.iconst (-1), 1) := by decide +kernel
theorem dX7_readsSun_26 : decode cX7_readsSun 26 = .ok (.if_icmp .ne 5, 3) := by decide +kernel
theorem dX7_readsSun_29 : decode cX7_readsSun 29 = .ok (.iconst 0, 1) := by decide +kernel
theorem dX7_readsSun_30 : decode cX7_readsSun 30 = .ok (.ireturn, 1) := by decide +kernel
theorem dX7_readsSun_31 : decode cX7_readsSun 31 = .ok (.aload_n 0, 1) := by decide +kernel
theorem dX7_readsSun_32 : decode cX7_readsSun 32 = .ok (.getfield 24, 3) := by decide +kernel
theorem dX7_readsSun_35 : decode cX7_readsSun 35 = .ok (.iload_n 1, 1) := by decide +kernel
theorem dX7_readsSun_36 : decode cX7_readsSun 36 = .ok (.aload_n 0, 1) := by decide +kernel
theorem dX7_readsSun_37 : decode cX7_readsSun 37 = .ok (.getfield 24, 3) := by decide +kernel
theorem dX7_readsSun_40 : decode cX7_readsSun 40 = .ok (.iload_n 1, 1) := by decide +kernel
theorem dX7_readsSun_41 : decode cX7_readsSun 41 = .ok (.invokevirtual 145, 3) := by decide +kernel
theorem dX7_readsSun_44 : decode cX7_readsSun 44 = .ok (.iconst 1, 1) := by decide +kernel
theorem dX7_readsSun_45 : decode cX7_readsSun 45 = .ok (.isub, 1) := by decide +kernel
theorem dX7_readsSun_46 : decode cX7_readsSun 46 = .ok (.iconst 0, 1) := by decide +kernel
theorem dX7_readsSun_47 : decode cX7_readsSun 47 = .ok (.invokevirtual 149, 3) := by decide +kernel
theorem dX7_readsSun_50 : decode cX7_readsSun 50 = .ok (.istore_n 2, 1) := by decide +kernel
theorem dX7_readsSun_51 : decode cX7_readsSun 51 = .ok (.aload_n 0, 1) := by decide +kernel
theorem dX7_readsSun_52 : decode cX7_readsSun 52 = .ok (.getfield 16, 3) := by decide +kernel
theorem dX7_readsSun_55 : decode cX7_readsSun 55 = .ok (.iload_n 2, 1) := by decide +kernel
theorem dX7_readsSun_56 : decode cX7_readsSun 56 = .ok (.iconst 1, 1) := by decide +kernel
theorem dX7_readsSun_57 : decode cX7_readsSun 57 = .ok (.iadd, 1) := by decide +kernel
theorem dX7_readsSun_58 : decode cX7_readsSun 58 = .ok (.sipush 719, 3) := by decide +kernel
theorem dX7_readsSun_61 : decode cX7_readsSun 61 = .ok (.invokevirtual 121, 3) := by decide +kernel
theorem dX7_readsSun_64 : decode cX7_readsSun 64 = .ok (.istore_n 3, 1) := by decide +kernel
theorem dX7_readsSun_65 : decode cX7_readsSun 65 = .ok (.iload_n 3, 1) := by decide +kernel
theorem dX7_readsSun_66 : decode cX7_readsSun 66 = .ok (.iconst (-1), 1) := by decide +kernel
theorem dX7_readsSun_67 : decode cX7_readsSun 67 = .ok (.if_icmp .ne 8, 3) := by decide +kernel
theorem dX7_readsSun_70 : decode cX7_readsSun 70 = .ok (.bipush 100, 2) := by decide +kernel
theorem dX7_readsSun_72 : decode cX7_readsSun 72 = .ok (.goto 11, 3) := by decide +kernel
theorem dX7_readsSun_75 : decode cX7_readsSun 75 = .ok (.aload_n 0, 1) := by decide +kernel
theorem dX7_readsSun_76 : decode cX7_readsSun 76 = .ok (.ldc 153, 2) := by decide +kernel
theorem dX7_readsSun_78 : decode cX7_readsSun 78 = .ok (.ldc 155, 2) := by decide +kernel
theorem dX7_readsSun_80 : decode cX7_readsSun 80 = .ok (.invokevirtual 157, 3) := by decide +kernel
theorem dX7_readsSun_83 : decode cX7_readsSun 83 = .ok (.istore 4, 2) := by decide +kernel
theorem dX7_readsSun_85 : decode cX7_readsSun 85 = .ok (.iload 4, 2) := by decide +kernel
theorem dX7_readsSun_87 : decode cX7_readsSun 87 = .ok (.bipush 100, 2) := by decide +kernel
theorem dX7_readsSun_89 : decode cX7_readsSun 89 = .ok (.if_icmp .ne 8, 3) := by decide +kernel
theorem dX7_readsSun_92 : decode cX7_readsSun 92 = .ok (.bipush 100, 2) := by decide +kernel
theorem dX7_readsSun_94 : decode cX7_readsSun 94 = .ok (.goto 11, 3) := by decide +kernel
theorem dX7_readsSun_97 : decode cX7_readsSun 97 = .ok (.aload_n 0, 1) := by decide +kernel
theorem dX7_readsSun_98 : decode cX7_readsSun 98 = .ok (.ldc 161, 2) := by decide +kernel
theorem dX7_readsSun_100 : decode cX7_readsSun 100 = .ok (.ldc 163, 2) := by decide +kernel
theorem dX7_readsSun_102 : decode cX7_readsSun 102 = .ok (.invokevirtual 157, 3) := by decide +kernel
theorem dX7_readsSun_105 : decode cX7_readsSun 105 = .ok (.istore 5, 2) := by decide +kernel
theorem dX7_readsSun_107 : decode cX7_readsSun 107 = .ok (.iload 5, 2) := by decide +kernel
theorem dX7_readsSun_109 : decode cX7_readsSun 109 = .ok (.bipush 100, 2) := by decide +kernel
theorem dX7_readsSun_111 : decode cX7_readsSun 111 = .ok (.if_icmp .ne 5, 3) := by decide +kernel
theorem dX7_readsSun_114 : decode cX7_readsSun 114 = .ok (.iconst 0, 1) := by decide +kernel
theorem dX7_readsSun_115 : decode cX7_readsSun 115 = .ok (.ireturn, 1) := by decide +kernel
theorem dX7_readsSun_116 : decode cX7_readsSun 116 = .ok (.aload_n 0, 1) := by decide +kernel
theorem dX7_readsSun_117 : decode cX7_readsSun 117 = .ok (.getfield 24, 3) := by decide +kernel
theorem dX7_readsSun_120 : decode cX7_readsSun 120 = .ok (.iload_n 1, 1) := by decide +kernel
theorem dX7_readsSun_121 : decode cX7_readsSun 121 = .ok (.iload_n 3, 1) := by decide +kernel
theorem dX7_readsSun_122 : decode cX7_readsSun 122 = .ok (.iload 4, 2) := by decide +kernel
theorem dX7_readsSun_124 : decode cX7_readsSun 124 = .ok (.iload 5, 2) := by decide +kernel
theorem dX7_readsSun_126 : decode cX7_readsSun 126 = .ok (.invokevirtual 165, 3) := by decide +kernel
theorem dX7_readsSun_129 : decode cX7_readsSun 129 = .ok (.iconst 1, 1) := by decide +kernel
theorem dX7_readsSun_130 : decode cX7_readsSun 130 = .ok (.ireturn, 1) := by decide +kernel
theorem dX7_takeLong_0 : decode cX7_takeLong 0 = .ok (.aload_n 0, 1) := by decide +kernel
theorem dX7_takeLong_1 : decode cX7_takeLong 1 = .ok (.getfield 16, 3) := by decide +kernel
theorem dX7_takeLong_4 : decode cX7_takeLong 4 = .ok (.aload_n 1, 1) := by decide +kernel
theorem dX7_takeLong_5 : decode cX7_takeLong 5 = .ok (.invokevirtual 67, 3) := by decide +kernel
theorem dX7_takeLong_8 : decode cX7_takeLong 8 = .ok (.istore_n 3, 1) := by decide +kernel
theorem dX7_takeLong_9 : decode cX7_takeLong 9 = .ok (.iload_n 3, 1) := by decide +kernel
theorem dX7_takeLong_10 : decode cX7_takeLong 10 = .ok (.ifCond .ne 17, 3) := by decide +kernel
theorem dX7_takeLong_13 : decode cX7_takeLong 13 = .ok (.aload_n 0, 1) := by decide +kernel
theorem dX7_takeLong_14 : decode cX7_takeLong 14 = .ok (.getfield 16, 3) := by decide +kernel
theorem dX7_takeLong_17 : decode cX7_takeLong 17 = .ok (.aload_n 2, 1) := by decide +kernel
theorem dX7_takeLong_18 : decode cX7_takeLong 18 = .ok (.invokevirtual 67, 3) := by decide +kernel
theorem dX7_takeLong_21 : decode cX7_takeLong 21 = .ok (.ifCond .ne 6, 3) := by decide +kernel
theorem dX7_takeLong_24 : decode cX7_takeLong 24 = .ok (.bipush 100, 2) := by decide +kernel
theorem dX7_takeLong_26 : decode cX7_takeLong 26 = .ok (.ireturn, 1) := by decide +kernel
theorem dX7_takeLong_27 : decode cX7_takeLong 27 = .ok (.aload_n 0, 1) := by decide +kernel
theorem dX7_takeLong_28 : decode cX7_takeLong 28 = .ok (.getfield 16, 3) := by decide +kernel
theorem dX7_takeLong_31 : decode cX7_takeLong 31 = .ok (.iconst 0, 1) := by decide +kernel
theorem dX7_takeLong_32 : decode cX7_takeLong 32 = .ok (.bipush 99, 2) := by decide +kernel
theorem dX7_takeLong_34 : decode cX7_takeLong 34 = .ok (.invokevirtual 121, 3) := by decide +kernel
theorem dX7_takeLong_37 : decode cX7_takeLong 37 = .ok (.istore 4, 2) := by decide +kernel
theorem dX7_takeLong_39 : decode cX7_takeLong 39 = .ok (.iload 4, 2) := by decide +kernel
theorem dX7_takeLong_41 : decode cX7_takeLong 41 = .ok (.iconst (-1), 1) := by decide +kernel
theorem dX7_takeLong_42 : decode cX7_takeLong 42 = .ok (.if_icmp .ne 6, 3) := by decide +kernel
theorem dX7_takeLong_45 : decode cX7_takeLong 45 = .ok (.bipush 100, 2) := by decide +kernel
theorem dX7_takeLong_47 : decode cX7_takeLong 47 = .ok (.ireturn, 1) := by decide +kernel
theorem dX7_takeLong_48 : decode cX7_takeLong 48 = .ok (.iload_n 3, 1) := by decide +kernel
theorem dX7_takeLong_49 : decode cX7_takeLong 49 = .ok (.ifCond .eq 8, 3) := by decide +kernel
theorem dX7_takeLong_52 : decode cX7_takeLong 52 = .ok (.iload 4, 2) := by decide +kernel
theorem dX7_takeLong_54 : decode cX7_takeLong 54 = .ok (.goto 6, 3) := by decide +kernel
theorem dX7_takeLong_57 : decode cX7_takeLong 57 = .ok (.iload 4, 2) := by decide +kernel
theorem dX7_takeLong_59 : decode cX7_takeLong 59 = .ok (.ineg, 1) := by decide +kernel
theorem dX7_takeLong_60 : decode cX7_takeLong 60 = .ok (.ireturn, 1) := by decide +kernel
theorem dX7_readsSign_0 : decode cX7_readsSign 0 = .ok (.aload_n 0, 1) := by decide +kernel
theorem dX7_readsSign_1 : decode cX7_readsSign 1 = .ok (.getfield 16, 3) := by decide +kernel
theorem dX7_readsSign_4 : decode cX7_readsSign 4 = .ok (.ldc 169, 2) := by decide +kernel
theorem dX7_readsSign_6 : decode cX7_readsSign 6 = .ok (.invokevirtual 67, 3) := by decide +kernel
theorem dX7_readsSign_9 : decode cX7_readsSign 9 = .ok (.ifCond .eq 10, 3) := by decide +kernel
theorem dX7_readsSign_12 : decode cX7_readsSign 12 = .ok (.aload_n 0, 1) := by decide +kernel
theorem dX7_readsSign_13 : decode cX7_readsSign 13 = .ok (.iconst 0, 1) := by decide +kernel
theorem dX7_readsSign_14 : decode cX7_readsSign 14 = .ok (.iconst 0, 1) := by decide +kernel
theorem dX7_readsSign_15 : decode cX7_readsSign 15 = .ok (.invokevirtual 171, 3) := by decide +kernel
theorem dX7_readsSign_18 : decode cX7_readsSign 18 = .ok (.ireturn, 1) := by decide +kernel
theorem dX7_readsSign_19 : decode cX7_readsSign 19 = .ok (.aload_n 0, 1) := by decide +kernel
theorem dX7_readsSign_20 : decode cX7_readsSign 20 = .ok (.getfield 16, 3) := by decide +kernel
theorem dX7_readsSign_23 : decode cX7_readsSign 23 = .ok (.ldc 175, 2) := by decide +kernel
theorem dX7_readsSign_25 : decode cX7_readsSign 25 = .ok (.invokevirtual 67, 3) := by decide +kernel
theorem dX7_readsSign_28 : decode cX7_readsSign 28 = .ok (.ifCond .eq 10, 3) := by decide +kernel
theorem dX7_readsSign_31 : decode cX7_readsSign 31 = .ok (.aload_n 0, 1) := by decide +kernel
theorem dX7_readsSign_32 : decode cX7_readsSign 32 = .ok (.iconst 1, 1) := by decide +kernel
theorem dX7_readsSign_33 : decode cX7_readsSign 33 = .ok (.iconst 0, 1) := by decide +kernel
theorem dX7_readsSign_34 : decode cX7_readsSign 34 = .ok (.invokevirtual 171, 3) := by decide +kernel
theorem dX7_readsSign_37 : decode cX7_readsSign 37 = .ok (.ireturn, 1) := by decide +kernel
theorem dX7_readsSign_38 : decode cX7_readsSign 38 = .ok (.aload_n 0, 1) := by decide +kernel
theorem dX7_readsSign_39 : decode cX7_readsSign 39 = .ok (.getfield 16, 3) := by decide +kernel
theorem dX7_readsSign_42 : decode cX7_readsSign 42 = .ok (.ldc 134, 2) := by decide +kernel
theorem dX7_readsSign_44 : decode cX7_readsSign 44 = .ok (.invokevirtual 67, 3) := by decide +kernel
theorem dX7_readsSign_47 : decode cX7_readsSign 47 = .ok (.ifCond .eq 10, 3) := by decide +kernel
theorem dX7_readsSign_50 : decode cX7_readsSign 50 = .ok (.aload_n 0, 1) := by decide +kernel
theorem dX7_readsSign_51 : decode cX7_readsSign 51 = .ok (.iconst 2, 1) := by decide +kernel
theorem dX7_readsSign_52 : decode cX7_readsSign 52 = .ok (.iconst 1, 1) := by decide +kernel
theorem dX7_readsSign_53 : decode cX7_readsSign 53 = .ok (.invokevirtual 171, 3) := by decide +kernel
theorem dX7_readsSign_56 : decode cX7_readsSign 56 = .ok (.ireturn, 1) := by decide +kernel
theorem dX7_readsSign_57 : decode cX7_readsSign 57 = .ok (.aload_n 0, 1) := by decide +kernel
theorem dX7_readsSign_58 : decode cX7_readsSign 58 = .ok (.getfield 16, 3) := by decide +kernel
theorem dX7_readsSign_61 : decode cX7_readsSign 61 = .ok (.ldc 136, 2) := by decide +kernel
theorem dX7_readsSign_63 : decode cX7_readsSign 63 = .ok (.invokevirtual 67, 3) := by decide +kernel
theorem dX7_readsSign_66 : decode cX7_readsSign 66 = .ok (.ifCond .eq 10, 3) := by decide +kernel
theorem dX7_readsSign_69 : decode cX7_readsSign 69 = .ok (.aload_n 0, 1) := by decide +kernel
theorem dX7_readsSign_70 : decode cX7_readsSign 70 = .ok (.iconst 3, 1) := by decide +kernel
theorem dX7_readsSign_71 : decode cX7_readsSign 71 = .ok (.iconst 1, 1) := by decide +kernel
theorem dX7_readsSign_72 : decode cX7_readsSign 72 = .ok (.invokevirtual 171, 3) := by decide +kernel
theorem dX7_readsSign_75 : decode cX7_readsSign 75 = .ok (.ireturn, 1) := by decide +kernel
theorem dX7_readsSign_76 : decode cX7_readsSign 76 = .ok (.aload_n 0, 1) := by decide +kernel
theorem dX7_readsSign_77 : decode cX7_readsSign 77 = .ok (.getfield 16, 3) := by decide +kernel
theorem dX7_readsSign_80 : decode cX7_readsSign 80 = .ok (.ldc 177, 2) := by decide +kernel
theorem dX7_readsSign_82 : decode cX7_readsSign 82 = .ok (.invokevirtual 67, 3) := by decide +kernel
theorem dX7_readsSign_85 : decode cX7_readsSign 85 = .ok (.ifCond .eq 8, 3) := by decide +kernel
theorem dX7_readsSign_88 : decode cX7_readsSign 88 = .ok (.aload_n 0, 1) := by decide +kernel
theorem dX7_readsSign_89 : decode cX7_readsSign 89 = .ok (.invokevirtual 179, 3) := by decide +kernel
theorem dX7_readsSign_92 : decode cX7_readsSign 92 = .ok (.ireturn, 1) := by decide +kernel
theorem dX7_readsSign_93 : decode cX7_readsSign 93 = .ok (.aload_n 0, 1) := by decide +kernel
theorem dX7_readsSign_94 : decode cX7_readsSign 94 = .ok (.getfield 16, 3) := by decide +kernel
theorem dX7_readsSign_97 : decode cX7_readsSign 97 = .ok (.ldc 84, 2) := by decide +kernel
theorem dX7_readsSign_99 : decode cX7_readsSign 99 = .ok (.invokevirtual 67, 3) := by decide +kernel
theorem dX7_readsSign_102 : decode cX7_readsSign 102 = .ok (.ifCond .eq 8, 3) := by decide +kernel
theorem dX7_readsSign_105 : decode cX7_readsSign 105 = .ok (.aload_n 0, 1) := by decide +kernel
theorem dX7_readsSign_106 : decode cX7_readsSign 106 = .ok (.invokevirtual 182, 3) := by decide +kernel
theorem dX7_readsSign_109 : decode cX7_readsSign 109 = .ok (.ireturn, 1) := by decide +kernel
theorem dX7_readsSign_110 : decode cX7_readsSign 110 = .ok (.aload_n 0, 1) := by decide +kernel
theorem dX7_readsSign_111 : decode cX7_readsSign 111 = .ok (.getfield 16, 3) := by decide +kernel
theorem dX7_readsSign_114 : decode cX7_readsSign 114 = .ok (.ldc 185, 2) := by decide +kernel
theorem dX7_readsSign_116 : decode cX7_readsSign 116 = .ok (.invokevirtual 67, 3) := by decide +kernel
theorem dX7_readsSign_119 : decode cX7_readsSign 119 = .ok (.ifCond .eq 12, 3) := by decide +kernel
theorem dX7_readsSign_122 : decode cX7_readsSign 122 = .ok (.aload_n 0, 1) := by decide +kernel
theorem dX7_readsSign_123 : decode cX7_readsSign 123 = .ok (.bipush 6, 2) := by decide +kernel
theorem dX7_readsSign_125 : decode cX7_readsSign 125 = .ok (.bipush 6, 2) := by decide +kernel
theorem dX7_readsSign_127 : decode cX7_readsSign 127 = .ok (.invokevirtual 187, 3) := by decide +kernel
theorem dX7_readsSign_130 : decode cX7_readsSign 130 = .ok (.ireturn, 1) := by decide +kernel
theorem dX7_readsSign_131 : decode cX7_readsSign 131 = .ok (.aload_n 0, 1) := by decide +kernel
theorem dX7_readsSign_132 : decode cX7_readsSign 132 = .ok (.getfield 16, 3) := by decide +kernel
theorem dX7_readsSign_135 : decode cX7_readsSign 135 = .ok (.ldc 190, 2) := by decide +kernel
theorem dX7_readsSign_137 : decode cX7_readsSign 137 = .ok (.invokevirtual 67, 3) := by decide +kernel
theorem dX7_readsSign_140 : decode cX7_readsSign 140 = .ok (.ifCond .eq 12, 3) := by decide +kernel
theorem dX7_readsSign_143 : decode cX7_readsSign 143 = .ok (.aload_n 0, 1) := by decide +kernel
theorem dX7_readsSign_144 : decode cX7_readsSign 144 = .ok (.bipush 7, 2) := by decide +kernel
theorem dX7_readsSign_146 : decode cX7_readsSign 146 = .ok (.bipush 9, 2) := by decide +kernel
theorem dX7_readsSign_148 : decode cX7_readsSign 148 = .ok (.invokevirtual 187, 3) := by decide +kernel
theorem dX7_readsSign_151 : decode cX7_readsSign 151 = .ok (.ireturn, 1) := by decide +kernel
theorem dX7_readsSign_152 : decode cX7_readsSign 152 = .ok (.aload_n 0, 1) := by decide +kernel
theorem dX7_readsSign_153 : decode cX7_readsSign 153 = .ok (.getfield 16, 3) := by decide +kernel
theorem dX7_readsSign_156 : decode cX7_readsSign 156 = .ok (.ldc 192, 2) := by decide +kernel
theorem dX7_readsSign_158 : decode cX7_readsSign 158 = .ok (.invokevirtual 67, 3) := by decide +kernel
theorem dX7_readsSign_161 : decode cX7_readsSign 161 = .ok (.ifCond .eq 10, 3) := by decide +kernel
theorem dX7_readsSign_164 : decode cX7_readsSign 164 = .ok (.aload_n 0, 1) := by decide +kernel
theorem dX7_readsSign_165 : decode cX7_readsSign 165 = .ok (.bipush 8, 2) := by decide +kernel
theorem dX7_readsSign_167 : decode cX7_readsSign 167 = .ok (.invokevirtual 194, 3) := by decide +kernel
theorem dX7_readsSign_170 : decode cX7_readsSign 170 = .ok (.ireturn, 1) := by decide +kernel
theorem dX7_readsSign_171 : decode cX7_readsSign 171 = .ok (.aload_n 0, 1) := by decide +kernel
theorem dX7_readsSign_172 : decode cX7_readsSign 172 = .ok (.getfield 16, 3) := by decide +kernel
theorem dX7_readsSign_175 : decode cX7_readsSign 175 = .ok (.ldc 197, 2) := by decide +kernel
theorem dX7_readsSign_177 : decode cX7_readsSign 177 = .ok (.invokevirtual 67, 3) := by decide +kernel
theorem dX7_readsSign_180 : decode cX7_readsSign 180 = .ok (.ifCond .eq 16, 3) := by decide +kernel
theorem dX7_readsSign_183 : decode cX7_readsSign 183 = .ok (.aload_n 0, 1) := by decide +kernel
theorem dX7_readsSign_184 : decode cX7_readsSign 184 = .ok (.bipush 9, 2) := by decide +kernel
theorem dX7_readsSign_186 : decode cX7_readsSign 186 = .ok (.invokevirtual 194, 3) := by decide +kernel
theorem dX7_readsSign_189 : decode cX7_readsSign 189 = .ok (.ifCond .eq 7, 3) := by decide +kernel
theorem dX7_readsSign_192 : decode cX7_readsSign 192 = .ok (.iconst 1, 1) := by decide +kernel
theorem dX7_readsSign_193 : decode cX7_readsSign 193 = .ok (.goto 4, 3) := by decide +kernel
theorem dX7_readsSign_196 : decode cX7_readsSign 196 = .ok (.iconst 0, 1) := by decide +kernel
theorem dX7_readsSign_197 : decode cX7_readsSign 197 = .ok (.ireturn, 1) := by decide +kernel
theorem dX7_takeTold_0 : decode cX7_takeTold 0 = .ok (.aload_n 0, 1) := by decide +kernel
theorem dX7_takeTold_1 : decode cX7_takeTold 1 = .ok (.getfield 20, 3) := by decide +kernel
theorem dX7_takeTold_4 : decode cX7_takeTold 4 = .ok (.iload_n 1, 1) := by decide +kernel
theorem dX7_takeTold_5 : decode cX7_takeTold 5 = .ok (.aload_n 0, 1) := by decide +kernel
theorem dX7_takeTold_6 : decode cX7_takeTold 6 = .ok (.getfield 16, 3) := by decide +kernel
theorem dX7_takeTold_9 : decode cX7_takeTold 9 = .ok (.invokevirtual 94, 3) := by decide +kernel
theorem dX7_takeTold_12 : decode cX7_takeTold 12 = .ok (.invokevirtual 199, 3) := by decide +kernel
theorem dX7_takeTold_15 : decode cX7_takeTold 15 = .ok (.istore_n 2, 1) := by decide +kernel
theorem dX7_takeTold_16 : decode cX7_takeTold 16 = .ok (.iload_n 2, 1) := by decide +kernel
theorem dX7_takeTold_17 : decode cX7_takeTold 17 = .ok (.iconst (-1), 1) := by decide +kernel
theorem dX7_takeTold_18 : decode cX7_takeTold 18 = .ok (.if_icmp .eq 10, 3) := by decide +kernel
theorem dX7_takeTold_21 : decode cX7_takeTold 21 = .ok (.aload_n 0, 1) := by decide +kernel
theorem dX7_takeTold_22 : decode cX7_takeTold 22 = .ok (.getfield 16, 3) := by decide +kernel
theorem dX7_takeTold_25 : decode cX7_takeTold 25 = .ok (.invokevirtual 113, 3) := by decide +kernel
theorem dX7_takeTold_28 : decode cX7_takeTold 28 = .ok (.iload_n 2, 1) := by decide +kernel
theorem dX7_takeTold_29 : decode cX7_takeTold 29 = .ok (.ireturn, 1) := by decide +kernel
theorem dX7_readsNamed_0 : decode cX7_readsNamed 0 = .ok (.aload_n 0, 1) := by decide +kernel
theorem dX7_readsNamed_1 : decode cX7_readsNamed 1 = .ok (.iload_n 2, 1) := by decide +kernel
theorem dX7_readsNamed_2 : decode cX7_readsNamed 2 = .ok (.invokevirtual 203, 3) := by decide +kernel
theorem dX7_readsNamed_5 : decode cX7_readsNamed 5 = .ok (.istore_n 3, 1) := by decide +kernel
theorem dX7_readsNamed_6 : decode cX7_readsNamed 6 = .ok (.iload_n 3, 1) := by decide +kernel
theorem dX7_readsNamed_7 : decode cX7_readsNamed 7 = .ok (.iconst (-1), 1) := by decide +kernel
theorem dX7_readsNamed_8 : decode cX7_readsNamed 8 = .ok (.if_icmp .eq 22, 3) := by decide +kernel
theorem dX7_readsNamed_11 : decode cX7_readsNamed 11 = .ok (.aload_n 0, 1) := by decide +kernel
theorem dX7_readsNamed_12 : decode cX7_readsNamed 12 = .ok (.getfield 27, 3) := by decide +kernel
theorem dX7_readsNamed_15 : decode cX7_readsNamed 15 = .ok (.iload_n 1, 1) := by decide +kernel
theorem dX7_readsNamed_16 : decode cX7_readsNamed 16 = .ok (.iload_n 3, 1) := by decide +kernel
theorem dX7_readsNamed_17 : decode cX7_readsNamed 17 = .ok (.iconst (-1), 1) := by decide +kernel
theorem dX7_readsNamed_18 : decode cX7_readsNamed 18 = .ok (.iconst (-1), 1) := by decide +kernel
theorem dX7_readsNamed_19 : decode cX7_readsNamed 19 = .ok (.iconst (-1), 1) := by decide +kernel
theorem dX7_readsNamed_20 : decode cX7_readsNamed 20 = .ok (.invokevirtual 206, 3) := by decide +kernel
theorem dX7_readsNamed_23 : decode cX7_readsNamed 23 = .ok (.ifCond .eq 7, 3) := by decide +kernel
theorem dX7_readsNamed_26 : decode cX7_readsNamed 26 = .ok (.iconst 1, 1) := by decide +kernel
theorem dX7_readsNamed_27 : decode cX7_readsNamed 27 = .ok (.goto 4, 3) := by decide +kernel
theorem dX7_readsNamed_30 : decode cX7_readsNamed 30 = .ok (.iconst 0, 1) := by decide +kernel
theorem dX7_readsNamed_31 : decode cX7_readsNamed 31 = .ok (.ireturn, 1) := by decide +kernel
theorem dX7_readsNumbered_0 : decode cX7_readsNumbered 0 = .ok (.aload_n 0, 1) := by decide +kernel
theorem dX7_readsNumbered_1 : decode cX7_readsNumbered 1 = .ok (.getfield 16, 3) := by decide +kernel
theorem dX7_readsNumbered_4 : decode cX7_readsNumbered 4 = .ok (.iconst 0, 1) := by decide +kernel
theorem dX7_readsNumbered_5 : decode cX7_readsNumbered 5 = .ok (.iload_n 2, 1) := by decide +kernel
theorem dX7_readsNumbered_6 : decode cX7_readsNumbered 6 = .ok (.invokevirtual 121, 3) := by decide +kernel
theorem dX7_readsNumbered_9 : decode cX7_readsNumbered 9 = .ok (.istore_n 3, 1) := by decide +kernel
theorem dX7_readsNumbered_10 : decode cX7_readsNumbered 10 = .ok (.iload_n 3, 1) := by decide +kernel
theorem dX7_readsNumbered_11 : decode cX7_readsNumbered 11 = .ok (.iconst (-1), 1) := by decide +kernel
theorem dX7_readsNumbered_12 : decode cX7_readsNumbered 12 = .ok (.if_icmp .eq 22, 3) := by decide +kernel
theorem dX7_readsNumbered_15 : decode cX7_readsNumbered 15 = .ok (.aload_n 0, 1) := by decide +kernel
theorem dX7_readsNumbered_16 : decode cX7_readsNumbered 16 = .ok (.getfield 27, 3) := by decide +kernel
theorem dX7_readsNumbered_19 : decode cX7_readsNumbered 19 = .ok (.iload_n 1, 1) := by decide +kernel
theorem dX7_readsNumbered_20 : decode cX7_readsNumbered 20 = .ok (.iload_n 3, 1) := by decide +kernel
theorem dX7_readsNumbered_21 : decode cX7_readsNumbered 21 = .ok (.iconst (-1), 1) := by decide +kernel
theorem dX7_readsNumbered_22 : decode cX7_readsNumbered 22 = .ok (.iconst (-1), 1) := by decide +kernel
theorem dX7_readsNumbered_23 : decode cX7_readsNumbered 23 = .ok (.iconst (-1), 1) := by decide +kernel
theorem dX7_readsNumbered_24 : decode cX7_readsNumbered 24 = .ok (.invokevirtual 206, 3) := by decide +kernel
theorem dX7_readsNumbered_27 : decode cX7_readsNumbered 27 = .ok (.ifCond .eq 7, 3) := by decide +kernel
theorem dX7_readsNumbered_30 : decode cX7_readsNumbered 30 = .ok (.iconst 1, 1) := by decide +kernel
theorem dX7_readsNumbered_31 : decode cX7_readsNumbered 31 = .ok (.goto 4, 3) := by decide +kernel
theorem dX7_readsNumbered_34 : decode cX7_readsNumbered 34 = .ok (.iconst 0, 1) := by decide +kernel
theorem dX7_readsNumbered_35 : decode cX7_readsNumbered 35 = .ok (.ireturn, 1) := by decide +kernel
theorem dX7_readsShadow_0 : decode cX7_readsShadow 0 = .ok (.aload_n 0, 1) := by decide +kernel
theorem dX7_readsShadow_1 : decode cX7_readsShadow 1 = .ok (.iconst 2, 1) := by decide +kernel
theorem dX7_readsShadow_2 : decode cX7_readsShadow 2 = .ok (.invokevirtual 203, 3) := by decide +kernel
theorem dX7_readsShadow_5 : decode cX7_readsShadow 5 = .ok (.istore_n 1, 1) := by decide +kernel
theorem dX7_readsShadow_6 : decode cX7_readsShadow 6 = .ok (.iload_n 1, 1) := by decide +kernel
theorem dX7_readsShadow_7 : decode cX7_readsShadow 7 = .ok (.iconst (-1), 1) := by decide +kernel
theorem dX7_readsShadow_8 : decode cX7_readsShadow 8 = .ok (.if_icmp .ne 7, 3) := by decide +kernel
theorem dX7_readsShadow_11 : decode cX7_readsShadow 11 = .ok (.iconst (-1), 1) := by decide +kernel
theorem dX7_readsShadow_12 : decode cX7_readsShadow 12 = .ok (.goto 13, 3) := by decide +kernel
theorem dX7_readsShadow_15 : decode cX7_readsShadow 15 = .ok (.aload_n 0, 1) := by decide +kernel
theorem dX7_readsShadow_16 : decode cX7_readsShadow 16 = .ok (.getfield 16, 3) := by decide +kernel
theorem dX7_readsShadow_19 : decode cX7_readsShadow 19 = .ok (.iconst 0, 1) := by decide +kernel
theorem dX7_readsShadow_20 : decode cX7_readsShadow 20 = .ok (.bipush 31, 2) := by decide +kernel
theorem dX7_readsShadow_22 : decode cX7_readsShadow 22 = .ok (.invokevirtual 121, 3) := by decide +kernel
theorem dX7_readsShadow_25 : decode cX7_readsShadow 25 = .ok (.istore_n 2, 1) := by decide +kernel
theorem dX7_readsShadow_26 : decode cX7_readsShadow 26 = .ok (.iload_n 2, 1) := by decide +kernel
theorem dX7_readsShadow_27 : decode cX7_readsShadow 27 = .ok (.iconst (-1), 1) := by decide +kernel
theorem dX7_readsShadow_28 : decode cX7_readsShadow 28 = .ok (.if_icmp .ne 7, 3) := by decide +kernel
theorem dX7_readsShadow_31 : decode cX7_readsShadow 31 = .ok (.iconst (-1), 1) := by decide +kernel
theorem dX7_readsShadow_32 : decode cX7_readsShadow 32 = .ok (.goto 13, 3) := by decide +kernel
theorem dX7_readsShadow_35 : decode cX7_readsShadow 35 = .ok (.aload_n 0, 1) := by decide +kernel
theorem dX7_readsShadow_36 : decode cX7_readsShadow 36 = .ok (.getfield 16, 3) := by decide +kernel
theorem dX7_readsShadow_39 : decode cX7_readsShadow 39 = .ok (.iconst 0, 1) := by decide +kernel
theorem dX7_readsShadow_40 : decode cX7_readsShadow 40 = .ok (.bipush 31, 2) := by decide +kernel
theorem dX7_readsShadow_42 : decode cX7_readsShadow 42 = .ok (.invokevirtual 121, 3) := by decide +kernel
theorem dX7_readsShadow_45 : decode cX7_readsShadow 45 = .ok (.istore_n 3, 1) := by decide +kernel
theorem dX7_readsShadow_46 : decode cX7_readsShadow 46 = .ok (.iload_n 3, 1) := by decide +kernel
theorem dX7_readsShadow_47 : decode cX7_readsShadow 47 = .ok (.iconst (-1), 1) := by decide +kernel
theorem dX7_readsShadow_48 : decode cX7_readsShadow 48 = .ok (.if_icmp .ne 7, 3) := by decide +kernel
theorem dX7_readsShadow_51 : decode cX7_readsShadow 51 = .ok (.iconst (-1), 1) := by decide +kernel
theorem dX7_readsShadow_52 : decode cX7_readsShadow 52 = .ok (.goto 10, 3) := by decide +kernel
theorem dX7_readsShadow_55 : decode cX7_readsShadow 55 = .ok (.aload_n 0, 1) := by decide +kernel
theorem dX7_readsShadow_56 : decode cX7_readsShadow 56 = .ok (.getfield 16, 3) := by decide +kernel
theorem dX7_readsShadow_59 : decode cX7_readsShadow 59 = .ok (.invokevirtual 125, 3) := by decide +kernel
theorem dX7_readsShadow_62 : decode cX7_readsShadow 62 = .ok (.istore 4, 2) := by decide +kernel
theorem dX7_readsShadow_64 : decode cX7_readsShadow 64 = .ok (.iload 4, 2) := by decide +kernel
theorem dX7_readsShadow_66 : decode cX7_readsShadow 66 = .ok (.iconst (-1), 1) := by decide +kernel
theorem dX7_readsShadow_67 : decode cX7_readsShadow 67 = .ok (.if_icmp .eq 23, 3) := by decide +kernel
theorem dX7_readsShadow_70 : decode cX7_readsShadow 70 = .ok (.aload_n 0, 1) := by decide +kernel
theorem dX7_readsShadow_71 : decode cX7_readsShadow 71 = .ok (.getfield 27, 3) := by decide +kernel
theorem dX7_readsShadow_74 : decode cX7_readsShadow 74 = .ok (.iconst 4, 1) := by decide +kernel
theorem dX7_readsShadow_75 : decode cX7_readsShadow 75 = .ok (.iload_n 1, 1) := by decide +kernel
theorem dX7_readsShadow_76 : decode cX7_readsShadow 76 = .ok (.iload_n 2, 1) := by decide +kernel
theorem dX7_readsShadow_77 : decode cX7_readsShadow 77 = .ok (.iload_n 3, 1) := by decide +kernel
theorem dX7_readsShadow_78 : decode cX7_readsShadow 78 = .ok (.iload 4, 2) := by decide +kernel
theorem dX7_readsShadow_80 : decode cX7_readsShadow 80 = .ok (.invokevirtual 206, 3) := by decide +kernel
theorem dX7_readsShadow_83 : decode cX7_readsShadow 83 = .ok (.ifCond .eq 7, 3) := by decide +kernel
theorem dX7_readsShadow_86 : decode cX7_readsShadow 86 = .ok (.iconst 1, 1) := by decide +kernel
theorem dX7_readsShadow_87 : decode cX7_readsShadow 87 = .ok (.goto 4, 3) := by decide +kernel
theorem dX7_readsShadow_90 : decode cX7_readsShadow 90 = .ok (.iconst 0, 1) := by decide +kernel
theorem dX7_readsShadow_91 : decode cX7_readsShadow 91 = .ok (.ireturn, 1) := by decide +kernel
theorem dX7_readsShownTime_0 : decode cX7_readsShownTime 0 = .ok (.aload_n 0, 1) := by decide +kernel
theorem dX7_readsShownTime_1 : decode cX7_readsShownTime 1 = .ok (.iconst 3, 1) := by decide +kernel
theorem dX7_readsShownTime_2 : decode cX7_readsShownTime 2 = .ok (.invokevirtual 203, 3) := by decide +kernel
theorem dX7_readsShownTime_5 : decode cX7_readsShownTime 5 = .ok (.istore_n 1, 1) := by decide +kernel
theorem dX7_readsShownTime_6 : decode cX7_readsShownTime 6 = .ok (.iload_n 1, 1) := by decide +kernel
theorem dX7_readsShownTime_7 : decode cX7_readsShownTime 7 = .ok (.iconst (-1), 1) := by decide +kernel
theorem dX7_readsShownTime_8 : decode cX7_readsShownTime 8 = .ok (.if_icmp .ne 7, 3) := by decide +kernel
theorem dX7_readsShownTime_11 : decode cX7_readsShownTime 11 = .ok (.iconst (-1), 1) := by decide +kernel
theorem dX7_readsShownTime_12 : decode cX7_readsShownTime 12 = .ok (.goto 14, 3) := by decide +kernel
theorem dX7_readsShownTime_15 : decode cX7_readsShownTime 15 = .ok (.aload_n 0, 1) := by decide +kernel
theorem dX7_readsShownTime_16 : decode cX7_readsShownTime 16 = .ok (.getfield 16, 3) := by decide +kernel
theorem dX7_readsShownTime_19 : decode cX7_readsShownTime 19 = .ok (.iconst 0, 1) := by decide +kernel
theorem dX7_readsShownTime_20 : decode cX7_readsShownTime 20 = .ok (.sipush 719, 3) := by decide +kernel
theorem dX7_readsShownTime_23 : decode cX7_readsShownTime 23 = .ok (.invokevirtual 121, 3) := by decide +kernel
theorem dX7_readsShownTime_26 : decode cX7_readsShownTime 26 = .ok (.istore_n 2, 1) := by decide +kernel
theorem dX7_readsShownTime_27 : decode cX7_readsShownTime 27 = .ok (.iload_n 2, 1) := by decide +kernel
theorem dX7_readsShownTime_28 : decode cX7_readsShownTime 28 = .ok (.iconst (-1), 1) := by decide +kernel
theorem dX7_readsShownTime_29 : decode cX7_readsShownTime 29 = .ok (.if_icmp .eq 22, 3) := by decide +kernel
theorem dX7_readsShownTime_32 : decode cX7_readsShownTime 32 = .ok (.aload_n 0, 1) := by decide +kernel
theorem dX7_readsShownTime_33 : decode cX7_readsShownTime 33 = .ok (.getfield 27, 3) := by decide +kernel
theorem dX7_readsShownTime_36 : decode cX7_readsShownTime 36 = .ok (.iconst 5, 1) := by decide +kernel
theorem dX7_readsShownTime_37 : decode cX7_readsShownTime 37 = .ok (.iload_n 1, 1) := by decide +kernel
theorem dX7_readsShownTime_38 : decode cX7_readsShownTime 38 = .ok (.iload_n 2, 1) := by decide +kernel
theorem dX7_readsShownTime_39 : decode cX7_readsShownTime 39 = .ok (.iconst (-1), 1) := by decide +kernel
theorem dX7_readsShownTime_40 : decode cX7_readsShownTime 40 = .ok (.iconst (-1), 1) := by decide +kernel
theorem dX7_readsShownTime_41 : decode cX7_readsShownTime 41 = .ok (.invokevirtual 206, 3) := by decide +kernel
theorem dX7_readsShownTime_44 : decode cX7_readsShownTime 44 = .ok (.ifCond .eq 7, 3) := by decide +kernel
theorem dX7_readsShownTime_47 : decode cX7_readsShownTime 47 = .ok (.iconst 1, 1) := by decide +kernel
theorem dX7_readsShownTime_48 : decode cX7_readsShownTime 48 = .ok (.goto 4, 3) := by decide +kernel
theorem dX7_readsShownTime_51 : decode cX7_readsShownTime 51 = .ok (.iconst 0, 1) := by decide +kernel
theorem dX7_readsShownTime_52 : decode cX7_readsShownTime 52 = .ok (.ireturn, 1) := by decide +kernel
theorem dX7_readsTwoPosts_0 : decode cX7_readsTwoPosts 0 = .ok (.aload_n 0, 1) := by decide +kernel
theorem dX7_readsTwoPosts_1 : decode cX7_readsTwoPosts 1 = .ok (.iconst 2, 1) := by decide +kernel
theorem dX7_readsTwoPosts_2 : decode cX7_readsTwoPosts 2 = .ok (.invokevirtual 203, 3) := by decide +kernel
theorem dX7_readsTwoPosts_5 : decode cX7_readsTwoPosts 5 = .ok (.istore_n 2, 1) := by decide +kernel
theorem dX7_readsTwoPosts_6 : decode cX7_readsTwoPosts 6 = .ok (.iload_n 2, 1) := by decide +kernel
theorem dX7_readsTwoPosts_7 : decode cX7_readsTwoPosts 7 = .ok (.iconst (-1), 1) := by decide +kernel
theorem dX7_readsTwoPosts_8 : decode cX7_readsTwoPosts 8 = .ok (.if_icmp .eq 22, 3) := by decide +kernel
theorem dX7_readsTwoPosts_11 : decode cX7_readsTwoPosts 11 = .ok (.aload_n 0, 1) := by decide +kernel
theorem dX7_readsTwoPosts_12 : decode cX7_readsTwoPosts 12 = .ok (.getfield 20, 3) := by decide +kernel
theorem dX7_readsTwoPosts_15 : decode cX7_readsTwoPosts 15 = .ok (.iconst 2, 1) := by decide +kernel
theorem dX7_readsTwoPosts_16 : decode cX7_readsTwoPosts 16 = .ok (.aload_n 0, 1) := by decide +kernel
theorem dX7_readsTwoPosts_17 : decode cX7_readsTwoPosts 17 = .ok (.getfield 16, 3) := by decide +kernel
theorem dX7_readsTwoPosts_20 : decode cX7_readsTwoPosts 20 = .ok (.invokevirtual 94, 3) := by decide +kernel
theorem dX7_readsTwoPosts_23 : decode cX7_readsTwoPosts 23 = .ok (.invokevirtual 199, 3) := by decide +kernel
theorem dX7_readsTwoPosts_26 : decode cX7_readsTwoPosts 26 = .ok (.iload_n 2, 1) := by decide +kernel
theorem dX7_readsTwoPosts_27 : decode cX7_readsTwoPosts 27 = .ok (.if_icmp .ne 5, 3) := by decide +kernel
theorem dX7_readsTwoPosts_30 : decode cX7_readsTwoPosts 30 = .ok (.iconst 0, 1) := by decide +kernel
theorem dX7_readsTwoPosts_31 : decode cX7_readsTwoPosts 31 = .ok (.ireturn, 1) := by decide +kernel
theorem dX7_readsTwoPosts_32 : decode cX7_readsTwoPosts 32 = .ok (.aload_n 0, 1) := by decide +kernel
theorem dX7_readsTwoPosts_33 : decode cX7_readsTwoPosts 33 = .ok (.iconst 2, 1) := by decide +kernel
theorem dX7_readsTwoPosts_34 : decode cX7_readsTwoPosts 34 = .ok (.invokevirtual 203, 3) := by decide +kernel
theorem dX7_readsTwoPosts_37 : decode cX7_readsTwoPosts 37 = .ok (.istore_n 3, 1) := by decide +kernel
theorem dX7_readsTwoPosts_38 : decode cX7_readsTwoPosts 38 = .ok (.iload_n 3, 1) := by decide +kernel
theorem dX7_readsTwoPosts_39 : decode cX7_readsTwoPosts 39 = .ok (.iconst (-1), 1) := by decide +kernel
theorem dX7_readsTwoPosts_40 : decode cX7_readsTwoPosts 40 = .ok (.if_icmp .eq 22, 3) := by decide +kernel
theorem dX7_readsTwoPosts_43 : decode cX7_readsTwoPosts 43 = .ok (.aload_n 0, 1) := by decide +kernel
theorem dX7_readsTwoPosts_44 : decode cX7_readsTwoPosts 44 = .ok (.getfield 27, 3) := by decide +kernel
theorem dX7_readsTwoPosts_47 : decode cX7_readsTwoPosts 47 = .ok (.iload_n 1, 1) := by decide +kernel
theorem dX7_readsTwoPosts_48 : decode cX7_readsTwoPosts 48 = .ok (.iload_n 2, 1) := by decide +kernel
theorem dX7_readsTwoPosts_49 : decode cX7_readsTwoPosts 49 = .ok (.iload_n 3, 1) := by decide +kernel
theorem dX7_readsTwoPosts_50 : decode cX7_readsTwoPosts 50 = .ok (.iconst (-1), 1) := by decide +kernel
theorem dX7_readsTwoPosts_51 : decode cX7_readsTwoPosts 51 = .ok (.iconst (-1), 1) := by decide +kernel
theorem dX7_readsTwoPosts_52 : decode cX7_readsTwoPosts 52 = .ok (.invokevirtual 206, 3) := by decide +kernel
theorem dX7_readsTwoPosts_55 : decode cX7_readsTwoPosts 55 = .ok (.ifCond .eq 7, 3) := by decide +kernel
theorem dX7_readsTwoPosts_58 : decode cX7_readsTwoPosts 58 = .ok (.iconst 1, 1) := by decide +kernel
theorem dX7_readsTwoPosts_59 : decode cX7_readsTwoPosts 59 = .ok (.goto 4, 3) := by decide +kernel
theorem dX7_readsTwoPosts_62 : decode cX7_readsTwoPosts 62 = .ok (.iconst 0, 1) := by decide +kernel
theorem dX7_readsTwoPosts_63 : decode cX7_readsTwoPosts 63 = .ok (.ireturn, 1) := by decide +kernel
theorem dX8_init_0 : decode cX8_init 0 = .ok (.aload_n 0, 1) := by decide +kernel
theorem dX8_init_1 : decode cX8_init 1 = .ok (.invokespecial 3, 3) := by decide +kernel
theorem dX8_init_4 : decode cX8_init 4 = .ok (.aload_n 0, 1) := by decide +kernel
theorem dX8_init_5 : decode cX8_init 5 = .ok (.aload_n 1, 1) := by decide +kernel
theorem dX8_init_6 : decode cX8_init 6 = .ok (.putfield 9, 3) := by decide +kernel
theorem dX8_init_9 : decode cX8_init 9 = .ok (.return_, 1) := by decide +kernel
theorem dX8_begin_0 : decode cX8_begin 0 = .ok (.aload_n 0, 1) := by decide +kernel
theorem dX8_begin_1 : decode cX8_begin 1 = .ok (.iconst 0, 1) := by decide +kernel
theorem dX8_begin_2 : decode cX8_begin 2 = .ok (.iload_n 1, 1) := by decide +kernel
theorem dX8_begin_3 : decode cX8_begin 3 = .ok (.aload_n 0, 1) := by decide +kernel
theorem dX8_begin_4 : decode cX8_begin 4 = .ok (.getfield 9, 3) := by decide +kernel
theorem dX8_begin_7 : decode cX8_begin 7 = .ok (.arraylength, 1) := by decide +kernel
theorem dX8_begin_8 : decode cX8_begin 8 = .ok (.invokestatic 15, 3) := by decide +kernel
theorem dX8_begin_11 : decode cX8_begin 11 = .ok (.invokestatic 21, 3) := by decide +kernel
theorem dX8_begin_14 : decode cX8_begin 14 = .ok (.putfield 24, 3) := by decide +kernel
theorem dX8_begin_17 : decode cX8_begin 17 = .ok (.aload_n 0, 1) := by decide +kernel
theorem dX8_begin_18 : decode cX8_begin 18 = .ok (.iconst 0, 1) := by decide +kernel
theorem dX8_begin_19 : decode cX8_begin 19 = .ok (.putfield 28, 3) := by decide +kernel
theorem dX8_begin_22 : decode cX8_begin 22 = .ok (.aload_n 0, 1) := by decide +kernel
theorem dX8_begin_23 : decode cX8_begin 23 = .ok (.invokevirtual 31, 3) := by decide +kernel
theorem dX8_begin_26 : decode cX8_begin 26 = .ok (.return_, 1) := by decide +kernel
theorem dX8_placeOfToken_0 : decode cX8_placeOfToken 0 = .ok (.aload_n 0, 1) := by decide +kernel
theorem dX8_placeOfToken_1 : decode cX8_placeOfToken 1 = .ok (.getfield 34, 3) := by decide +kernel
theorem dX8_placeOfToken_4 : decode cX8_placeOfToken 4 = .ok (.ireturn, 1) := by decide +kernel
theorem dX8_ended_0 : decode cX8_ended 0 = .ok (.aload_n 0, 1) := by decide +kernel
theorem dX8_ended_1 : decode cX8_ended 1 = .ok (.getfield 37, 3) := by decide +kernel
theorem dX8_ended_4 : decode cX8_ended 4 = .ok (.ifCond .ne 7, 3) := by decide +kernel
theorem dX8_ended_7 : decode cX8_ended 7 = .ok (.iconst 1, 1) := by decide +kernel
theorem dX8_ended_8 : decode cX8_ended 8 = .ok (.goto 4, 3) := by decide +kernel
theorem dX8_ended_11 : decode cX8_ended 11 = .ok (.iconst 0, 1) := by decide +kernel
theorem dX8_ended_12 : decode cX8_ended 12 = .ok (.ireturn, 1) := by decide +kernel
theorem dX8_step_0 : decode cX8_step 0 = .ok (.aload_n 0, 1) := by decide +kernel
theorem dX8_step_1 : decode cX8_step 1 = .ok (.aload_n 0, 1) := by decide +kernel
theorem dX8_step_2 : decode cX8_step 2 = .ok (.getfield 28, 3) := by decide +kernel
theorem dX8_step_5 : decode cX8_step 5 = .ok (.putfield 34, 3) := by decide +kernel
theorem dX8_step_8 : decode cX8_step 8 = .ok (.aload_n 0, 1) := by decide +kernel
theorem dX8_step_9 : decode cX8_step 9 = .ok (.getfield 34, 3) := by decide +kernel
theorem dX8_step_12 : decode cX8_step 12 = .ok (.aload_n 0, 1) := by decide +kernel
theorem dX8_step_13 : decode cX8_step 13 = .ok (.getfield 24, 3) := by decide +kernel
theorem dX8_step_16 : decode cX8_step 16 = .ok (.if_icmp .ge 44, 3) := by decide +kernel
theorem dX8_step_19 : decode cX8_step 19 = .ok (.aload_n 0, 1) := by decide +kernel
theorem dX8_step_20 : decode cX8_step 20 = .ok (.getfield 9, 3) := by decide +kernel
theorem dX8_step_23 : decode cX8_step 23 = .ok (.aload_n 0, 1) := by decide +kernel
theorem dX8_step_24 : decode cX8_step 24 = .ok (.getfield 34, 3) := by decide +kernel
theorem dX8_step_27 : decode cX8_step 27 = .ok (.baload, 1) := by decide +kernel
theorem dX8_step_28 : decode cX8_step 28 = .ok (.bipush 32, 2) := by decide +kernel
theorem dX8_step_30 : decode cX8_step 30 = .ok (.if_icmp .eq 17, 3) := by decide +kernel
theorem dX8_step_33 : decode cX8_step 33 = .ok (.aload_n 0, 1) := by decide +kernel
theorem dX8_step_34 : decode cX8_step 34 = .ok (.getfield 9, 3) := by decide +kernel
theorem dX8_step_37 : decode cX8_step 37 = .ok (.aload_n 0, 1) := by decide +kernel
theorem dX8_step_38 : decode cX8_step 38 = .ok (.getfield 34, 3) := by decide +kernel
theorem dX8_step_41 : decode cX8_step 41 = .ok (.baload, 1) := by decide +kernel
theorem dX8_step_42 : decode cX8_step 42 = .ok (.bipush 10, 2) := by decide +kernel
theorem dX8_step_44 : decode cX8_step 44 = .ok (.if_icmp .ne 16, 3) := by decide +kernel
theorem dX8_step_47 : decode cX8_step 47 = .ok (.aload_n 0, 1) := by decide +kernel
theorem dX8_step_48 : decode cX8_step 48 = .ok (.dup, 1) := by decide +kernel
theorem dX8_step_49 : decode cX8_step 49 = .ok (.getfield 34, 3) := by decide +kernel
theorem dX8_step_52 : decode cX8_step 52 = .ok (.iconst 1, 1) := by decide +kernel
theorem dX8_step_53 : decode cX8_step 53 = .ok (.iadd, 1) := by decide +kernel
theorem dX8_step_54 : decode cX8_step 54 = .ok (.putfield 34, 3) := by decide +kernel
theorem dX8_step_57 : decode cX8_step 57 = .ok (.goto (-49), 3) := by decide +kernel
theorem dX8_step_60 : decode cX8_step 60 = .ok (.aload_n 0, 1) := by decide +kernel
theorem dX8_step_61 : decode cX8_step 61 = .ok (.getfield 34, 3) := by decide +kernel
theorem dX8_step_64 : decode cX8_step 64 = .ok (.aload_n 0, 1) := by decide +kernel
theorem dX8_step_65 : decode cX8_step 65 = .ok (.getfield 24, 3) := by decide +kernel
theorem dX8_step_68 : decode cX8_step 68 = .ok (.if_icmp .lt 9, 3) := by decide +kernel
theorem dX8_step_71 : decode cX8_step 71 = .ok (.aload_n 0, 1) := by decide +kernel
theorem dX8_step_72 : decode cX8_step 72 = .ok (.iconst 0, 1) := by decide +kernel
theorem dX8_step_73 : decode cX8_step 73 = .ok (.putfield 37, 3) := by decide +kernel
theorem dX8_step_76 : decode cX8_step 76 = .ok (.return_, 1) := by decide +kernel
theorem dX8_step_77 : decode cX8_step 77 = .ok (.aload_n 0, 1) := by decide +kernel
theorem dX8_step_78 : decode cX8_step 78 = .ok (.getfield 9, 3) := by decide +kernel
theorem dX8_step_81 : decode cX8_step 81 = .ok (.aload_n 0, 1) := by decide +kernel
theorem dX8_step_82 : decode cX8_step 82 = .ok (.getfield 34, 3) := by decide +kernel
theorem dX8_step_85 : decode cX8_step 85 = .ok (.baload, 1) := by decide +kernel
theorem dX8_step_86 : decode cX8_step 86 = .ok (.istore_n 1, 1) := by decide +kernel
theorem dX8_step_87 : decode cX8_step 87 = .ok (.iload_n 1, 1) := by decide +kernel
theorem dX8_step_88 : decode cX8_step 88 = .ok (.bipush 97, 2) := by decide +kernel
theorem dX8_step_90 : decode cX8_step 90 = .ok (.if_icmp .lt 13, 3) := by decide +kernel
theorem dX8_step_93 : decode cX8_step 93 = .ok (.iload_n 1, 1) := by decide +kernel
theorem dX8_step_94 : decode cX8_step 94 = .ok (.bipush 122, 2) := by decide +kernel
theorem dX8_step_96 : decode cX8_step 96 = .ok (.if_icmp .gt 7, 3) := by decide +kernel
theorem dX8_step_99 : decode cX8_step 99 = .ok (.iconst 1, 1) := by decide +kernel
theorem dX8_step_100 : decode cX8_step 100 = .ok (.goto 4, 3) := by decide +kernel
theorem dX8_step_103 : decode cX8_step 103 = .ok (.iconst 0, 1) := by decide +kernel
theorem dX8_step_104 : decode cX8_step 104 = .ok (.istore_n 2, 1) := by decide +kernel
theorem dX8_step_105 : decode cX8_step 105 = .ok (.iload_n 1, 1) := by decide +kernel
theorem dX8_step_106 : decode cX8_step 106 = .ok (.bipush 48, 2) := by decide +kernel
theorem dX8_step_108 : decode cX8_step 108 = .ok (.if_icmp .lt 13, 3) := by decide +kernel
theorem dX8_step_111 : decode cX8_step 111 = .ok (.iload_n 1, 1) := by decide +kernel
theorem dX8_step_112 : decode cX8_step 112 = .ok (.bipush 57, 2) := by decide +kernel
theorem dX8_step_114 : decode cX8_step 114 = .ok (.if_icmp .gt 7, 3) := by decide +kernel
theorem dX8_step_117 : decode cX8_step 117 = .ok (.iconst 1, 1) := by decide +kernel
theorem dX8_step_118 : decode cX8_step 118 = .ok (.goto 4, 3) := by decide +kernel
theorem dX8_step_121 : decode cX8_step 121 = .ok (.iconst 0, 1) := by decide +kernel
theorem dX8_step_122 : decode cX8_step 122 = .ok (.istore_n 3, 1) := by decide +kernel
theorem dX8_step_123 : decode cX8_step 123 = .ok (.aload_n 0, 1) := by decide +kernel
theorem dX8_step_124 : decode cX8_step 124 = .ok (.aload_n 0, 1) := by decide +kernel
theorem dX8_step_125 : decode cX8_step 125 = .ok (.getfield 34, 3) := by decide +kernel
theorem dX8_step_128 : decode cX8_step 128 = .ok (.iconst 1, 1) := by decide +kernel
theorem dX8_step_129 : decode cX8_step 129 = .ok (.iadd, 1) := by decide +kernel
theorem dX8_step_130 : decode cX8_step 130 = .ok (.putfield 28, 3) := by decide +kernel
theorem dX8_step_133 : decode cX8_step 133 = .ok (.iload_n 2, 1) := by decide +kernel
theorem dX8_step_134 : decode cX8_step 134 = .ok (.ifCond .ne 23, 3) := by decide +kernel
theorem dX8_step_137 : decode cX8_step 137 = .ok (.iload_n 3, 1) := by decide +kernel
theorem dX8_step_138 : decode cX8_step 138 = .ok (.ifCond .ne 19, 3) := by decide +kernel
theorem dX8_step_141 : decode cX8_step 141 = .ok (.aload_n 0, 1) := by decide +kernel
theorem dX8_step_142 : decode cX8_step 142 = .ok (.iload_n 1, 1) := by decide +kernel
theorem dX8_step_143 : decode cX8_step 143 = .ok (.bipush 59, 2) := by decide +kernel
theorem dX8_step_145 : decode cX8_step 145 = .ok (.if_icmp .ne 7, 3) := by decide +kernel
theorem dX8_step_148 : decode cX8_step 148 = .ok (.iconst 3, 1) := by decide +kernel
theorem dX8_step_149 : decode cX8_step 149 = .ok (.goto 4, 3) := by decide +kernel
theorem dX8_step_152 : decode cX8_step 152 = .ok (.iconst 4, 1) := by decide +kernel
theorem dX8_step_153 : decode cX8_step 153 = .ok (.putfield 37, 3) := by decide +kernel
theorem dX8_step_156 : decode cX8_step 156 = .ok (.return_, 1) := by decide +kernel
theorem dX8_step_157 : decode cX8_step 157 = .ok (.aload_n 0, 1) := by decide +kernel
theorem dX8_step_158 : decode cX8_step 158 = .ok (.iload_n 2, 1) := by decide +kernel
theorem dX8_step_159 : decode cX8_step 159 = .ok (.ifCond .eq 7, 3) := by decide +kernel
theorem dX8_step_162 : decode cX8_step 162 = .ok (.iconst 1, 1) := by decide +kernel
theorem dX8_step_163 : decode cX8_step 163 = .ok (.goto 4, 3) := by decide +kernel
theorem dX8_step_166 : decode cX8_step 166 = .ok (.iconst 2, 1) := by decide +kernel
theorem dX8_step_167 : decode cX8_step 167 = .ok (.putfield 37, 3) := by decide +kernel
theorem dX8_step_170 : decode cX8_step 170 = .ok (.iload_n 2, 1) := by decide +kernel
theorem dX8_step_171 : decode cX8_step 171 = .ok (.ifCond .eq 8, 3) := by decide +kernel
theorem dX8_step_174 : decode cX8_step 174 = .ok (.bipush 97, 2) := by decide +kernel
theorem dX8_step_176 : decode cX8_step 176 = .ok (.goto 5, 3) := by decide +kernel
theorem dX8_step_179 : decode cX8_step 179 = .ok (.bipush 48, 2) := by decide +kernel
theorem dX8_step_181 : decode cX8_step 181 = .ok (.istore 4, 2) := by decide +kernel
theorem dX8_step_183 : decode cX8_step 183 = .ok (.iload_n 2, 1) := by decide +kernel
theorem dX8_step_184 : decode cX8_step 184 = .ok (.ifCond .eq 8, 3) := by decide +kernel
theorem dX8_step_187 : decode cX8_step 187 = .ok (.bipush 122, 2) := by decide +kernel
theorem dX8_step_189 : decode cX8_step 189 = .ok (.goto 5, 3) := by decide +kernel
theorem dX8_step_192 : decode cX8_step 192 = .ok (.bipush 57, 2) := by decide +kernel
theorem dX8_step_194 : decode cX8_step 194 = .ok (.istore 5, 2) := by decide +kernel
theorem dX8_step_196 : decode cX8_step 196 = .ok (.aload_n 0, 1) := by decide +kernel
theorem dX8_step_197 : decode cX8_step 197 = .ok (.getfield 28, 3) := by decide +kernel
theorem dX8_step_200 : decode cX8_step 200 = .ok (.aload_n 0, 1) := by decide +kernel
theorem dX8_step_201 : decode cX8_step 201 = .ok (.getfield 24, 3) := by decide +kernel
theorem dX8_step_204 : decode cX8_step 204 = .ok (.if_icmp .ge 44, 3) := by decide +kernel
theorem dX8_step_207 : decode cX8_step 207 = .ok (.aload_n 0, 1) := by decide +kernel
theorem dX8_step_208 : decode cX8_step 208 = .ok (.getfield 9, 3) := by decide +kernel
theorem dX8_step_211 : decode cX8_step 211 = .ok (.aload_n 0, 1) := by decide +kernel
theorem dX8_step_212 : decode cX8_step 212 = .ok (.getfield 28, 3) := by decide +kernel
theorem dX8_step_215 : decode cX8_step 215 = .ok (.baload, 1) := by decide +kernel
theorem dX8_step_216 : decode cX8_step 216 = .ok (.iload 4, 2) := by decide +kernel
theorem dX8_step_218 : decode cX8_step 218 = .ok (.if_icmp .lt 30, 3) := by decide +kernel
theorem dX8_step_221 : decode cX8_step 221 = .ok (.aload_n 0, 1) := by decide +kernel
theorem dX8_step_222 : decode cX8_step 222 = .ok (.getfield 9, 3) := by decide +kernel
theorem dX8_step_225 : decode cX8_step 225 = .ok (.aload_n 0, 1) := by decide +kernel
theorem dX8_step_226 : decode cX8_step 226 = .ok (.getfield 28, 3) := by decide +kernel
theorem dX8_step_229 : decode cX8_step 229 = .ok (.baload, 1) := by decide +kernel
theorem dX8_step_230 : decode cX8_step 230 = .ok (.iload 5, 2) := by decide +kernel
theorem dX8_step_232 : decode cX8_step 232 = .ok (.if_icmp .gt 16, 3) := by decide +kernel
theorem dX8_step_235 : decode cX8_step 235 = .ok (.aload_n 0, 1) := by decide +kernel
theorem dX8_step_236 : decode cX8_step 236 = .ok (.dup, 1) := by decide +kernel
theorem dX8_step_237 : decode cX8_step 237 = .ok (.getfield 28, 3) := by decide +kernel
theorem dX8_step_240 : decode cX8_step 240 = .ok (.iconst 1, 1) := by decide +kernel
theorem dX8_step_241 : decode cX8_step 241 = .ok (.iadd, 1) := by decide +kernel
theorem dX8_step_242 : decode cX8_step 242 = .ok (.putfield 28, 3) := by decide +kernel
theorem dX8_step_245 : decode cX8_step 245 = .ok (.goto (-49), 3) := by decide +kernel
theorem dX8_step_248 : decode cX8_step 248 = .ok (.return_, 1) := by decide +kernel
theorem dX8_takes_0 : decode cX8_takes 0 = .ok (.aload_n 0, 1) := by decide +kernel
theorem dX8_takes_1 : decode cX8_takes 1 = .ok (.aload_n 1, 1) := by decide +kernel
theorem dX8_takes_2 : decode cX8_takes 2 = .ok (.invokevirtual 40, 3) := by decide +kernel
theorem dX8_takes_5 : decode cX8_takes 5 = .ok (.ifCond .ne 5, 3) := by decide +kernel
theorem dX8_takes_8 : decode cX8_takes 8 = .ok (.iconst 0, 1) := by decide +kernel
theorem dX8_takes_9 : decode cX8_takes 9 = .ok (.ireturn, 1) := by decide +kernel
theorem dX8_takes_10 : decode cX8_takes 10 = .ok (.aload_n 0, 1) := by decide +kernel
theorem dX8_takes_11 : decode cX8_takes 11 = .ok (.invokevirtual 31, 3) := by decide +kernel
theorem dX8_takes_14 : decode cX8_takes 14 = .ok (.iconst 1, 1) := by decide +kernel
theorem dX8_takes_15 : decode cX8_takes 15 = .ok (.ireturn, 1) := by decide +kernel
theorem dX8_takesSemicolon_0 : decode cX8_takesSemicolon 0 = .ok (.aload_n 0, 1) := by decide +kernel
theorem dX8_takesSemicolon_1 : decode cX8_takesSemicolon 1 = .ok (.getfield 37, 3) := by decide +kernel
theorem dX8_takesSemicolon_4 : decode cX8_takesSemicolon 4 = .ok (.iconst 3, 1) := by decide +kernel
theorem dX8_takesSemicolon_5 : decode cX8_takesSemicolon 5 = .ok (.if_icmp .eq 5, 3) := by decide +kernel
theorem dX8_takesSemicolon_8 : decode cX8_takesSemicolon 8 = .ok (.iconst 0, 1) := by decide +kernel
theorem dX8_takesSemicolon_9 : decode cX8_takesSemicolon 9 = .ok (.ireturn, 1) := by decide +kernel
theorem dX8_takesSemicolon_10 : decode cX8_takesSemicolon 10 = .ok (.aload_n 0, 1) := by decide +kernel
theorem dX8_takesSemicolon_11 : decode cX8_takesSemicolon 11 = .ok (.invokevirtual 31, 3) := by decide +kernel
theorem dX8_takesSemicolon_14 : decode cX8_takesSemicolon 14 = .ok (.iconst 1, 1) := by decide +kernel
theorem dX8_takesSemicolon_15 : decode cX8_takesSemicolon 15 = .ok (.ireturn, 1) := by decide +kernel
theorem dX8_numberHere_0 : decode cX8_numberHere 0 = .ok (.aload_n 0, 1) := by decide +kernel
theorem dX8_numberHere_1 : decode cX8_numberHere 1 = .ok (.getfield 37, 3) := by decide +kernel
theorem dX8_numberHere_4 : decode cX8_numberHere 4 = .ok (.iconst 2, 1) := by decide +kernel
theorem dX8_numberHere_5 : decode cX8_numberHere 5 = .ok (.if_icmp .ne 16, 3) := by decide +kernel
theorem dX8_numberHere_8 : decode cX8_numberHere 8 = .ok (.aload_n 0, 1) := by decide +kernel
theorem dX8_numberHere_9 : decode cX8_numberHere 9 = .ok (.getfield 28, 3) := by decide +kernel
theorem dX8_numberHere_12 : decode cX8_numberHere 12 = .ok (.aload_n 0, 1) := by decide +kernel
theorem dX8_numberHere_13 : decode cX8_numberHere 13 = .ok (.getfield 34, 3) := by decide +kernel
theorem dX8_numberHere_16 : decode cX8_numberHere 16 = .ok (.isub, 1) := by decide +kernel
theorem dX8_numberHere_17 : decode cX8_numberHere 17 = .ok (.iconst 4, 1) := by decide +kernel
theorem dX8_numberHere_18 : decode cX8_numberHere 18 = .ok (.if_icmp .le 5, 3) := by decide +kernel
theorem dX8_numberHere_21 : decode cX8_numberHere 21 = .ok (.iconst (-1), 1) := by decide +kernel
theorem dX8_numberHere_22 : decode cX8_numberHere 22 = .ok (.ireturn, 1) := by decide +kernel
theorem dX8_numberHere_23 : decode cX8_numberHere 23 = .ok (.iconst 0, 1) := by decide +kernel
theorem dX8_numberHere_24 : decode cX8_numberHere 24 = .ok (.istore_n 1, 1) := by decide +kernel
theorem dX8_numberHere_25 : decode cX8_numberHere 25 = .ok (.aload_n 0, 1) := by decide +kernel
theorem dX8_numberHere_26 : decode cX8_numberHere 26 = .ok (.getfield 34, 3) := by decide +kernel
theorem dX8_numberHere_29 : decode cX8_numberHere 29 = .ok (.istore_n 2, 1) := by decide +kernel
theorem dX8_numberHere_30 : decode cX8_numberHere 30 = .ok (.iload_n 2, 1) := by decide +kernel
theorem dX8_numberHere_31 : decode cX8_numberHere 31 = .ok (.aload_n 0, 1) := by decide +kernel
theorem dX8_numberHere_32 : decode cX8_numberHere 32 = .ok (.getfield 28, 3) := by decide +kernel
theorem dX8_numberHere_35 : decode cX8_numberHere 35 = .ok (.if_icmp .ge 33, 3) := by decide +kernel
theorem dX8_numberHere_38 : decode cX8_numberHere 38 = .ok (.iload_n 2, 1) := by decide +kernel
theorem dX8_numberHere_39 : decode cX8_numberHere 39 = .ok (.aload_n 0, 1) := by decide +kernel
theorem dX8_numberHere_40 : decode cX8_numberHere 40 = .ok (.getfield 9, 3) := by decide +kernel
theorem dX8_numberHere_43 : decode cX8_numberHere 43 = .ok (.arraylength, 1) := by decide +kernel
theorem dX8_numberHere_44 : decode cX8_numberHere 44 = .ok (.if_icmp .ge 24, 3) := by decide +kernel
theorem dX8_numberHere_47 : decode cX8_numberHere 47 = .ok (.iload_n 1, 1) := by decide +kernel
theorem dX8_numberHere_48 : decode cX8_numberHere 48 = .ok (.bipush 10, 2) := by decide +kernel
theorem dX8_numberHere_50 : decode cX8_numberHere 50 = .ok (.imul, 1) := by decide +kernel
theorem dX8_numberHere_51 : decode cX8_numberHere 51 = .ok (.aload_n 0, 1) := by decide +kernel
theorem dX8_numberHere_52 : decode cX8_numberHere 52 = .ok (.getfield 9, 3) := by decide +kernel
theorem dX8_numberHere_55 : decode cX8_numberHere 55 = .ok (.iload_n 2, 1) := by decide +kernel
theorem dX8_numberHere_56 : decode cX8_numberHere 56 = .ok (.baload, 1) := by decide +kernel
theorem dX8_numberHere_57 : decode cX8_numberHere 57 = .ok (.iadd, 1) := by decide +kernel
theorem dX8_numberHere_58 : decode cX8_numberHere 58 = .ok (.bipush 48, 2) := by decide +kernel
theorem dX8_numberHere_60 : decode cX8_numberHere 60 = .ok (.isub, 1) := by decide +kernel
theorem dX8_numberHere_61 : decode cX8_numberHere 61 = .ok (.istore_n 1, 1) := by decide +kernel
theorem dX8_numberHere_62 : decode cX8_numberHere 62 = .ok (.iinc 2 1, 3) := by decide +kernel
theorem dX8_numberHere_65 : decode cX8_numberHere 65 = .ok (.goto (-35), 3) := by decide +kernel
theorem dX8_numberHere_68 : decode cX8_numberHere 68 = .ok (.iload_n 1, 1) := by decide +kernel
theorem dX8_numberHere_69 : decode cX8_numberHere 69 = .ok (.ireturn, 1) := by decide +kernel
theorem dX8_takeNumber_0 : decode cX8_takeNumber 0 = .ok (.aload_n 0, 1) := by decide +kernel
theorem dX8_takeNumber_1 : decode cX8_takeNumber 1 = .ok (.invokevirtual 44, 3) := by decide +kernel
theorem dX8_takeNumber_4 : decode cX8_takeNumber 4 = .ok (.istore_n 3, 1) := by decide +kernel
theorem dX8_takeNumber_5 : decode cX8_takeNumber 5 = .ok (.iload_n 3, 1) := by decide +kernel
theorem dX8_takeNumber_6 : decode cX8_takeNumber 6 = .ok (.iconst (-1), 1) := by decide +kernel
theorem dX8_takeNumber_7 : decode cX8_takeNumber 7 = .ok (.if_icmp .eq 13, 3) := by decide +kernel
theorem dX8_takeNumber_10 : decode cX8_takeNumber 10 = .ok (.iload_n 3, 1) := by decide +kernel
theorem dX8_takeNumber_11 : decode cX8_takeNumber 11 = .ok (.iload_n 1, 1) := by decide +kernel
theorem dX8_takeNumber_12 : decode cX8_takeNumber 12 = .ok (.if_icmp .lt 8, 3) := by decide +kernel
theorem dX8_takeNumber_15 : decode cX8_takeNumber 15 = .ok (.iload_n 3, 1) := by decide +kernel
theorem dX8_takeNumber_16 : decode cX8_takeNumber 16 = .ok (.iload_n 2, 1) := by decide +kernel
theorem dX8_takeNumber_17 : decode cX8_takeNumber 17 = .ok (.if_icmp .le 5, 3) := by decide +kernel
theorem dX8_takeNumber_20 : decode cX8_takeNumber 20 = .ok (.iconst (-1), 1) := by decide +kernel
theorem dX8_takeNumber_21 : decode cX8_takeNumber 21 = .ok (.ireturn, 1) := by decide +kernel
theorem dX8_takeNumber_22 : decode cX8_takeNumber 22 = .ok (.aload_n 0, 1) := by decide +kernel
theorem dX8_takeNumber_23 : decode cX8_takeNumber 23 = .ok (.invokevirtual 31, 3) := by decide +kernel
theorem dX8_takeNumber_26 : decode cX8_takeNumber 26 = .ok (.iload_n 3, 1) := by decide +kernel
theorem dX8_takeNumber_27 : decode cX8_takeNumber 27 = .ok (.ireturn, 1) := by decide +kernel
theorem dX8_takeGive_0 : decode cX8_takeGive 0 = .ok (.aload_n 0, 1) := by decide +kernel
theorem dX8_takeGive_1 : decode cX8_takeGive 1 = .ok (.ldc 48, 2) := by decide +kernel
theorem dX8_takeGive_3 : decode cX8_takeGive 3 = .ok (.invokevirtual 50, 3) := by decide +kernel
theorem dX8_takeGive_6 : decode cX8_takeGive 6 = .ok (.ifCond .eq 13, 3) := by decide +kernel
theorem dX8_takeGive_9 : decode cX8_takeGive 9 = .ok (.aload_n 0, 1) := by decide +kernel
theorem dX8_takeGive_10 : decode cX8_takeGive 10 = .ok (.iconst 0, 1) := by decide +kernel
theorem dX8_takeGive_11 : decode cX8_takeGive 11 = .ok (.bipush 99, 2) := by decide +kernel
theorem dX8_takeGive_13 : decode cX8_takeGive 13 = .ok (.invokevirtual 53, 3) := by decide +kernel
theorem dX8_takeGive_16 : decode cX8_takeGive 16 = .ok (.goto 4, 3) := by decide +kernel
theorem dX8_takeGive_19 : decode cX8_takeGive 19 = .ok (.iconst 0, 1) := by decide +kernel
theorem dX8_takeGive_20 : decode cX8_takeGive 20 = .ok (.ireturn, 1) := by decide +kernel
theorem dX8_wordHere_0 : decode cX8_wordHere 0 = .ok (.aload_n 0, 1) := by decide +kernel
theorem dX8_wordHere_1 : decode cX8_wordHere 1 = .ok (.getfield 37, 3) := by decide +kernel
theorem dX8_wordHere_4 : decode cX8_wordHere 4 = .ok (.iconst 1, 1) := by decide +kernel
theorem dX8_wordHere_5 : decode cX8_wordHere 5 = .ok (.if_icmp .ne 17, 3) := by decide +kernel
theorem dX8_wordHere_8 : decode cX8_wordHere 8 = .ok (.aload_n 0, 1) := by decide +kernel
theorem dX8_wordHere_9 : decode cX8_wordHere 9 = .ok (.getfield 28, 3) := by decide +kernel
theorem dX8_wordHere_12 : decode cX8_wordHere 12 = .ok (.aload_n 0, 1) := by decide +kernel
theorem dX8_wordHere_13 : decode cX8_wordHere 13 = .ok (.getfield 34, 3) := by decide +kernel
theorem dX8_wordHere_16 : decode cX8_wordHere 16 = .ok (.isub, 1) := by decide +kernel
theorem dX8_wordHere_17 : decode cX8_wordHere 17 = .ok (.bipush 8, 2) := by decide +kernel
theorem dX8_wordHere_19 : decode cX8_wordHere 19 = .ok (.if_icmp .le 5, 3) := by decide +kernel
theorem dX8_wordHere_22 : decode cX8_wordHere 22 = .ok (.lconst 0, 1) := by decide +kernel
theorem dX8_wordHere_23 : decode cX8_wordHere 23 = .ok (.lreturn, 1) := by decide +kernel
theorem dX8_wordHere_24 : decode cX8_wordHere 24 = .ok (.lconst 0, 1) := by decide +kernel
theorem dX8_wordHere_25 : decode cX8_wordHere 25 = .ok (.lstore_n 1, 1) := by decide +kernel
theorem dX8_wordHere_26 : decode cX8_wordHere 26 = .ok (.aload_n 0, 1) := by decide +kernel
theorem dX8_wordHere_27 : decode cX8_wordHere 27 = .ok (.getfield 34, 3) := by decide +kernel
theorem dX8_wordHere_30 : decode cX8_wordHere 30 = .ok (.istore_n 3, 1) := by decide +kernel
theorem dX8_wordHere_31 : decode cX8_wordHere 31 = .ok (.iload_n 3, 1) := by decide +kernel
theorem dX8_wordHere_32 : decode cX8_wordHere 32 = .ok (.aload_n 0, 1) := by decide +kernel
theorem dX8_wordHere_33 : decode cX8_wordHere 33 = .ok (.getfield 28, 3) := by decide +kernel
theorem dX8_wordHere_36 : decode cX8_wordHere 36 = .ok (.if_icmp .ge 38, 3) := by decide +kernel
theorem dX8_wordHere_39 : decode cX8_wordHere 39 = .ok (.iload_n 3, 1) := by decide +kernel
theorem dX8_wordHere_40 : decode cX8_wordHere 40 = .ok (.aload_n 0, 1) := by decide +kernel
theorem dX8_wordHere_41 : decode cX8_wordHere 41 = .ok (.getfield 9, 3) := by decide +kernel
theorem dX8_wordHere_44 : decode cX8_wordHere 44 = .ok (.arraylength, 1) := by decide +kernel
theorem dX8_wordHere_45 : decode cX8_wordHere 45 = .ok (.if_icmp .ge 29, 3) := by decide +kernel
theorem dX8_wordHere_48 : decode cX8_wordHere 48 = .ok (.lload_n 1, 1) := by decide +kernel
theorem dX8_wordHere_49 : decode cX8_wordHere 49 = .ok (.ldc2_w 56, 3) := by decide +kernel
theorem dX8_wordHere_52 : decode cX8_wordHere 52 = .ok (.lmul, 1) := by decide +kernel
theorem dX8_wordHere_53 : decode cX8_wordHere 53 = .ok (.aload_n 0, 1) := by decide +kernel
theorem dX8_wordHere_54 : decode cX8_wordHere 54 = .ok (.getfield 9, 3) := by decide +kernel
theorem dX8_wordHere_57 : decode cX8_wordHere 57 = .ok (.iload_n 3, 1) := by decide +kernel
theorem dX8_wordHere_58 : decode cX8_wordHere 58 = .ok (.baload, 1) := by decide +kernel
theorem dX8_wordHere_59 : decode cX8_wordHere 59 = .ok (.i2l, 1) := by decide +kernel
theorem dX8_wordHere_60 : decode cX8_wordHere 60 = .ok (.ladd, 1) := by decide +kernel
theorem dX8_wordHere_61 : decode cX8_wordHere 61 = .ok (.ldc2_w 58, 3) := by decide +kernel
theorem dX8_wordHere_64 : decode cX8_wordHere 64 = .ok (.lsub, 1) := by decide +kernel
theorem dX8_wordHere_65 : decode cX8_wordHere 65 = .ok (.lconst 1, 1) := by decide +kernel
theorem dX8_wordHere_66 : decode cX8_wordHere 66 = .ok (.ladd, 1) := by decide +kernel
theorem dX8_wordHere_67 : decode cX8_wordHere 67 = .ok (.lstore_n 1, 1) := by decide +kernel
theorem dX8_wordHere_68 : decode cX8_wordHere 68 = .ok (.iinc 3 1, 3) := by decide +kernel
theorem dX8_wordHere_71 : decode cX8_wordHere 71 = .ok (.goto (-40), 3) := by decide +kernel
theorem dX8_wordHere_74 : decode cX8_wordHere 74 = .ok (.lload_n 1, 1) := by decide +kernel
theorem dX8_wordHere_75 : decode cX8_wordHere 75 = .ok (.lreturn, 1) := by decide +kernel
theorem dX8_isReserved_0 : decode cX8_isReserved 0 = .ok (.iconst 0, 1) := by decide +kernel
theorem dX8_isReserved_1 : decode cX8_isReserved 1 = .ok (.istore_n 1, 1) := by decide +kernel
theorem dX8_isReserved_2 : decode cX8_isReserved 2 = .ok (.iconst 0, 1) := by decide +kernel
theorem dX8_isReserved_3 : decode cX8_isReserved 3 = .ok (.istore_n 2, 1) := by decide +kernel
theorem dX8_isReserved_4 : decode cX8_isReserved 4 = .ok (.iload_n 2, 1) := by decide +kernel
theorem dX8_isReserved_5 : decode cX8_isReserved 5 = .ok (.ldc 60, 2) := by decide +kernel
theorem dX8_isReserved_7 : decode cX8_isReserved 7 = .ok (.invokevirtual 62, 3) := by decide +kernel
theorem dX8_isReserved_10 : decode cX8_isReserved 10 = .ok (.if_icmp .ge 106, 3) := by decide +kernel
theorem dX8_isReserved_13 : decode cX8_isReserved 13 = .ok (.ldc 60, 2) := by decide +kernel
theorem dX8_isReserved_15 : decode cX8_isReserved 15 = .ok (.iload_n 2, 1) := by decide +kernel
theorem dX8_isReserved_16 : decode cX8_isReserved 16 = .ok (.invokevirtual 66, 3) := by decide +kernel
theorem dX8_isReserved_19 : decode cX8_isReserved 19 = .ok (.istore_n 3, 1) := by decide +kernel
theorem dX8_isReserved_20 : decode cX8_isReserved 20 = .ok (.iload_n 1, 1) := by decide +kernel
theorem dX8_isReserved_21 : decode cX8_isReserved 21 = .ok (.iconst (-1), 1) := by decide +kernel
theorem dX8_isReserved_22 : decode cX8_isReserved 22 = .ok (.if_icmp .eq 34, 3) := by decide +kernel
theorem dX8_isReserved_25 : decode cX8_isReserved 25 = .ok (.aload_n 0, 1) := by decide +kernel
theorem dX8_isReserved_26 : decode cX8_isReserved 26 = .ok (.getfield 34, 3) := by decide +kernel
theorem dX8_isReserved_29 : decode cX8_isReserved 29 = .ok (.iload_n 1, 1) := by decide +kernel
theorem dX8_isReserved_30 : decode cX8_isReserved 30 = .ok (.iadd, 1) := by decide +kernel
theorem dX8_isReserved_31 : decode cX8_isReserved 31 = .ok (.aload_n 0, 1) := by decide +kernel
theorem dX8_isReserved_32 : decode cX8_isReserved 32 = .ok (.getfield 28, 3) := by decide +kernel
theorem dX8_isReserved_35 : decode cX8_isReserved 35 = .ok (.if_icmp .ge 21, 3) := by decide +kernel
theorem dX8_isReserved_38 : decode cX8_isReserved 38 = .ok (.aload_n 0, 1) := by decide +kernel
theorem dX8_isReserved_39 : decode cX8_isReserved 39 = .ok (.getfield 34, 3) := by decide +kernel
theorem dX8_isReserved_42 : decode cX8_isReserved 42 = .ok (.iload_n 1, 1) := by decide +kernel
theorem dX8_isReserved_43 : decode cX8_isReserved 43 = .ok (.iadd, 1) := by decide +kernel
theorem dX8_isReserved_44 : decode cX8_isReserved 44 = .ok (.aload_n 0, 1) := by decide +kernel
theorem dX8_isReserved_45 : decode cX8_isReserved 45 = .ok (.getfield 9, 3) := by decide +kernel
theorem dX8_isReserved_48 : decode cX8_isReserved 48 = .ok (.arraylength, 1) := by decide +kernel
theorem dX8_isReserved_49 : decode cX8_isReserved 49 = .ok (.if_icmp .ge 7, 3) := by decide +kernel
theorem dX8_isReserved_52 : decode cX8_isReserved 52 = .ok (.iconst 1, 1) := by decide +kernel
theorem dX8_isReserved_53 : decode cX8_isReserved 53 = .ok (.goto 4, 3) := by decide +kernel
theorem dX8_isReserved_56 : decode cX8_isReserved 56 = .ok (.iconst 0, 1) := by decide +kernel
theorem dX8_isReserved_57 : decode cX8_isReserved 57 = .ok (.istore 4, 2) := by decide +kernel
theorem dX8_isReserved_59 : decode cX8_isReserved 59 = .ok (.iload_n 3, 1) := by decide +kernel
theorem dX8_isReserved_60 : decode cX8_isReserved 60 = .ok (.bipush 32, 2) := by decide +kernel
theorem dX8_isReserved_62 : decode cX8_isReserved 62 = .ok (.if_icmp .eq 34, 3) := by decide +kernel
theorem dX8_isReserved_65 : decode cX8_isReserved 65 = .ok (.iload 4, 2) := by decide +kernel
theorem dX8_isReserved_67 : decode cX8_isReserved 67 = .ok (.ifCond .eq 24, 3) := by decide +kernel
theorem dX8_isReserved_70 : decode cX8_isReserved 70 = .ok (.aload_n 0, 1) := by decide +kernel
theorem dX8_isReserved_71 : decode cX8_isReserved 71 = .ok (.getfield 9, 3) := by decide +kernel
theorem dX8_isReserved_74 : decode cX8_isReserved 74 = .ok (.aload_n 0, 1) := by decide +kernel
theorem dX8_isReserved_75 : decode cX8_isReserved 75 = .ok (.getfield 34, 3) := by decide +kernel
theorem dX8_isReserved_78 : decode cX8_isReserved 78 = .ok (.iload_n 1, 1) := by decide +kernel
theorem dX8_isReserved_79 : decode cX8_isReserved 79 = .ok (.iadd, 1) := by decide +kernel
theorem dX8_isReserved_80 : decode cX8_isReserved 80 = .ok (.baload, 1) := by decide +kernel
theorem dX8_isReserved_81 : decode cX8_isReserved 81 = .ok (.iload_n 3, 1) := by decide +kernel
theorem dX8_isReserved_82 : decode cX8_isReserved 82 = .ok (.if_icmp .ne 9, 3) := by decide +kernel
theorem dX8_isReserved_85 : decode cX8_isReserved 85 = .ok (.iload_n 1, 1) := by decide +kernel
theorem dX8_isReserved_86 : decode cX8_isReserved 86 = .ok (.iconst 1, 1) := by decide +kernel
theorem dX8_isReserved_87 : decode cX8_isReserved 87 = .ok (.iadd, 1) := by decide +kernel
theorem dX8_isReserved_88 : decode cX8_isReserved 88 = .ok (.goto 4, 3) := by decide +kernel
theorem dX8_isReserved_91 : decode cX8_isReserved 91 = .ok (.iconst (-1), 1) := by decide +kernel
theorem dX8_isReserved_92 : decode cX8_isReserved 92 = .ok (.istore_n 1, 1) := by decide +kernel
theorem dX8_isReserved_93 : decode cX8_isReserved 93 = .ok (.goto 17, 3) := by decide +kernel
theorem dX8_isReserved_96 : decode cX8_isReserved 96 = .ok (.iload_n 1, 1) := by decide +kernel
theorem dX8_isReserved_97 : decode cX8_isReserved 97 = .ok (.iconst (-1), 1) := by decide +kernel
theorem dX8_isReserved_98 : decode cX8_isReserved 98 = .ok (.if_icmp .eq 10, 3) := by decide +kernel
theorem dX8_isReserved_101 : decode cX8_isReserved 101 = .ok (.iload 4, 2) := by decide +kernel
theorem dX8_isReserved_103 : decode cX8_isReserved 103 = .ok (.ifCond .ne 5, 3) := by decide +kernel
theorem dX8_isReserved_106 : decode cX8_isReserved 106 = .ok (.iconst 1, 1) := by decide +kernel
theorem dX8_isReserved_107 : decode cX8_isReserved 107 = .ok (.ireturn, 1) := by decide +kernel
theorem dX8_isReserved_108 : decode cX8_isReserved 108 = .ok (.iconst 0, 1) := by decide +kernel
theorem dX8_isReserved_109 : decode cX8_isReserved 109 = .ok (.istore_n 1, 1) := by decide +kernel
theorem dX8_isReserved_110 : decode cX8_isReserved 110 = .ok (.iinc 2 1, 3) := by decide +kernel
theorem dX8_isReserved_113 : decode cX8_isReserved 113 = .ok (.goto (-109), 3) := by decide +kernel
theorem dX8_isReserved_116 : decode cX8_isReserved 116 = .ok (.iconst 0, 1) := by decide +kernel
theorem dX8_isReserved_117 : decode cX8_isReserved 117 = .ok (.ireturn, 1) := by decide +kernel
theorem dX8_isWord_0 : decode cX8_isWord 0 = .ok (.aload_n 0, 1) := by decide +kernel
theorem dX8_isWord_1 : decode cX8_isWord 1 = .ok (.getfield 37, 3) := by decide +kernel
theorem dX8_isWord_4 : decode cX8_isWord 4 = .ok (.iconst 1, 1) := by decide +kernel
theorem dX8_isWord_5 : decode cX8_isWord 5 = .ok (.if_icmp .ne 31, 3) := by decide +kernel
theorem dX8_isWord_8 : decode cX8_isWord 8 = .ok (.aload_n 0, 1) := by decide +kernel
theorem dX8_isWord_9 : decode cX8_isWord 9 = .ok (.getfield 28, 3) := by decide +kernel
theorem dX8_isWord_12 : decode cX8_isWord 12 = .ok (.aload_n 0, 1) := by decide +kernel
theorem dX8_isWord_13 : decode cX8_isWord 13 = .ok (.getfield 34, 3) := by decide +kernel
theorem dX8_isWord_16 : decode cX8_isWord 16 = .ok (.isub, 1) := by decide +kernel
theorem dX8_isWord_17 : decode cX8_isWord 17 = .ok (.aload_n 1, 1) := by decide +kernel
theorem dX8_isWord_18 : decode cX8_isWord 18 = .ok (.invokevirtual 62, 3) := by decide +kernel
theorem dX8_isWord_21 : decode cX8_isWord 21 = .ok (.if_icmp .ne 15, 3) := by decide +kernel
theorem dX8_isWord_24 : decode cX8_isWord 24 = .ok (.aload_n 0, 1) := by decide +kernel
theorem dX8_isWord_25 : decode cX8_isWord 25 = .ok (.getfield 28, 3) := by decide +kernel
theorem dX8_isWord_28 : decode cX8_isWord 28 = .ok (.aload_n 0, 1) := by decide +kernel
theorem dX8_isWord_29 : decode cX8_isWord 29 = .ok (.getfield 9, 3) := by decide +kernel
theorem dX8_isWord_32 : decode cX8_isWord 32 = .ok (.arraylength, 1) := by decide +kernel
theorem dX8_isWord_33 : decode cX8_isWord 33 = .ok (.if_icmp .le 5, 3) := by decide +kernel
theorem dX8_isWord_36 : decode cX8_isWord 36 = .ok (.iconst 0, 1) := by decide +kernel
theorem dX8_isWord_37 : decode cX8_isWord 37 = .ok (.ireturn, 1) := by decide +kernel
theorem dX8_isWord_38 : decode cX8_isWord 38 = .ok (.iconst 0, 1) := by decide +kernel
theorem dX8_isWord_39 : decode cX8_isWord 39 = .ok (.istore_n 2, 1) := by decide +kernel
theorem dX8_isWord_40 : decode cX8_isWord 40 = .ok (.iload_n 2, 1) := by decide +kernel
theorem dX8_isWord_41 : decode cX8_isWord 41 = .ok (.aload_n 1, 1) := by decide +kernel
theorem dX8_isWord_42 : decode cX8_isWord 42 = .ok (.invokevirtual 62, 3) := by decide +kernel
theorem dX8_isWord_45 : decode cX8_isWord 45 = .ok (.if_icmp .ge 30, 3) := by decide +kernel
theorem dX8_isWord_48 : decode cX8_isWord 48 = .ok (.aload_n 0, 1) := by decide +kernel
theorem dX8_isWord_49 : decode cX8_isWord 49 = .ok (.getfield 9, 3) := by decide +kernel
theorem dX8_isWord_52 : decode cX8_isWord 52 = .ok (.aload_n 0, 1) := by decide +kernel
theorem dX8_isWord_53 : decode cX8_isWord 53 = .ok (.getfield 34, 3) := by decide +kernel
theorem dX8_isWord_56 : decode cX8_isWord 56 = .ok (.iload_n 2, 1) := by decide +kernel
theorem dX8_isWord_57 : decode cX8_isWord 57 = .ok (.iadd, 1) := by decide +kernel
theorem dX8_isWord_58 : decode cX8_isWord 58 = .ok (.baload, 1) := by decide +kernel
theorem dX8_isWord_59 : decode cX8_isWord 59 = .ok (.aload_n 1, 1) := by decide +kernel
theorem dX8_isWord_60 : decode cX8_isWord 60 = .ok (.iload_n 2, 1) := by decide +kernel
theorem dX8_isWord_61 : decode cX8_isWord 61 = .ok (.invokevirtual 66, 3) := by decide +kernel
theorem dX8_isWord_64 : decode cX8_isWord 64 = .ok (.if_icmp .eq 5, 3) := by decide +kernel
theorem dX8_isWord_67 : decode cX8_isWord 67 = .ok (.iconst 0, 1) := by decide +kernel
theorem dX8_isWord_68 : decode cX8_isWord 68 = .ok (.ireturn, 1) := by decide +kernel
theorem dX8_isWord_69 : decode cX8_isWord 69 = .ok (.iinc 2 1, 3) := by decide +kernel
theorem dX8_isWord_72 : decode cX8_isWord 72 = .ok (.goto (-32), 3) := by decide +kernel
theorem dX8_isWord_75 : decode cX8_isWord 75 = .ok (.iconst 1, 1) := by decide +kernel
theorem dX8_isWord_76 : decode cX8_isWord 76 = .ok (.ireturn, 1) := by decide +kernel
theorem dX9_init_0 : decode cX9_init 0 = .ok (.aload_n 0, 1) := by decide +kernel
theorem dX9_init_1 : decode cX9_init 1 = .ok (.invokespecial 3, 3) := by decide +kernel
theorem dX9_init_4 : decode cX9_init 4 = .ok (.aload_n 0, 1) := by decide +kernel
theorem dX9_init_5 : decode cX9_init 5 = .ok (.iconst 1, 1) := by decide +kernel
theorem dX9_init_6 : decode cX9_init 6 = .ok (.putfield 9, 3) := by decide +kernel
theorem dX9_init_9 : decode cX9_init 9 = .ok (.aload_n 0, 1) := by decide +kernel
theorem dX9_init_10 : decode cX9_init 10 = .ok (.aload_n 1, 1) := by decide +kernel
theorem dX9_init_11 : decode cX9_init 11 = .ok (.putfield 15, 3) := by decide +kernel
theorem dX9_init_14 : decode cX9_init 14 = .ok (.return_, 1) := by decide +kernel
theorem dX9_goesTo_0 : decode cX9_goesTo 0 = .ok (.aload_n 0, 1) := by decide +kernel
theorem dX9_goesTo_1 : decode cX9_goesTo 1 = .ok (.getfield 15, 3) := by decide +kernel
theorem dX9_goesTo_4 : decode cX9_goesTo 4 = .ok (.iconst 2, 1) := by decide +kernel
theorem dX9_goesTo_5 : decode cX9_goesTo 5 = .ok (.iload_n 1, 1) := by decide +kernel
theorem dX9_goesTo_6 : decode cX9_goesTo 6 = .ok (.invokevirtual 19, 3) := by decide +kernel
theorem dX9_goesTo_9 : decode cX9_goesTo 9 = .ok (.ifCond .ne 5, 3) := by decide +kernel
theorem dX9_goesTo_12 : decode cX9_goesTo 12 = .ok (.iconst 0, 1) := by decide +kernel
theorem dX9_goesTo_13 : decode cX9_goesTo 13 = .ok (.ireturn, 1) := by decide +kernel
theorem dX9_goesTo_14 : decode cX9_goesTo 14 = .ok (.aload_n 0, 1) := by decide +kernel
theorem dX9_goesTo_15 : decode cX9_goesTo 15 = .ok (.aload_n 0, 1) := by decide +kernel
theorem dX9_goesTo_16 : decode cX9_goesTo 16 = .ok (.getfield 15, 3) := by decide +kernel
theorem dX9_goesTo_19 : decode cX9_goesTo 19 = .ok (.iconst 2, 1) := by decide +kernel
theorem dX9_goesTo_20 : decode cX9_goesTo 20 = .ok (.iload_n 1, 1) := by decide +kernel
theorem dX9_goesTo_21 : decode cX9_goesTo 21 = .ok (.iconst 0, 1) := by decide +kernel
theorem dX9_goesTo_22 : decode cX9_goesTo 22 = .ok (.invokevirtual 25, 3) := by decide +kernel
theorem dX9_goesTo_25 : decode cX9_goesTo 25 = .ok (.putfield 29, 3) := by decide +kernel
theorem dX9_goesTo_28 : decode cX9_goesTo 28 = .ok (.aload_n 0, 1) := by decide +kernel
theorem dX9_goesTo_29 : decode cX9_goesTo 29 = .ok (.aload_n 0, 1) := by decide +kernel
theorem dX9_goesTo_30 : decode cX9_goesTo 30 = .ok (.getfield 15, 3) := by decide +kernel
theorem dX9_goesTo_33 : decode cX9_goesTo 33 = .ok (.iconst 2, 1) := by decide +kernel
theorem dX9_goesTo_34 : decode cX9_goesTo 34 = .ok (.iload_n 1, 1) := by decide +kernel
theorem dX9_goesTo_35 : decode cX9_goesTo 35 = .ok (.iconst 1, 1) := by decide +kernel
theorem dX9_goesTo_36 : decode cX9_goesTo 36 = .ok (.invokevirtual 25, 3) := by decide +kernel
theorem dX9_goesTo_39 : decode cX9_goesTo 39 = .ok (.putfield 32, 3) := by decide +kernel
theorem dX9_goesTo_42 : decode cX9_goesTo 42 = .ok (.aload_n 0, 1) := by decide +kernel
theorem dX9_goesTo_43 : decode cX9_goesTo 43 = .ok (.aload_n 0, 1) := by decide +kernel
theorem dX9_goesTo_44 : decode cX9_goesTo 44 = .ok (.getfield 15, 3) := by decide +kernel
theorem dX9_goesTo_47 : decode cX9_goesTo 47 = .ok (.iconst 2, 1) := by decide +kernel
theorem dX9_goesTo_48 : decode cX9_goesTo 48 = .ok (.iload_n 1, 1) := by decide +kernel
theorem dX9_goesTo_49 : decode cX9_goesTo 49 = .ok (.iconst 2, 1) := by decide +kernel
theorem dX9_goesTo_50 : decode cX9_goesTo 50 = .ok (.invokevirtual 25, 3) := by decide +kernel
theorem dX9_goesTo_53 : decode cX9_goesTo 53 = .ok (.putfield 35, 3) := by decide +kernel
theorem dX9_goesTo_56 : decode cX9_goesTo 56 = .ok (.iconst 1, 1) := by decide +kernel
theorem dX9_goesTo_57 : decode cX9_goesTo 57 = .ok (.ireturn, 1) := by decide +kernel
theorem dX9_shines_0 : decode cX9_shines 0 = .ok (.aload_n 0, 1) := by decide +kernel
theorem dX9_shines_1 : decode cX9_shines 1 = .ok (.getfield 15, 3) := by decide +kernel
theorem dX9_shines_4 : decode cX9_shines 4 = .ok (.iload_n 1, 1) := by decide +kernel
theorem dX9_shines_5 : decode cX9_shines 5 = .ok (.invokevirtual 38, 3) := by decide +kernel
theorem dX9_shines_8 : decode cX9_shines 8 = .ok (.istore_n 3, 1) := by decide +kernel
theorem dX9_shines_9 : decode cX9_shines 9 = .ok (.iconst 0, 1) := by decide +kernel
theorem dX9_shines_10 : decode cX9_shines 10 = .ok (.istore 4, 2) := by decide +kernel
theorem dX9_shines_12 : decode cX9_shines 12 = .ok (.iload 4, 2) := by decide +kernel
theorem dX9_shines_14 : decode cX9_shines 14 = .ok (.iload_n 3, 1) := by decide +kernel
theorem dX9_shines_15 : decode cX9_shines 15 = .ok (.if_icmp .ge 24, 3) := by decide +kernel
theorem dX9_shines_18 : decode cX9_shines 18 = .ok (.aload_n 0, 1) := by decide +kernel
theorem dX9_shines_19 : decode cX9_shines 19 = .ok (.getfield 15, 3) := by decide +kernel
theorem dX9_shines_22 : decode cX9_shines 22 = .ok (.iload_n 1, 1) := by decide +kernel
theorem dX9_shines_23 : decode cX9_shines 23 = .ok (.iload 4, 2) := by decide +kernel
theorem dX9_shines_25 : decode cX9_shines 25 = .ok (.iconst 0, 1) := by decide +kernel
theorem dX9_shines_26 : decode cX9_shines 26 = .ok (.invokevirtual 42, 3) := by decide +kernel
theorem dX9_shines_29 : decode cX9_shines 29 = .ok (.iload_n 2, 1) := by decide +kernel
theorem dX9_shines_30 : decode cX9_shines 30 = .ok (.if_icmp .ge 9, 3) := by decide +kernel
theorem dX9_shines_33 : decode cX9_shines 33 = .ok (.iinc 4 1, 3) := by decide +kernel
theorem dX9_shines_36 : decode cX9_shines 36 = .ok (.goto (-24), 3) := by decide +kernel
theorem dX9_shines_39 : decode cX9_shines 39 = .ok (.iload 4, 2) := by decide +kernel
theorem dX9_shines_41 : decode cX9_shines 41 = .ok (.iload_n 3, 1) := by decide +kernel
theorem dX9_shines_42 : decode cX9_shines 42 = .ok (.if_icmp .ge 22, 3) := by decide +kernel
theorem dX9_shines_45 : decode cX9_shines 45 = .ok (.aload_n 0, 1) := by decide +kernel
theorem dX9_shines_46 : decode cX9_shines 46 = .ok (.getfield 15, 3) := by decide +kernel
theorem dX9_shines_49 : decode cX9_shines 49 = .ok (.iload_n 1, 1) := by decide +kernel
theorem dX9_shines_50 : decode cX9_shines 50 = .ok (.iload 4, 2) := by decide +kernel
theorem dX9_shines_52 : decode cX9_shines 52 = .ok (.iconst 0, 1) := by decide +kernel
theorem dX9_shines_53 : decode cX9_shines 53 = .ok (.invokevirtual 42, 3) := by decide +kernel
theorem dX9_shines_56 : decode cX9_shines 56 = .ok (.iload_n 2, 1) := by decide +kernel
theorem dX9_shines_57 : decode cX9_shines 57 = .ok (.if_icmp .ne 7, 3) := by decide +kernel
theorem dX9_shines_60 : decode cX9_shines 60 = .ok (.iconst 1, 1) := by decide +kernel
theorem dX9_shines_61 : decode cX9_shines 61 = .ok (.goto 4, 3) := by decide +kernel
theorem dX9_shines_64 : decode cX9_shines 64 = .ok (.iconst 0, 1) := by decide +kernel
theorem dX9_shines_65 : decode cX9_shines 65 = .ok (.istore 5, 2) := by decide +kernel
theorem dX9_shines_67 : decode cX9_shines 67 = .ok (.iload 4, 2) := by decide +kernel
theorem dX9_shines_69 : decode cX9_shines 69 = .ok (.iload_n 3, 1) := by decide +kernel
theorem dX9_shines_70 : decode cX9_shines 70 = .ok (.if_icmp .ge 13, 3) := by decide +kernel
theorem dX9_shines_73 : decode cX9_shines 73 = .ok (.iload 4, 2) := by decide +kernel
theorem dX9_shines_75 : decode cX9_shines 75 = .ok (.ifCond .ne 10, 3) := by decide +kernel
theorem dX9_shines_78 : decode cX9_shines 78 = .ok (.iload 5, 2) := by decide +kernel
theorem dX9_shines_80 : decode cX9_shines 80 = .ok (.ifCond .ne 5, 3) := by decide +kernel
theorem dX9_shines_83 : decode cX9_shines 83 = .ok (.iconst 0, 1) := by decide +kernel
theorem dX9_shines_84 : decode cX9_shines 84 = .ok (.ireturn, 1) := by decide +kernel
theorem dX9_shines_85 : decode cX9_shines 85 = .ok (.iload 5, 2) := by decide +kernel
theorem dX9_shines_87 : decode cX9_shines 87 = .ok (.ifCond .eq 8, 3) := by decide +kernel
theorem dX9_shines_90 : decode cX9_shines 90 = .ok (.iload 4, 2) := by decide +kernel
theorem dX9_shines_92 : decode cX9_shines 92 = .ok (.goto 7, 3) := by decide +kernel
theorem dX9_shines_95 : decode cX9_shines 95 = .ok (.iload 4, 2) := by decide +kernel
theorem dX9_shines_97 : decode cX9_shines 97 = .ok (.iconst 1, 1) := by decide +kernel
theorem dX9_shines_98 : decode cX9_shines 98 = .ok (.isub, 1) := by decide +kernel
theorem dX9_shines_99 : decode cX9_shines 99 = .ok (.istore 6, 2) := by decide +kernel
theorem dX9_shines_101 : decode cX9_shines 101 = .ok (.aload_n 0, 1) := by decide +kernel
theorem dX9_shines_102 : decode cX9_shines 102 = .ok (.getfield 15, 3) := by decide +kernel
theorem dX9_shines_105 : decode cX9_shines 105 = .ok (.iload_n 1, 1) := by decide +kernel
theorem dX9_shines_106 : decode cX9_shines 106 = .ok (.iload 6, 2) := by decide +kernel
theorem dX9_shines_108 : decode cX9_shines 108 = .ok (.iconst 0, 1) := by decide +kernel
theorem dX9_shines_109 : decode cX9_shines 109 = .ok (.invokevirtual 42, 3) := by decide +kernel
theorem dX9_shines_112 : decode cX9_shines 112 = .ok (.istore 7, 2) := by decide +kernel
theorem dX9_shines_114 : decode cX9_shines 114 = .ok (.iload_n 2, 1) := by decide +kernel
theorem dX9_shines_115 : decode cX9_shines 115 = .ok (.iload 7, 2) := by decide +kernel
theorem dX9_shines_117 : decode cX9_shines 117 = .ok (.isub, 1) := by decide +kernel
theorem dX9_shines_118 : decode cX9_shines 118 = .ok (.istore 8, 2) := by decide +kernel
theorem dX9_shines_120 : decode cX9_shines 120 = .ok (.aload_n 0, 1) := by decide +kernel
theorem dX9_shines_121 : decode cX9_shines 121 = .ok (.iload 5, 2) := by decide +kernel
theorem dX9_shines_123 : decode cX9_shines 123 = .ok (.ifCond .eq 7, 3) := by decide +kernel
theorem dX9_shines_126 : decode cX9_shines 126 = .ok (.iconst 1, 1) := by decide +kernel
theorem dX9_shines_127 : decode cX9_shines 127 = .ok (.goto 17, 3) := by decide +kernel
theorem dX9_shines_130 : decode cX9_shines 130 = .ok (.aload_n 0, 1) := by decide +kernel
theorem dX9_shines_131 : decode cX9_shines 131 = .ok (.getfield 15, 3) := by decide +kernel
theorem dX9_shines_134 : decode cX9_shines 134 = .ok (.iload_n 1, 1) := by decide +kernel
theorem dX9_shines_135 : decode cX9_shines 135 = .ok (.iload 4, 2) := by decide +kernel
theorem dX9_shines_137 : decode cX9_shines 137 = .ok (.iconst 0, 1) := by decide +kernel
theorem dX9_shines_138 : decode cX9_shines 138 = .ok (.invokevirtual 42, 3) := by decide +kernel
theorem dX9_shines_141 : decode cX9_shines 141 = .ok (.iload 7, 2) := by decide +kernel
theorem dX9_shines_143 : decode cX9_shines 143 = .ok (.isub, 1) := by decide +kernel
theorem dX9_shines_144 : decode cX9_shines 144 = .ok (.putfield 9, 3) := by decide +kernel
theorem dX9_shines_147 : decode cX9_shines 147 = .ok (.aload_n 0, 1) := by decide +kernel
theorem dX9_shines_148 : decode cX9_shines 148 = .ok (.getfield 9, 3) := by decide +kernel
theorem dX9_shines_151 : decode cX9_shines 151 = .ok (.iload 8, 2) := by decide +kernel
theorem dX9_shines_153 : decode cX9_shines 153 = .ok (.isub, 1) := by decide +kernel
theorem dX9_shines_154 : decode cX9_shines 154 = .ok (.istore 9, 2) := by decide +kernel
theorem dX9_shines_156 : decode cX9_shines 156 = .ok (.aload_n 0, 1) := by decide +kernel
theorem dX9_shines_157 : decode cX9_shines 157 = .ok (.aload_n 0, 1) := by decide +kernel
theorem dX9_shines_158 : decode cX9_shines 158 = .ok (.getfield 15, 3) := by decide +kernel
theorem dX9_shines_161 : decode cX9_shines 161 = .ok (.iload_n 1, 1) := by decide +kernel
theorem dX9_shines_162 : decode cX9_shines 162 = .ok (.iload 6, 2) := by decide +kernel
theorem dX9_shines_164 : decode cX9_shines 164 = .ok (.iconst 1, 1) := by decide +kernel
theorem dX9_shines_165 : decode cX9_shines 165 = .ok (.invokevirtual 42, 3) := by decide +kernel
theorem dX9_shines_168 : decode cX9_shines 168 = .ok (.iload 9, 2) := by decide +kernel
theorem dX9_shines_170 : decode cX9_shines 170 = .ok (.imul, 1) := by decide +kernel
theorem dX9_shines_171 : decode cX9_shines 171 = .ok (.aload_n 0, 1) := by decide +kernel
theorem dX9_shines_172 : decode cX9_shines 172 = .ok (.getfield 15, 3) := by decide +kernel
theorem dX9_shines_175 : decode cX9_shines 175 = .ok (.iload_n 1, 1) := by decide +kernel
theorem dX9_shines_176 : decode cX9_shines 176 = .ok (.iload 4, 2) := by decide +kernel
theorem dX9_shines_178 : decode cX9_shines 178 = .ok (.iconst 1, 1) := by decide +kernel
theorem dX9_shines_179 : decode cX9_shines 179 = .ok (.invokevirtual 42, 3) := by decide +kernel
theorem dX9_shines_182 : decode cX9_shines 182 = .ok (.iload 8, 2) := by decide +kernel
theorem dX9_shines_184 : decode cX9_shines 184 = .ok (.imul, 1) := by decide +kernel
theorem dX9_shines_185 : decode cX9_shines 185 = .ok (.iadd, 1) := by decide +kernel
theorem dX9_shines_186 : decode cX9_shines 186 = .ok (.putfield 45, 3) := by decide +kernel
theorem dX9_shines_189 : decode cX9_shines 189 = .ok (.aload_n 0, 1) := by decide +kernel
theorem dX9_shines_190 : decode cX9_shines 190 = .ok (.aload_n 0, 1) := by decide +kernel
theorem dX9_shines_191 : decode cX9_shines 191 = .ok (.getfield 15, 3) := by decide +kernel
theorem dX9_shines_194 : decode cX9_shines 194 = .ok (.iload_n 1, 1) := by decide +kernel
theorem dX9_shines_195 : decode cX9_shines 195 = .ok (.iload 6, 2) := by decide +kernel
theorem dX9_shines_197 : decode cX9_shines 197 = .ok (.iconst 2, 1) := by decide +kernel
theorem dX9_shines_198 : decode cX9_shines 198 = .ok (.invokevirtual 42, 3) := by decide +kernel
theorem dX9_shines_201 : decode cX9_shines 201 = .ok (.iload 9, 2) := by decide +kernel
theorem dX9_shines_203 : decode cX9_shines 203 = .ok (.imul, 1) := by decide +kernel
theorem dX9_shines_204 : decode cX9_shines 204 = .ok (.aload_n 0, 1) := by decide +kernel
theorem dX9_shines_205 : decode cX9_shines 205 = .ok (.getfield 15, 3) := by decide +kernel
theorem dX9_shines_208 : decode cX9_shines 208 = .ok (.iload_n 1, 1) := by decide +kernel
theorem dX9_shines_209 : decode cX9_shines 209 = .ok (.iload 4, 2) := by decide +kernel
theorem dX9_shines_211 : decode cX9_shines 211 = .ok (.iconst 2, 1) := by decide +kernel
theorem dX9_shines_212 : decode cX9_shines 212 = .ok (.invokevirtual 42, 3) := by decide +kernel
theorem dX9_shines_215 : decode cX9_shines 215 = .ok (.iload 8, 2) := by decide +kernel
theorem dX9_shines_217 : decode cX9_shines 217 = .ok (.imul, 1) := by decide +kernel
theorem dX9_shines_218 : decode cX9_shines 218 = .ok (.iadd, 1) := by decide +kernel
theorem dX9_shines_219 : decode cX9_shines 219 = .ok (.putfield 48, 3) := by decide +kernel
theorem dX9_shines_222 : decode cX9_shines 222 = .ok (.iconst 1, 1) := by decide +kernel
theorem dX9_shines_223 : decode cX9_shines 223 = .ok (.ireturn, 1) := by decide +kernel
theorem dX9_lower_0 : decode cX9_lower 0 = .ok (.bipush 10, 2) := by decide +kernel
theorem dX9_lower_2 : decode cX9_lower 2 = .ok (.aload_n 0, 1) := by decide +kernel
theorem dX9_lower_3 : decode cX9_lower 3 = .ok (.getfield 9, 3) := by decide +kernel
theorem dX9_lower_6 : decode cX9_lower 6 = .ok (.imul, 1) := by decide +kernel
theorem dX9_lower_7 : decode cX9_lower 7 = .ok (.ireturn, 1) := by decide +kernel
theorem dX9_upperX_0 : decode cX9_upperX 0 = .ok (.aload_n 0, 1) := by decide +kernel
theorem dX9_upperX_1 : decode cX9_upperX 1 = .ok (.getfield 29, 3) := by decide +kernel
theorem dX9_upperX_4 : decode cX9_upperX 4 = .ok (.aload_n 0, 1) := by decide +kernel
theorem dX9_upperX_5 : decode cX9_upperX 5 = .ok (.invokevirtual 51, 3) := by decide +kernel
theorem dX9_upperX_8 : decode cX9_upperX 8 = .ok (.imul, 1) := by decide +kernel
theorem dX9_upperX_9 : decode cX9_upperX 9 = .ok (.aload_n 0, 1) := by decide +kernel
theorem dX9_upperX_10 : decode cX9_upperX 10 = .ok (.getfield 35, 3) := by decide +kernel
theorem dX9_upperX_13 : decode cX9_upperX 13 = .ok (.aload_n 0, 1) := by decide +kernel
theorem dX9_upperX_14 : decode cX9_upperX 14 = .ok (.getfield 45, 3) := by decide +kernel
theorem dX9_upperX_17 : decode cX9_upperX 17 = .ok (.imul, 1) := by decide +kernel
theorem dX9_upperX_18 : decode cX9_upperX 18 = .ok (.iadd, 1) := by decide +kernel
theorem dX9_upperX_19 : decode cX9_upperX 19 = .ok (.ireturn, 1) := by decide +kernel
theorem dX9_upperY_0 : decode cX9_upperY 0 = .ok (.aload_n 0, 1) := by decide +kernel
theorem dX9_upperY_1 : decode cX9_upperY 1 = .ok (.getfield 32, 3) := by decide +kernel
theorem dX9_upperY_4 : decode cX9_upperY 4 = .ok (.aload_n 0, 1) := by decide +kernel
theorem dX9_upperY_5 : decode cX9_upperY 5 = .ok (.invokevirtual 51, 3) := by decide +kernel
theorem dX9_upperY_8 : decode cX9_upperY 8 = .ok (.imul, 1) := by decide +kernel
theorem dX9_upperY_9 : decode cX9_upperY 9 = .ok (.aload_n 0, 1) := by decide +kernel
theorem dX9_upperY_10 : decode cX9_upperY 10 = .ok (.getfield 35, 3) := by decide +kernel
theorem dX9_upperY_13 : decode cX9_upperY 13 = .ok (.aload_n 0, 1) := by decide +kernel
theorem dX9_upperY_14 : decode cX9_upperY 14 = .ok (.getfield 48, 3) := by decide +kernel
theorem dX9_upperY_17 : decode cX9_upperY 17 = .ok (.imul, 1) := by decide +kernel
theorem dX9_upperY_18 : decode cX9_upperY 18 = .ok (.iadd, 1) := by decide +kernel
theorem dX9_upperY_19 : decode cX9_upperY 19 = .ok (.ireturn, 1) := by decide +kernel
theorem dX9_minutesLet_0 : decode cX9_minutesLet 0 = .ok (.aload_n 0, 1) := by decide +kernel
theorem dX9_minutesLet_1 : decode cX9_minutesLet 1 = .ok (.getfield 15, 3) := by decide +kernel
theorem dX9_minutesLet_4 : decode cX9_minutesLet 4 = .ok (.iload_n 3, 1) := by decide +kernel
theorem dX9_minutesLet_5 : decode cX9_minutesLet 5 = .ok (.invokevirtual 38, 3) := by decide +kernel
theorem dX9_minutesLet_8 : decode cX9_minutesLet 8 = .ok (.ifCond .ne 6, 3) := by decide +kernel
theorem dX9_minutesLet_11 : decode cX9_minutesLet 11 = .ok (.ldc 55, 2) := by decide +kernel
theorem dX9_minutesLet_13 : decode cX9_minutesLet 13 = .ok (.ireturn, 1) := by decide +kernel
theorem dX9_minutesLet_14 : decode cX9_minutesLet 14 = .ok (.aload_n 1, 1) := by decide +kernel
theorem dX9_minutesLet_15 : decode cX9_minutesLet 15 = .ok (.iload_n 2, 1) := by decide +kernel
theorem dX9_minutesLet_16 : decode cX9_minutesLet 16 = .ok (.iconst 2, 1) := by decide +kernel
theorem dX9_minutesLet_17 : decode cX9_minutesLet 17 = .ok (.invokevirtual 56, 3) := by decide +kernel
theorem dX9_minutesLet_20 : decode cX9_minutesLet 20 = .ok (.istore 5, 2) := by decide +kernel
theorem dX9_minutesLet_22 : decode cX9_minutesLet 22 = .ok (.aload_n 1, 1) := by decide +kernel
theorem dX9_minutesLet_23 : decode cX9_minutesLet 23 = .ok (.iload_n 2, 1) := by decide +kernel
theorem dX9_minutesLet_24 : decode cX9_minutesLet 24 = .ok (.iconst 3, 1) := by decide +kernel
theorem dX9_minutesLet_25 : decode cX9_minutesLet 25 = .ok (.invokevirtual 56, 3) := by decide +kernel
theorem dX9_minutesLet_28 : decode cX9_minutesLet 28 = .ok (.istore 6, 2) := by decide +kernel
theorem dX9_minutesLet_30 : decode cX9_minutesLet 30 = .ok (.aload_n 1, 1) := by decide +kernel
theorem dX9_minutesLet_31 : decode cX9_minutesLet 31 = .ok (.iload_n 2, 1) := by decide +kernel
theorem dX9_minutesLet_32 : decode cX9_minutesLet 32 = .ok (.iconst 4, 1) := by decide +kernel
theorem dX9_minutesLet_33 : decode cX9_minutesLet 33 = .ok (.invokevirtual 56, 3) := by decide +kernel
theorem dX9_minutesLet_36 : decode cX9_minutesLet 36 = .ok (.istore 7, 2) := by decide +kernel
theorem dX9_minutesLet_38 : decode cX9_minutesLet 38 = .ok (.iconst 0, 1) := by decide +kernel
theorem dX9_minutesLet_39 : decode cX9_minutesLet 39 = .ok (.istore 8, 2) := by decide +kernel
theorem dX9_minutesLet_41 : decode cX9_minutesLet 41 = .ok (.aload_n 0, 1) := by decide +kernel
theorem dX9_minutesLet_42 : decode cX9_minutesLet 42 = .ok (.aload_n 1, 1) := by decide +kernel
theorem dX9_minutesLet_43 : decode cX9_minutesLet 43 = .ok (.iload_n 2, 1) := by decide +kernel
theorem dX9_minutesLet_44 : decode cX9_minutesLet 44 = .ok (.iconst 1, 1) := by decide +kernel
theorem dX9_minutesLet_45 : decode cX9_minutesLet 45 = .ok (.invokevirtual 56, 3) := by decide +kernel
theorem dX9_minutesLet_48 : decode cX9_minutesLet 48 = .ok (.invokevirtual 62, 3) := by decide +kernel
theorem dX9_minutesLet_51 : decode cX9_minutesLet 51 = .ok (.ifCond .ne 6, 3) := by decide +kernel
theorem dX9_minutesLet_54 : decode cX9_minutesLet 54 = .ok (.iload 8, 2) := by decide +kernel
theorem dX9_minutesLet_56 : decode cX9_minutesLet 56 = .ok (.ireturn, 1) := by decide +kernel
theorem dX9_minutesLet_57 : decode cX9_minutesLet 57 = .ok (.iconst 0, 1) := by decide +kernel
theorem dX9_minutesLet_58 : decode cX9_minutesLet 58 = .ok (.istore 9, 2) := by decide +kernel
theorem dX9_minutesLet_60 : decode cX9_minutesLet 60 = .ok (.iload 9, 2) := by decide +kernel
theorem dX9_minutesLet_62 : decode cX9_minutesLet 62 = .ok (.bipush 30, 2) := by decide +kernel
theorem dX9_minutesLet_64 : decode cX9_minutesLet 64 = .ok (.if_icmp .ge 47, 3) := by decide +kernel
theorem dX9_minutesLet_67 : decode cX9_minutesLet 67 = .ok (.aload_n 0, 1) := by decide +kernel
theorem dX9_minutesLet_68 : decode cX9_minutesLet 68 = .ok (.iload_n 3, 1) := by decide +kernel
theorem dX9_minutesLet_69 : decode cX9_minutesLet 69 = .ok (.iload 4, 2) := by decide +kernel
theorem dX9_minutesLet_71 : decode cX9_minutesLet 71 = .ok (.bipush 30, 2) := by decide +kernel
theorem dX9_minutesLet_73 : decode cX9_minutesLet 73 = .ok (.imul, 1) := by decide +kernel
theorem dX9_minutesLet_74 : decode cX9_minutesLet 74 = .ok (.iload 9, 2) := by decide +kernel
theorem dX9_minutesLet_76 : decode cX9_minutesLet 76 = .ok (.iadd, 1) := by decide +kernel
theorem dX9_minutesLet_77 : decode cX9_minutesLet 77 = .ok (.invokevirtual 66, 3) := by decide +kernel
theorem dX9_minutesLet_80 : decode cX9_minutesLet 80 = .ok (.ifCond .eq 25, 3) := by decide +kernel
theorem dX9_minutesLet_83 : decode cX9_minutesLet 83 = .ok (.aload_n 0, 1) := by decide +kernel
theorem dX9_minutesLet_84 : decode cX9_minutesLet 84 = .ok (.iload 5, 2) := by decide +kernel
theorem dX9_minutesLet_86 : decode cX9_minutesLet 86 = .ok (.iload 6, 2) := by decide +kernel
theorem dX9_minutesLet_88 : decode cX9_minutesLet 88 = .ok (.iload 7, 2) := by decide +kernel
theorem dX9_minutesLet_90 : decode cX9_minutesLet 90 = .ok (.invokevirtual 69, 3) := by decide +kernel
theorem dX9_minutesLet_93 : decode cX9_minutesLet 93 = .ok (.ifCond .eq 12, 3) := by decide +kernel
theorem dX9_minutesLet_96 : decode cX9_minutesLet 96 = .ok (.iload 8, 2) := by decide +kernel
theorem dX9_minutesLet_98 : decode cX9_minutesLet 98 = .ok (.iconst 1, 1) := by decide +kernel
theorem dX9_minutesLet_99 : decode cX9_minutesLet 99 = .ok (.iload 9, 2) := by decide +kernel
theorem dX9_minutesLet_101 : decode cX9_minutesLet 101 = .ok (.ishl, 1) := by decide +kernel
theorem dX9_minutesLet_102 : decode cX9_minutesLet 102 = .ok (.ior, 1) := by decide +kernel
theorem dX9_minutesLet_103 : decode cX9_minutesLet 103 = .ok (.istore 8, 2) := by decide +kernel
theorem dX9_minutesLet_105 : decode cX9_minutesLet 105 = .ok (.iinc 9 1, 3) := by decide +kernel
theorem dX9_minutesLet_108 : decode cX9_minutesLet 108 = .ok (.goto (-48), 3) := by decide +kernel
theorem dX9_minutesLet_111 : decode cX9_minutesLet 111 = .ok (.iload 8, 2) := by decide +kernel
theorem dX9_minutesLet_113 : decode cX9_minutesLet 113 = .ok (.ireturn, 1) := by decide +kernel
theorem dX9_fallsTo_0 : decode cX9_fallsTo 0 = .ok (.iload_n 3, 1) := by decide +kernel
theorem dX9_fallsTo_1 : decode cX9_fallsTo 1 = .ok (.bipush 10, 2) := by decide +kernel
theorem dX9_fallsTo_3 : decode cX9_fallsTo 3 = .ok (.imul, 1) := by decide +kernel
theorem dX9_fallsTo_4 : decode cX9_fallsTo 4 = .ok (.aload_n 0, 1) := by decide +kernel
theorem dX9_fallsTo_5 : decode cX9_fallsTo 5 = .ok (.getfield 9, 3) := by decide +kernel
theorem dX9_fallsTo_8 : decode cX9_fallsTo 8 = .ok (.imul, 1) := by decide +kernel
theorem dX9_fallsTo_9 : decode cX9_fallsTo 9 = .ok (.istore 4, 2) := by decide +kernel
theorem dX9_fallsTo_11 : decode cX9_fallsTo 11 = .ok (.aload_n 0, 1) := by decide +kernel
theorem dX9_fallsTo_12 : decode cX9_fallsTo 12 = .ok (.invokevirtual 73, 3) := by decide +kernel
theorem dX9_fallsTo_15 : decode cX9_fallsTo 15 = .ok (.iload_n 1, 1) := by decide +kernel
theorem dX9_fallsTo_16 : decode cX9_fallsTo 16 = .ok (.bipush 10, 2) := by decide +kernel
theorem dX9_fallsTo_18 : decode cX9_fallsTo 18 = .ok (.imul, 1) := by decide +kernel
theorem dX9_fallsTo_19 : decode cX9_fallsTo 19 = .ok (.aload_n 0, 1) := by decide +kernel
theorem dX9_fallsTo_20 : decode cX9_fallsTo 20 = .ok (.getfield 9, 3) := by decide +kernel
theorem dX9_fallsTo_23 : decode cX9_fallsTo 23 = .ok (.imul, 1) := by decide +kernel
theorem dX9_fallsTo_24 : decode cX9_fallsTo 24 = .ok (.isub, 1) := by decide +kernel
theorem dX9_fallsTo_25 : decode cX9_fallsTo 25 = .ok (.invokestatic 76, 3) := by decide +kernel
theorem dX9_fallsTo_28 : decode cX9_fallsTo 28 = .ok (.iload 4, 2) := by decide +kernel
theorem dX9_fallsTo_30 : decode cX9_fallsTo 30 = .ok (.if_icmp .gt 29, 3) := by decide +kernel
theorem dX9_fallsTo_33 : decode cX9_fallsTo 33 = .ok (.aload_n 0, 1) := by decide +kernel
theorem dX9_fallsTo_34 : decode cX9_fallsTo 34 = .ok (.invokevirtual 81, 3) := by decide +kernel
theorem dX9_fallsTo_37 : decode cX9_fallsTo 37 = .ok (.iload_n 2, 1) := by decide +kernel
theorem dX9_fallsTo_38 : decode cX9_fallsTo 38 = .ok (.bipush 10, 2) := by decide +kernel
theorem dX9_fallsTo_40 : decode cX9_fallsTo 40 = .ok (.imul, 1) := by decide +kernel
theorem dX9_fallsTo_41 : decode cX9_fallsTo 41 = .ok (.aload_n 0, 1) := by decide +kernel
theorem dX9_fallsTo_42 : decode cX9_fallsTo 42 = .ok (.getfield 9, 3) := by decide +kernel
theorem dX9_fallsTo_45 : decode cX9_fallsTo 45 = .ok (.imul, 1) := by decide +kernel
theorem dX9_fallsTo_46 : decode cX9_fallsTo 46 = .ok (.isub, 1) := by decide +kernel
theorem dX9_fallsTo_47 : decode cX9_fallsTo 47 = .ok (.invokestatic 76, 3) := by decide +kernel
theorem dX9_fallsTo_50 : decode cX9_fallsTo 50 = .ok (.iload 4, 2) := by decide +kernel
theorem dX9_fallsTo_52 : decode cX9_fallsTo 52 = .ok (.if_icmp .gt 7, 3) := by decide +kernel
theorem dX9_fallsTo_55 : decode cX9_fallsTo 55 = .ok (.iconst 1, 1) := by decide +kernel
theorem dX9_fallsTo_56 : decode cX9_fallsTo 56 = .ok (.goto 4, 3) := by decide +kernel
theorem dX9_fallsTo_59 : decode cX9_fallsTo 59 = .ok (.iconst 0, 1) := by decide +kernel
theorem dX9_fallsTo_60 : decode cX9_fallsTo 60 = .ok (.ireturn, 1) := by decide +kernel
theorem dX10_init_0 : decode cX10_init 0 = .ok (.aload_n 0, 1) := by decide +kernel
theorem dX10_init_1 : decode cX10_init 1 = .ok (.invokespecial 3, 3) := by decide +kernel
theorem dX10_init_4 : decode cX10_init 4 = .ok (.aload_n 0, 1) := by decide +kernel
theorem dX10_init_5 : decode cX10_init 5 = .ok (.bipush 6, 2) := by decide +kernel
theorem dX10_init_7 : decode cX10_init 7 = .ok (.newarray .int, 2) := by decide +kernel
theorem dX10_init_9 : decode cX10_init 9 = .ok (.putfield 9, 3) := by decide +kernel
theorem dX10_init_12 : decode cX10_init 12 = .ok (.aload_n 0, 1) := by decide +kernel
theorem dX10_init_13 : decode cX10_init 13 = .ok (.bipush 48, 2) := by decide +kernel
theorem dX10_init_15 : decode cX10_init 15 = .ok (.newarray .long, 2) := by decide +kernel
theorem dX10_init_17 : decode cX10_init 17 = .ok (.putfield 15, 3) := by decide +kernel
theorem dX10_init_20 : decode cX10_init 20 = .ok (.aload_n 0, 1) := by decide +kernel
theorem dX10_init_21 : decode cX10_init 21 = .ok (.sipush 192, 3) := by decide +kernel
theorem dX10_init_24 : decode cX10_init 24 = .ok (.newarray .int, 2) := by decide +kernel
theorem dX10_init_26 : decode cX10_init 26 = .ok (.putfield 19, 3) := by decide +kernel
theorem dX10_init_29 : decode cX10_init 29 = .ok (.aload_n 0, 1) := by decide +kernel
theorem dX10_init_30 : decode cX10_init 30 = .ok (.bipush 12, 2) := by decide +kernel
theorem dX10_init_32 : decode cX10_init 32 = .ok (.newarray .int, 2) := by decide +kernel
theorem dX10_init_34 : decode cX10_init 34 = .ok (.putfield 22, 3) := by decide +kernel
theorem dX10_init_37 : decode cX10_init 37 = .ok (.aload_n 0, 1) := by decide +kernel
theorem dX10_init_38 : decode cX10_init 38 = .ok (.sipush 1440, 3) := by decide +kernel
theorem dX10_init_41 : decode cX10_init 41 = .ok (.newarray .int, 2) := by decide +kernel
theorem dX10_init_43 : decode cX10_init 43 = .ok (.putfield 25, 3) := by decide +kernel
theorem dX10_init_46 : decode cX10_init 46 = .ok (.return_, 1) := by decide +kernel
theorem dX10_clear_0 : decode cX10_clear 0 = .ok (.aload_n 0, 1) := by decide +kernel
theorem dX10_clear_1 : decode cX10_clear 1 = .ok (.getfield 9, 3) := by decide +kernel
theorem dX10_clear_4 : decode cX10_clear 4 = .ok (.iconst 0, 1) := by decide +kernel
theorem dX10_clear_5 : decode cX10_clear 5 = .ok (.invokestatic 28, 3) := by decide +kernel
theorem dX10_clear_8 : decode cX10_clear 8 = .ok (.aload_n 0, 1) := by decide +kernel
theorem dX10_clear_9 : decode cX10_clear 9 = .ok (.getfield 22, 3) := by decide +kernel
theorem dX10_clear_12 : decode cX10_clear 12 = .ok (.iconst 0, 1) := by decide +kernel
theorem dX10_clear_13 : decode cX10_clear 13 = .ok (.invokestatic 28, 3) := by decide +kernel
theorem dX10_clear_16 : decode cX10_clear 16 = .ok (.return_, 1) := by decide +kernel
theorem dX10_copyFrom_0 : decode cX10_copyFrom 0 = .ok (.aload_n 1, 1) := by decide +kernel
theorem dX10_copyFrom_1 : decode cX10_copyFrom 1 = .ok (.getfield 9, 3) := by decide +kernel
theorem dX10_copyFrom_4 : decode cX10_copyFrom 4 = .ok (.iconst 0, 1) := by decide +kernel
theorem dX10_copyFrom_5 : decode cX10_copyFrom 5 = .ok (.aload_n 0, 1) := by decide +kernel
theorem dX10_copyFrom_6 : decode cX10_copyFrom 6 = .ok (.getfield 9, 3) := by decide +kernel
theorem dX10_copyFrom_9 : decode cX10_copyFrom 9 = .ok (.iconst 0, 1) := by decide +kernel
theorem dX10_copyFrom_10 : decode cX10_copyFrom 10 = .ok (.aload_n 0, 1) := by decide +kernel
theorem dX10_copyFrom_11 : decode cX10_copyFrom 11 = .ok (.getfield 9, 3) := by decide +kernel
theorem dX10_copyFrom_14 : decode cX10_copyFrom 14 = .ok (.arraylength, 1) := by decide +kernel
theorem dX10_copyFrom_15 : decode cX10_copyFrom 15 = .ok (.invokestatic 34, 3) := by decide +kernel
theorem dX10_copyFrom_18 : decode cX10_copyFrom 18 = .ok (.aload_n 1, 1) := by decide +kernel
theorem dX10_copyFrom_19 : decode cX10_copyFrom 19 = .ok (.getfield 15, 3) := by decide +kernel
theorem dX10_copyFrom_22 : decode cX10_copyFrom 22 = .ok (.iconst 0, 1) := by decide +kernel
theorem dX10_copyFrom_23 : decode cX10_copyFrom 23 = .ok (.aload_n 0, 1) := by decide +kernel
theorem dX10_copyFrom_24 : decode cX10_copyFrom 24 = .ok (.getfield 15, 3) := by decide +kernel
theorem dX10_copyFrom_27 : decode cX10_copyFrom 27 = .ok (.iconst 0, 1) := by decide +kernel
theorem dX10_copyFrom_28 : decode cX10_copyFrom 28 = .ok (.aload_n 0, 1) := by decide +kernel
theorem dX10_copyFrom_29 : decode cX10_copyFrom 29 = .ok (.getfield 15, 3) := by decide +kernel
theorem dX10_copyFrom_32 : decode cX10_copyFrom 32 = .ok (.arraylength, 1) := by decide +kernel
theorem dX10_copyFrom_33 : decode cX10_copyFrom 33 = .ok (.invokestatic 34, 3) := by decide +kernel
theorem dX10_copyFrom_36 : decode cX10_copyFrom 36 = .ok (.aload_n 1, 1) := by decide +kernel
theorem dX10_copyFrom_37 : decode cX10_copyFrom 37 = .ok (.getfield 19, 3) := by decide +kernel
theorem dX10_copyFrom_40 : decode cX10_copyFrom 40 = .ok (.iconst 0, 1) := by decide +kernel
theorem dX10_copyFrom_41 : decode cX10_copyFrom 41 = .ok (.aload_n 0, 1) := by decide +kernel
theorem dX10_copyFrom_42 : decode cX10_copyFrom 42 = .ok (.getfield 19, 3) := by decide +kernel
theorem dX10_copyFrom_45 : decode cX10_copyFrom 45 = .ok (.iconst 0, 1) := by decide +kernel
theorem dX10_copyFrom_46 : decode cX10_copyFrom 46 = .ok (.aload_n 0, 1) := by decide +kernel
theorem dX10_copyFrom_47 : decode cX10_copyFrom 47 = .ok (.getfield 19, 3) := by decide +kernel
theorem dX10_copyFrom_50 : decode cX10_copyFrom 50 = .ok (.arraylength, 1) := by decide +kernel
theorem dX10_copyFrom_51 : decode cX10_copyFrom 51 = .ok (.invokestatic 34, 3) := by decide +kernel
theorem dX10_copyFrom_54 : decode cX10_copyFrom 54 = .ok (.aload_n 1, 1) := by decide +kernel
theorem dX10_copyFrom_55 : decode cX10_copyFrom 55 = .ok (.getfield 22, 3) := by decide +kernel
theorem dX10_copyFrom_58 : decode cX10_copyFrom 58 = .ok (.iconst 0, 1) := by decide +kernel
theorem dX10_copyFrom_59 : decode cX10_copyFrom 59 = .ok (.aload_n 0, 1) := by decide +kernel
theorem dX10_copyFrom_60 : decode cX10_copyFrom 60 = .ok (.getfield 22, 3) := by decide +kernel
theorem dX10_copyFrom_63 : decode cX10_copyFrom 63 = .ok (.iconst 0, 1) := by decide +kernel
theorem dX10_copyFrom_64 : decode cX10_copyFrom 64 = .ok (.aload_n 0, 1) := by decide +kernel
theorem dX10_copyFrom_65 : decode cX10_copyFrom 65 = .ok (.getfield 22, 3) := by decide +kernel
theorem dX10_copyFrom_68 : decode cX10_copyFrom 68 = .ok (.arraylength, 1) := by decide +kernel
theorem dX10_copyFrom_69 : decode cX10_copyFrom 69 = .ok (.invokestatic 34, 3) := by decide +kernel
theorem dX10_copyFrom_72 : decode cX10_copyFrom 72 = .ok (.aload_n 1, 1) := by decide +kernel
theorem dX10_copyFrom_73 : decode cX10_copyFrom 73 = .ok (.getfield 25, 3) := by decide +kernel
theorem dX10_copyFrom_76 : decode cX10_copyFrom 76 = .ok (.iconst 0, 1) := by decide +kernel
theorem dX10_copyFrom_77 : decode cX10_copyFrom 77 = .ok (.aload_n 0, 1) := by decide +kernel
theorem dX10_copyFrom_78 : decode cX10_copyFrom 78 = .ok (.getfield 25, 3) := by decide +kernel
theorem dX10_copyFrom_81 : decode cX10_copyFrom 81 = .ok (.iconst 0, 1) := by decide +kernel
theorem dX10_copyFrom_82 : decode cX10_copyFrom 82 = .ok (.aload_n 0, 1) := by decide +kernel
theorem dX10_copyFrom_83 : decode cX10_copyFrom 83 = .ok (.getfield 25, 3) := by decide +kernel
theorem dX10_copyFrom_86 : decode cX10_copyFrom 86 = .ok (.arraylength, 1) := by decide +kernel
theorem dX10_copyFrom_87 : decode cX10_copyFrom 87 = .ok (.invokestatic 34, 3) := by decide +kernel
theorem dX10_copyFrom_90 : decode cX10_copyFrom 90 = .ok (.return_, 1) := by decide +kernel
theorem dX10_countOf_0 : decode cX10_countOf 0 = .ok (.iload_n 1, 1) := by decide +kernel
theorem dX10_countOf_1 : decode cX10_countOf 1 = .ok (.ifCond .lt 12, 3) := by decide +kernel
theorem dX10_countOf_4 : decode cX10_countOf 4 = .ok (.iload_n 1, 1) := by decide +kernel
theorem dX10_countOf_5 : decode cX10_countOf 5 = .ok (.aload_n 0, 1) := by decide +kernel
theorem dX10_countOf_6 : decode cX10_countOf 6 = .ok (.getfield 9, 3) := by decide +kernel
theorem dX10_countOf_9 : decode cX10_countOf 9 = .ok (.arraylength, 1) := by decide +kernel
theorem dX10_countOf_10 : decode cX10_countOf 10 = .ok (.if_icmp .lt 7, 3) := by decide +kernel
theorem dX10_countOf_13 : decode cX10_countOf 13 = .ok (.iconst (-1), 1) := by decide +kernel
theorem dX10_countOf_14 : decode cX10_countOf 14 = .ok (.goto 9, 3) := by decide +kernel
theorem dX10_countOf_17 : decode cX10_countOf 17 = .ok (.aload_n 0, 1) := by decide +kernel
theorem dX10_countOf_18 : decode cX10_countOf 18 = .ok (.getfield 9, 3) := by decide +kernel
theorem dX10_countOf_21 : decode cX10_countOf 21 = .ok (.iload_n 1, 1) := by decide +kernel
theorem dX10_countOf_22 : decode cX10_countOf 22 = .ok (.iaload, 1) := by decide +kernel
theorem dX10_countOf_23 : decode cX10_countOf 23 = .ok (.ireturn, 1) := by decide +kernel
theorem dX10_has_0 : decode cX10_has 0 = .ok (.iload_n 1, 1) := by decide +kernel
theorem dX10_has_1 : decode cX10_has 1 = .ok (.ifCond .lt 26, 3) := by decide +kernel
theorem dX10_has_4 : decode cX10_has 4 = .ok (.iload_n 1, 1) := by decide +kernel
theorem dX10_has_5 : decode cX10_has 5 = .ok (.iconst 4, 1) := by decide +kernel
theorem dX10_has_6 : decode cX10_has 6 = .ok (.if_icmp .ge 21, 3) := by decide +kernel
theorem dX10_has_9 : decode cX10_has 9 = .ok (.iload_n 2, 1) := by decide +kernel
theorem dX10_has_10 : decode cX10_has 10 = .ok (.ifCond .lt 17, 3) := by decide +kernel
theorem dX10_has_13 : decode cX10_has 13 = .ok (.iload_n 2, 1) := by decide +kernel
theorem dX10_has_14 : decode cX10_has 14 = .ok (.aload_n 0, 1) := by decide +kernel
theorem dX10_has_15 : decode cX10_has 15 = .ok (.getfield 9, 3) := by decide +kernel
theorem dX10_has_18 : decode cX10_has 18 = .ok (.iload_n 1, 1) := by decide +kernel
theorem dX10_has_19 : decode cX10_has 19 = .ok (.iaload, 1) := by decide +kernel
theorem dX10_has_20 : decode cX10_has 20 = .ok (.if_icmp .ge 7, 3) := by decide +kernel
theorem dX10_has_23 : decode cX10_has 23 = .ok (.iconst 1, 1) := by decide +kernel
theorem dX10_has_24 : decode cX10_has 24 = .ok (.goto 4, 3) := by decide +kernel
theorem dX10_has_27 : decode cX10_has 27 = .ok (.iconst 0, 1) := by decide +kernel
theorem dX10_has_28 : decode cX10_has 28 = .ok (.ireturn, 1) := by decide +kernel
theorem dX10_of_0 : decode cX10_of 0 = .ok (.iload_n 1, 1) := by decide +kernel
theorem dX10_of_1 : decode cX10_of 1 = .ok (.ifCond .lt 31, 3) := by decide +kernel
theorem dX10_of_4 : decode cX10_of 4 = .ok (.iload_n 1, 1) := by decide +kernel
theorem dX10_of_5 : decode cX10_of 5 = .ok (.iconst 4, 1) := by decide +kernel
theorem dX10_of_6 : decode cX10_of 6 = .ok (.if_icmp .ge 26, 3) := by decide +kernel
theorem dX10_of_9 : decode cX10_of 9 = .ok (.iload_n 2, 1) := by decide +kernel
theorem dX10_of_10 : decode cX10_of 10 = .ok (.ifCond .lt 22, 3) := by decide +kernel
theorem dX10_of_13 : decode cX10_of 13 = .ok (.iload_n 2, 1) := by decide +kernel
theorem dX10_of_14 : decode cX10_of 14 = .ok (.aload_n 0, 1) := by decide +kernel
theorem dX10_of_15 : decode cX10_of 15 = .ok (.getfield 9, 3) := by decide +kernel
theorem dX10_of_18 : decode cX10_of 18 = .ok (.iload_n 1, 1) := by decide +kernel
theorem dX10_of_19 : decode cX10_of 19 = .ok (.iaload, 1) := by decide +kernel
theorem dX10_of_20 : decode cX10_of 20 = .ok (.if_icmp .ge 12, 3) := by decide +kernel
theorem dX10_of_23 : decode cX10_of 23 = .ok (.iload_n 3, 1) := by decide +kernel
theorem dX10_of_24 : decode cX10_of 24 = .ok (.ifCond .lt 8, 3) := by decide +kernel
theorem dX10_of_27 : decode cX10_of 27 = .ok (.iload_n 3, 1) := by decide +kernel
theorem dX10_of_28 : decode cX10_of 28 = .ok (.iconst 4, 1) := by decide +kernel
theorem dX10_of_29 : decode cX10_of 29 = .ok (.if_icmp .lt 5, 3) := by decide +kernel
theorem dX10_of_32 : decode cX10_of 32 = .ok (.iconst (-1), 1) := by decide +kernel
theorem dX10_of_33 : decode cX10_of 33 = .ok (.ireturn, 1) := by decide +kernel
theorem dX10_of_34 : decode cX10_of 34 = .ok (.aload_n 0, 1) := by decide +kernel
theorem dX10_of_35 : decode cX10_of 35 = .ok (.getfield 19, 3) := by decide +kernel
theorem dX10_of_38 : decode cX10_of 38 = .ok (.iload_n 1, 1) := by decide +kernel
theorem dX10_of_39 : decode cX10_of 39 = .ok (.bipush 12, 2) := by decide +kernel
theorem dX10_of_41 : decode cX10_of 41 = .ok (.imul, 1) := by decide +kernel
theorem dX10_of_42 : decode cX10_of 42 = .ok (.iload_n 2, 1) := by decide +kernel
theorem dX10_of_43 : decode cX10_of 43 = .ok (.iadd, 1) := by decide +kernel
theorem dX10_of_44 : decode cX10_of 44 = .ok (.iconst 4, 1) := by decide +kernel
theorem dX10_of_45 : decode cX10_of 45 = .ok (.imul, 1) := by decide +kernel
theorem dX10_of_46 : decode cX10_of 46 = .ok (.iload_n 3, 1) := by decide +kernel
theorem dX10_of_47 : decode cX10_of 47 = .ok (.iadd, 1) := by decide +kernel
theorem dX10_of_48 : decode cX10_of 48 = .ok (.iaload, 1) := by decide +kernel
theorem dX10_of_49 : decode cX10_of 49 = .ok (.ireturn, 1) := by decide +kernel
theorem dX10_takesMore_0 : decode cX10_takesMore 0 = .ok (.iload_n 1, 1) := by decide +kernel
theorem dX10_takesMore_1 : decode cX10_takesMore 1 = .ok (.iconst 4, 1) := by decide +kernel
theorem dX10_takesMore_2 : decode cX10_takesMore 2 = .ok (.if_icmp .ne 20, 3) := by decide +kernel
theorem dX10_takesMore_5 : decode cX10_takesMore 5 = .ok (.aload_n 0, 1) := by decide +kernel
theorem dX10_takesMore_6 : decode cX10_takesMore 6 = .ok (.getfield 9, 3) := by decide +kernel
theorem dX10_takesMore_9 : decode cX10_takesMore 9 = .ok (.iconst 4, 1) := by decide +kernel
theorem dX10_takesMore_10 : decode cX10_takesMore 10 = .ok (.iaload, 1) := by decide +kernel
theorem dX10_takesMore_11 : decode cX10_takesMore 11 = .ok (.bipush 40, 2) := by decide +kernel
theorem dX10_takesMore_13 : decode cX10_takesMore 13 = .ok (.if_icmp .ge 7, 3) := by decide +kernel
theorem dX10_takesMore_16 : decode cX10_takesMore 16 = .ok (.iconst 1, 1) := by decide +kernel
theorem dX10_takesMore_17 : decode cX10_takesMore 17 = .ok (.goto 4, 3) := by decide +kernel
theorem dX10_takesMore_20 : decode cX10_takesMore 20 = .ok (.iconst 0, 1) := by decide +kernel
theorem dX10_takesMore_21 : decode cX10_takesMore 21 = .ok (.ireturn, 1) := by decide +kernel
theorem dX10_takesMore_22 : decode cX10_takesMore 22 = .ok (.iload_n 1, 1) := by decide +kernel
theorem dX10_takesMore_23 : decode cX10_takesMore 23 = .ok (.ifCond .lt 29, 3) := by decide +kernel
theorem dX10_takesMore_26 : decode cX10_takesMore 26 = .ok (.iload_n 1, 1) := by decide +kernel
theorem dX10_takesMore_27 : decode cX10_takesMore 27 = .ok (.getstatic 40, 3) := by decide +kernel
theorem dX10_takesMore_30 : decode cX10_takesMore 30 = .ok (.arraylength, 1) := by decide +kernel
theorem dX10_takesMore_31 : decode cX10_takesMore 31 = .ok (.if_icmp .ge 21, 3) := by decide +kernel
theorem dX10_takesMore_34 : decode cX10_takesMore 34 = .ok (.aload_n 0, 1) := by decide +kernel
theorem dX10_takesMore_35 : decode cX10_takesMore 35 = .ok (.getfield 9, 3) := by decide +kernel
theorem dX10_takesMore_38 : decode cX10_takesMore 38 = .ok (.iload_n 1, 1) := by decide +kernel
theorem dX10_takesMore_39 : decode cX10_takesMore 39 = .ok (.iaload, 1) := by decide +kernel
theorem dX10_takesMore_40 : decode cX10_takesMore 40 = .ok (.getstatic 40, 3) := by decide +kernel
theorem dX10_takesMore_43 : decode cX10_takesMore 43 = .ok (.iload_n 1, 1) := by decide +kernel
theorem dX10_takesMore_44 : decode cX10_takesMore 44 = .ok (.iaload, 1) := by decide +kernel
theorem dX10_takesMore_45 : decode cX10_takesMore 45 = .ok (.if_icmp .ge 7, 3) := by decide +kernel
theorem dX10_takesMore_48 : decode cX10_takesMore 48 = .ok (.iconst 1, 1) := by decide +kernel
theorem dX10_takesMore_49 : decode cX10_takesMore 49 = .ok (.goto 4, 3) := by decide +kernel
theorem dX10_takesMore_52 : decode cX10_takesMore 52 = .ok (.iconst 0, 1) := by decide +kernel
theorem dX10_takesMore_53 : decode cX10_takesMore 53 = .ok (.ireturn, 1) := by decide +kernel
theorem dX10_tell_0 : decode cX10_tell 0 = .ok (.iload_n 1, 1) := by decide +kernel
theorem dX10_tell_1 : decode cX10_tell 1 = .ok (.ifCond .lt 43, 3) := by decide +kernel
theorem dX10_tell_4 : decode cX10_tell 4 = .ok (.iload_n 1, 1) := by decide +kernel
theorem dX10_tell_5 : decode cX10_tell 5 = .ok (.iconst 4, 1) := by decide +kernel
theorem dX10_tell_6 : decode cX10_tell 6 = .ok (.if_icmp .ge 38, 3) := by decide +kernel
theorem dX10_tell_9 : decode cX10_tell 9 = .ok (.aload_n 0, 1) := by decide +kernel
theorem dX10_tell_10 : decode cX10_tell 10 = .ok (.iload_n 1, 1) := by decide +kernel
theorem dX10_tell_11 : decode cX10_tell 11 = .ok (.invokevirtual 43, 3) := by decide +kernel
theorem dX10_tell_14 : decode cX10_tell 14 = .ok (.ifCond .eq 30, 3) := by decide +kernel
theorem dX10_tell_17 : decode cX10_tell 17 = .ok (.aload_n 0, 1) := by decide +kernel
theorem dX10_tell_18 : decode cX10_tell 18 = .ok (.getfield 15, 3) := by decide +kernel
theorem dX10_tell_21 : decode cX10_tell 21 = .ok (.iload_n 1, 1) := by decide +kernel
theorem dX10_tell_22 : decode cX10_tell 22 = .ok (.bipush 12, 2) := by decide +kernel
theorem dX10_tell_24 : decode cX10_tell 24 = .ok (.imul, 1) := by decide +kernel
theorem dX10_tell_25 : decode cX10_tell 25 = .ok (.aload_n 0, 1) := by decide +kernel
theorem dX10_tell_26 : decode cX10_tell 26 = .ok (.getfield 9, 3) := by decide +kernel
theorem dX10_tell_29 : decode cX10_tell 29 = .ok (.iload_n 1, 1) := by decide +kernel
theorem dX10_tell_30 : decode cX10_tell 30 = .ok (.iaload, 1) := by decide +kernel
theorem dX10_tell_31 : decode cX10_tell 31 = .ok (.iadd, 1) := by decide +kernel
theorem dX10_tell_32 : decode cX10_tell 32 = .ok (.lload_n 2, 1) := by decide +kernel
theorem dX10_tell_33 : decode cX10_tell 33 = .ok (.lastore, 1) := by decide +kernel
theorem dX10_tell_34 : decode cX10_tell 34 = .ok (.aload_n 0, 1) := by decide +kernel
theorem dX10_tell_35 : decode cX10_tell 35 = .ok (.getfield 9, 3) := by decide +kernel
theorem dX10_tell_38 : decode cX10_tell 38 = .ok (.iload_n 1, 1) := by decide +kernel
theorem dX10_tell_39 : decode cX10_tell 39 = .ok (.dup2, 1) := by decide +kernel
theorem dX10_tell_40 : decode cX10_tell 40 = .ok (.iaload, 1) := by decide +kernel
theorem dX10_tell_41 : decode cX10_tell 41 = .ok (.iconst 1, 1) := by decide +kernel
theorem dX10_tell_42 : decode cX10_tell 42 = .ok (.iadd, 1) := by decide +kernel
theorem dX10_tell_43 : decode cX10_tell 43 = .ok (.iastore, 1) := by decide +kernel
theorem dX10_tell_44 : decode cX10_tell 44 = .ok (.return_, 1) := by decide +kernel
theorem dX10_setLast_0 : decode cX10_setLast 0 = .ok (.iload_n 1, 1) := by decide +kernel
theorem dX10_setLast_1 : decode cX10_setLast 1 = .ok (.ifCond .lt 24, 3) := by decide +kernel
theorem dX10_setLast_4 : decode cX10_setLast 4 = .ok (.iload_n 1, 1) := by decide +kernel
theorem dX10_setLast_5 : decode cX10_setLast 5 = .ok (.iconst 4, 1) := by decide +kernel
theorem dX10_setLast_6 : decode cX10_setLast 6 = .ok (.if_icmp .ge 19, 3) := by decide +kernel
theorem dX10_setLast_9 : decode cX10_setLast 9 = .ok (.aload_n 0, 1) := by decide +kernel
theorem dX10_setLast_10 : decode cX10_setLast 10 = .ok (.iload_n 1, 1) := by decide +kernel
theorem dX10_setLast_11 : decode cX10_setLast 11 = .ok (.aload_n 0, 1) := by decide +kernel
theorem dX10_setLast_12 : decode cX10_setLast 12 = .ok (.getfield 9, 3) := by decide +kernel
theorem dX10_setLast_15 : decode cX10_setLast 15 = .ok (.iload_n 1, 1) := by decide +kernel
theorem dX10_setLast_16 : decode cX10_setLast 16 = .ok (.iaload, 1) := by decide +kernel
theorem dX10_setLast_17 : decode cX10_setLast 17 = .ok (.iconst 1, 1) := by decide +kernel
theorem dX10_setLast_18 : decode cX10_setLast 18 = .ok (.isub, 1) := by decide +kernel
theorem dX10_setLast_19 : decode cX10_setLast 19 = .ok (.invokevirtual 47, 3) := by decide +kernel
theorem dX10_setLast_22 : decode cX10_setLast 22 = .ok (.ifCond .ne 4, 3) := by decide +kernel
theorem dX10_setLast_25 : decode cX10_setLast 25 = .ok (.return_, 1) := by decide +kernel
theorem dX10_setLast_26 : decode cX10_setLast 26 = .ok (.iload_n 1, 1) := by decide +kernel
theorem dX10_setLast_27 : decode cX10_setLast 27 = .ok (.bipush 12, 2) := by decide +kernel
theorem dX10_setLast_29 : decode cX10_setLast 29 = .ok (.imul, 1) := by decide +kernel
theorem dX10_setLast_30 : decode cX10_setLast 30 = .ok (.aload_n 0, 1) := by decide +kernel
theorem dX10_setLast_31 : decode cX10_setLast 31 = .ok (.getfield 9, 3) := by decide +kernel
theorem dX10_setLast_34 : decode cX10_setLast 34 = .ok (.iload_n 1, 1) := by decide +kernel
theorem dX10_setLast_35 : decode cX10_setLast 35 = .ok (.iaload, 1) := by decide +kernel
theorem dX10_setLast_36 : decode cX10_setLast 36 = .ok (.iadd, 1) := by decide +kernel
theorem dX10_setLast_37 : decode cX10_setLast 37 = .ok (.iconst 1, 1) := by decide +kernel
theorem dX10_setLast_38 : decode cX10_setLast 38 = .ok (.isub, 1) := by decide +kernel
theorem dX10_setLast_39 : decode cX10_setLast 39 = .ok (.iconst 4, 1) := by decide +kernel
theorem dX10_setLast_40 : decode cX10_setLast 40 = .ok (.imul, 1) := by decide +kernel
theorem dX10_setLast_41 : decode cX10_setLast 41 = .ok (.istore 6, 2) := by decide +kernel
theorem dX10_setLast_43 : decode cX10_setLast 43 = .ok (.aload_n 0, 1) := by decide +kernel
theorem dX10_setLast_44 : decode cX10_setLast 44 = .ok (.getfield 19, 3) := by decide +kernel
theorem dX10_setLast_47 : decode cX10_setLast 47 = .ok (.iload 6, 2) := by decide +kernel
theorem dX10_setLast_49 : decode cX10_setLast 49 = .ok (.iload_n 2, 1) := by decide +kernel
theorem dX10_setLast_50 : decode cX10_setLast 50 = .ok (.iastore, 1) := by decide +kernel
theorem dX10_setLast_51 : decode cX10_setLast 51 = .ok (.aload_n 0, 1) := by decide +kernel
theorem dX10_setLast_52 : decode cX10_setLast 52 = .ok (.getfield 19, 3) := by decide +kernel
theorem dX10_setLast_55 : decode cX10_setLast 55 = .ok (.iload 6, 2) := by decide +kernel
theorem dX10_setLast_57 : decode cX10_setLast 57 = .ok (.iconst 1, 1) := by decide +kernel
theorem dX10_setLast_58 : decode cX10_setLast 58 = .ok (.iadd, 1) := by decide +kernel
theorem dX10_setLast_59 : decode cX10_setLast 59 = .ok (.iload_n 3, 1) := by decide +kernel
theorem dX10_setLast_60 : decode cX10_setLast 60 = .ok (.iastore, 1) := by decide +kernel
theorem dX10_setLast_61 : decode cX10_setLast 61 = .ok (.aload_n 0, 1) := by decide +kernel
theorem dX10_setLast_62 : decode cX10_setLast 62 = .ok (.getfield 19, 3) := by decide +kernel
theorem dX10_setLast_65 : decode cX10_setLast 65 = .ok (.iload 6, 2) := by decide +kernel
theorem dX10_setLast_67 : decode cX10_setLast 67 = .ok (.iconst 2, 1) := by decide +kernel
theorem dX10_setLast_68 : decode cX10_setLast 68 = .ok (.iadd, 1) := by decide +kernel
theorem dX10_setLast_69 : decode cX10_setLast 69 = .ok (.iload 4, 2) := by decide +kernel
theorem dX10_setLast_71 : decode cX10_setLast 71 = .ok (.iastore, 1) := by decide +kernel
theorem dX10_setLast_72 : decode cX10_setLast 72 = .ok (.aload_n 0, 1) := by decide +kernel
theorem dX10_setLast_73 : decode cX10_setLast 73 = .ok (.getfield 19, 3) := by decide +kernel
theorem dX10_setLast_76 : decode cX10_setLast 76 = .ok (.iload 6, 2) := by decide +kernel
theorem dX10_setLast_78 : decode cX10_setLast 78 = .ok (.iconst 3, 1) := by decide +kernel
theorem dX10_setLast_79 : decode cX10_setLast 79 = .ok (.iadd, 1) := by decide +kernel
theorem dX10_setLast_80 : decode cX10_setLast 80 = .ok (.iload 5, 2) := by decide +kernel
theorem dX10_setLast_82 : decode cX10_setLast 82 = .ok (.iastore, 1) := by decide +kernel
theorem dX10_setLast_83 : decode cX10_setLast 83 = .ok (.return_, 1) := by decide +kernel
theorem dX10_tellSun_0 : decode cX10_tellSun 0 = .ok (.iload_n 1, 1) := by decide +kernel
theorem dX10_tellSun_1 : decode cX10_tellSun 1 = .ok (.ifCond .lt 17, 3) := by decide +kernel
theorem dX10_tellSun_4 : decode cX10_tellSun 4 = .ok (.iload_n 1, 1) := by decide +kernel
theorem dX10_tellSun_5 : decode cX10_tellSun 5 = .ok (.bipush 12, 2) := by decide +kernel
theorem dX10_tellSun_7 : decode cX10_tellSun 7 = .ok (.if_icmp .ge 11, 3) := by decide +kernel
theorem dX10_tellSun_10 : decode cX10_tellSun 10 = .ok (.aload_n 0, 1) := by decide +kernel
theorem dX10_tellSun_11 : decode cX10_tellSun 11 = .ok (.iconst 4, 1) := by decide +kernel
theorem dX10_tellSun_12 : decode cX10_tellSun 12 = .ok (.invokevirtual 43, 3) := by decide +kernel
theorem dX10_tellSun_15 : decode cX10_tellSun 15 = .ok (.ifCond .ne 4, 3) := by decide +kernel
theorem dX10_tellSun_18 : decode cX10_tellSun 18 = .ok (.return_, 1) := by decide +kernel
theorem dX10_tellSun_19 : decode cX10_tellSun 19 = .ok (.iload_n 1, 1) := by decide +kernel
theorem dX10_tellSun_20 : decode cX10_tellSun 20 = .ok (.bipush 40, 2) := by decide +kernel
theorem dX10_tellSun_22 : decode cX10_tellSun 22 = .ok (.imul, 1) := by decide +kernel
theorem dX10_tellSun_23 : decode cX10_tellSun 23 = .ok (.aload_n 0, 1) := by decide +kernel
theorem dX10_tellSun_24 : decode cX10_tellSun 24 = .ok (.getfield 22, 3) := by decide +kernel
theorem dX10_tellSun_27 : decode cX10_tellSun 27 = .ok (.iload_n 1, 1) := by decide +kernel
theorem dX10_tellSun_28 : decode cX10_tellSun 28 = .ok (.iaload, 1) := by decide +kernel
theorem dX10_tellSun_29 : decode cX10_tellSun 29 = .ok (.iadd, 1) := by decide +kernel
theorem dX10_tellSun_30 : decode cX10_tellSun 30 = .ok (.iconst 3, 1) := by decide +kernel
theorem dX10_tellSun_31 : decode cX10_tellSun 31 = .ok (.imul, 1) := by decide +kernel
theorem dX10_tellSun_32 : decode cX10_tellSun 32 = .ok (.istore 5, 2) := by decide +kernel
theorem dX10_tellSun_34 : decode cX10_tellSun 34 = .ok (.aload_n 0, 1) := by decide +kernel
theorem dX10_tellSun_35 : decode cX10_tellSun 35 = .ok (.getfield 25, 3) := by decide +kernel
theorem dX10_tellSun_38 : decode cX10_tellSun 38 = .ok (.iload 5, 2) := by decide +kernel
theorem dX10_tellSun_40 : decode cX10_tellSun 40 = .ok (.iload_n 2, 1) := by decide +kernel
theorem dX10_tellSun_41 : decode cX10_tellSun 41 = .ok (.iastore, 1) := by decide +kernel
theorem dX10_tellSun_42 : decode cX10_tellSun 42 = .ok (.aload_n 0, 1) := by decide +kernel
theorem dX10_tellSun_43 : decode cX10_tellSun 43 = .ok (.getfield 25, 3) := by decide +kernel
theorem dX10_tellSun_46 : decode cX10_tellSun 46 = .ok (.iload 5, 2) := by decide +kernel
theorem dX10_tellSun_48 : decode cX10_tellSun 48 = .ok (.iconst 1, 1) := by decide +kernel
theorem dX10_tellSun_49 : decode cX10_tellSun 49 = .ok (.iadd, 1) := by decide +kernel
theorem dX10_tellSun_50 : decode cX10_tellSun 50 = .ok (.iload_n 3, 1) := by decide +kernel
theorem dX10_tellSun_51 : decode cX10_tellSun 51 = .ok (.iastore, 1) := by decide +kernel
theorem dX10_tellSun_52 : decode cX10_tellSun 52 = .ok (.aload_n 0, 1) := by decide +kernel
theorem dX10_tellSun_53 : decode cX10_tellSun 53 = .ok (.getfield 25, 3) := by decide +kernel
theorem dX10_tellSun_56 : decode cX10_tellSun 56 = .ok (.iload 5, 2) := by decide +kernel
theorem dX10_tellSun_58 : decode cX10_tellSun 58 = .ok (.iconst 2, 1) := by decide +kernel
theorem dX10_tellSun_59 : decode cX10_tellSun 59 = .ok (.iadd, 1) := by decide +kernel
theorem dX10_tellSun_60 : decode cX10_tellSun 60 = .ok (.iload 4, 2) := by decide +kernel
theorem dX10_tellSun_62 : decode cX10_tellSun 62 = .ok (.iastore, 1) := by decide +kernel
theorem dX10_tellSun_63 : decode cX10_tellSun 63 = .ok (.aload_n 0, 1) := by decide +kernel
theorem dX10_tellSun_64 : decode cX10_tellSun 64 = .ok (.getfield 22, 3) := by decide +kernel
theorem dX10_tellSun_67 : decode cX10_tellSun 67 = .ok (.iload_n 1, 1) := by decide +kernel
theorem dX10_tellSun_68 : decode cX10_tellSun 68 = .ok (.dup2, 1) := by decide +kernel
theorem dX10_tellSun_69 : decode cX10_tellSun 69 = .ok (.iaload, 1) := by decide +kernel
theorem dX10_tellSun_70 : decode cX10_tellSun 70 = .ok (.iconst 1, 1) := by decide +kernel
theorem dX10_tellSun_71 : decode cX10_tellSun 71 = .ok (.iadd, 1) := by decide +kernel
theorem dX10_tellSun_72 : decode cX10_tellSun 72 = .ok (.iastore, 1) := by decide +kernel
theorem dX10_tellSun_73 : decode cX10_tellSun 73 = .ok (.aload_n 0, 1) := by decide +kernel
theorem dX10_tellSun_74 : decode cX10_tellSun 74 = .ok (.getfield 9, 3) := by decide +kernel
theorem dX10_tellSun_77 : decode cX10_tellSun 77 = .ok (.iconst 4, 1) := by decide +kernel
theorem dX10_tellSun_78 : decode cX10_tellSun 78 = .ok (.dup2, 1) := by decide +kernel
theorem dX10_tellSun_79 : decode cX10_tellSun 79 = .ok (.iaload, 1) := by decide +kernel
theorem dX10_tellSun_80 : decode cX10_tellSun 80 = .ok (.iconst 1, 1) := by decide +kernel
theorem dX10_tellSun_81 : decode cX10_tellSun 81 = .ok (.iadd, 1) := by decide +kernel
theorem dX10_tellSun_82 : decode cX10_tellSun 82 = .ok (.iastore, 1) := by decide +kernel
theorem dX10_tellSun_83 : decode cX10_tellSun 83 = .ok (.return_, 1) := by decide +kernel
theorem dX10_tellStatement_0 : decode cX10_tellStatement 0 = .ok (.aload_n 0, 1) := by decide +kernel
theorem dX10_tellStatement_1 : decode cX10_tellStatement 1 = .ok (.getfield 9, 3) := by decide +kernel
theorem dX10_tellStatement_4 : decode cX10_tellStatement 4 = .ok (.iconst 5, 1) := by decide +kernel
theorem dX10_tellStatement_5 : decode cX10_tellStatement 5 = .ok (.dup2, 1) := by decide +kernel
theorem dX10_tellStatement_6 : decode cX10_tellStatement 6 = .ok (.iaload, 1) := by decide +kernel
theorem dX10_tellStatement_7 : decode cX10_tellStatement 7 = .ok (.iconst 1, 1) := by decide +kernel
theorem dX10_tellStatement_8 : decode cX10_tellStatement 8 = .ok (.iadd, 1) := by decide +kernel
theorem dX10_tellStatement_9 : decode cX10_tellStatement 9 = .ok (.iastore, 1) := by decide +kernel
theorem dX10_tellStatement_10 : decode cX10_tellStatement 10 = .ok (.return_, 1) := by decide +kernel
theorem dX10_find_0 : decode cX10_find 0 = .ok (.iload_n 1, 1) := by decide +kernel
theorem dX10_find_1 : decode cX10_find 1 = .ok (.ifCond .lt 8, 3) := by decide +kernel
theorem dX10_find_4 : decode cX10_find 4 = .ok (.iload_n 1, 1) := by decide +kernel
theorem dX10_find_5 : decode cX10_find 5 = .ok (.iconst 4, 1) := by decide +kernel
theorem dX10_find_6 : decode cX10_find 6 = .ok (.if_icmp .lt 7, 3) := by decide +kernel
theorem dX10_find_9 : decode cX10_find 9 = .ok (.iconst 0, 1) := by decide +kernel
theorem dX10_find_10 : decode cX10_find 10 = .ok (.goto 9, 3) := by decide +kernel
theorem dX10_find_13 : decode cX10_find 13 = .ok (.aload_n 0, 1) := by decide +kernel
theorem dX10_find_14 : decode cX10_find 14 = .ok (.getfield 9, 3) := by decide +kernel
theorem dX10_find_17 : decode cX10_find 17 = .ok (.iload_n 1, 1) := by decide +kernel
theorem dX10_find_18 : decode cX10_find 18 = .ok (.iaload, 1) := by decide +kernel
theorem dX10_find_19 : decode cX10_find 19 = .ok (.istore 4, 2) := by decide +kernel
theorem dX10_find_21 : decode cX10_find 21 = .ok (.iconst 0, 1) := by decide +kernel
theorem dX10_find_22 : decode cX10_find 22 = .ok (.istore 5, 2) := by decide +kernel
theorem dX10_find_24 : decode cX10_find 24 = .ok (.iload 5, 2) := by decide +kernel
theorem dX10_find_26 : decode cX10_find 26 = .ok (.iload 4, 2) := by decide +kernel
theorem dX10_find_28 : decode cX10_find 28 = .ok (.if_icmp .ge 36, 3) := by decide +kernel
theorem dX10_find_31 : decode cX10_find 31 = .ok (.iload 5, 2) := by decide +kernel
theorem dX10_find_33 : decode cX10_find 33 = .ok (.bipush 12, 2) := by decide +kernel
theorem dX10_find_35 : decode cX10_find 35 = .ok (.if_icmp .ge 29, 3) := by decide +kernel
theorem dX10_find_38 : decode cX10_find 38 = .ok (.aload_n 0, 1) := by decide +kernel
theorem dX10_find_39 : decode cX10_find 39 = .ok (.getfield 15, 3) := by decide +kernel
theorem dX10_find_42 : decode cX10_find 42 = .ok (.iload_n 1, 1) := by decide +kernel
theorem dX10_find_43 : decode cX10_find 43 = .ok (.bipush 12, 2) := by decide +kernel
theorem dX10_find_45 : decode cX10_find 45 = .ok (.imul, 1) := by decide +kernel
theorem dX10_find_46 : decode cX10_find 46 = .ok (.iload 5, 2) := by decide +kernel
theorem dX10_find_48 : decode cX10_find 48 = .ok (.iadd, 1) := by decide +kernel
theorem dX10_find_49 : decode cX10_find 49 = .ok (.laload, 1) := by decide +kernel
theorem dX10_find_50 : decode cX10_find 50 = .ok (.lload_n 2, 1) := by decide +kernel
theorem dX10_find_51 : decode cX10_find 51 = .ok (.lcmp, 1) := by decide +kernel
theorem dX10_find_52 : decode cX10_find 52 = .ok (.ifCond .ne 6, 3) := by decide +kernel
theorem dX10_find_55 : decode cX10_find 55 = .ok (.iload 5, 2) := by decide +kernel
theorem dX10_find_57 : decode cX10_find 57 = .ok (.ireturn, 1) := by decide +kernel
theorem dX10_find_58 : decode cX10_find 58 = .ok (.iinc 5 1, 3) := by decide +kernel
theorem dX10_find_61 : decode cX10_find 61 = .ok (.goto (-37), 3) := by decide +kernel
theorem dX10_find_64 : decode cX10_find 64 = .ok (.iconst (-1), 1) := by decide +kernel
theorem dX10_find_65 : decode cX10_find 65 = .ok (.ireturn, 1) := by decide +kernel
theorem dX10_knows_0 : decode cX10_knows 0 = .ok (.iconst 0, 1) := by decide +kernel
theorem dX10_knows_1 : decode cX10_knows 1 = .ok (.istore_n 3, 1) := by decide +kernel
theorem dX10_knows_2 : decode cX10_knows 2 = .ok (.iload_n 3, 1) := by decide +kernel
theorem dX10_knows_3 : decode cX10_knows 3 = .ok (.iconst 4, 1) := by decide +kernel
theorem dX10_knows_4 : decode cX10_knows 4 = .ok (.if_icmp .ge 21, 3) := by decide +kernel
theorem dX10_knows_7 : decode cX10_knows 7 = .ok (.aload_n 0, 1) := by decide +kernel
theorem dX10_knows_8 : decode cX10_knows 8 = .ok (.iload_n 3, 1) := by decide +kernel
theorem dX10_knows_9 : decode cX10_knows 9 = .ok (.lload_n 1, 1) := by decide +kernel
theorem dX10_knows_10 : decode cX10_knows 10 = .ok (.invokevirtual 51, 3) := by decide +kernel
theorem dX10_knows_13 : decode cX10_knows 13 = .ok (.iconst (-1), 1) := by decide +kernel
theorem dX10_knows_14 : decode cX10_knows 14 = .ok (.if_icmp .eq 5, 3) := by decide +kernel
theorem dX10_knows_17 : decode cX10_knows 17 = .ok (.iconst 1, 1) := by decide +kernel
theorem dX10_knows_18 : decode cX10_knows 18 = .ok (.ireturn, 1) := by decide +kernel
theorem dX10_knows_19 : decode cX10_knows 19 = .ok (.iinc 3 1, 3) := by decide +kernel
theorem dX10_knows_22 : decode cX10_knows 22 = .ok (.goto (-20), 3) := by decide +kernel
theorem dX10_knows_25 : decode cX10_knows 25 = .ok (.iconst 0, 1) := by decide +kernel
theorem dX10_knows_26 : decode cX10_knows 26 = .ok (.ireturn, 1) := by decide +kernel
theorem dX10_sunRowsIn_0 : decode cX10_sunRowsIn 0 = .ok (.iload_n 1, 1) := by decide +kernel
theorem dX10_sunRowsIn_1 : decode cX10_sunRowsIn 1 = .ok (.ifCond .lt 9, 3) := by decide +kernel
theorem dX10_sunRowsIn_4 : decode cX10_sunRowsIn 4 = .ok (.iload_n 1, 1) := by decide +kernel
theorem dX10_sunRowsIn_5 : decode cX10_sunRowsIn 5 = .ok (.bipush 12, 2) := by decide +kernel
theorem dX10_sunRowsIn_7 : decode cX10_sunRowsIn 7 = .ok (.if_icmp .lt 7, 3) := by decide +kernel
theorem dX10_sunRowsIn_10 : decode cX10_sunRowsIn 10 = .ok (.iconst 0, 1) := by decide +kernel
theorem dX10_sunRowsIn_11 : decode cX10_sunRowsIn 11 = .ok (.goto 9, 3) := by decide +kernel
theorem dX10_sunRowsIn_14 : decode cX10_sunRowsIn 14 = .ok (.aload_n 0, 1) := by decide +kernel
theorem dX10_sunRowsIn_15 : decode cX10_sunRowsIn 15 = .ok (.getfield 22, 3) := by decide +kernel
theorem dX10_sunRowsIn_18 : decode cX10_sunRowsIn 18 = .ok (.iload_n 1, 1) := by decide +kernel
theorem dX10_sunRowsIn_19 : decode cX10_sunRowsIn 19 = .ok (.iaload, 1) := by decide +kernel
theorem dX10_sunRowsIn_20 : decode cX10_sunRowsIn 20 = .ok (.ireturn, 1) := by decide +kernel
theorem dX10_sunNumber_0 : decode cX10_sunNumber 0 = .ok (.iload_n 1, 1) := by decide +kernel
theorem dX10_sunNumber_1 : decode cX10_sunNumber 1 = .ok (.ifCond .lt 32, 3) := by decide +kernel
theorem dX10_sunNumber_4 : decode cX10_sunNumber 4 = .ok (.iload_n 1, 1) := by decide +kernel
theorem dX10_sunNumber_5 : decode cX10_sunNumber 5 = .ok (.bipush 12, 2) := by decide +kernel
theorem dX10_sunNumber_7 : decode cX10_sunNumber 7 = .ok (.if_icmp .ge 26, 3) := by decide +kernel
theorem dX10_sunNumber_10 : decode cX10_sunNumber 10 = .ok (.iload_n 2, 1) := by decide +kernel
theorem dX10_sunNumber_11 : decode cX10_sunNumber 11 = .ok (.ifCond .lt 22, 3) := by decide +kernel
theorem dX10_sunNumber_14 : decode cX10_sunNumber 14 = .ok (.iload_n 2, 1) := by decide +kernel
theorem dX10_sunNumber_15 : decode cX10_sunNumber 15 = .ok (.aload_n 0, 1) := by decide +kernel
theorem dX10_sunNumber_16 : decode cX10_sunNumber 16 = .ok (.getfield 22, 3) := by decide +kernel
theorem dX10_sunNumber_19 : decode cX10_sunNumber 19 = .ok (.iload_n 1, 1) := by decide +kernel
theorem dX10_sunNumber_20 : decode cX10_sunNumber 20 = .ok (.iaload, 1) := by decide +kernel
theorem dX10_sunNumber_21 : decode cX10_sunNumber 21 = .ok (.if_icmp .ge 12, 3) := by decide +kernel
theorem dX10_sunNumber_24 : decode cX10_sunNumber 24 = .ok (.iload_n 3, 1) := by decide +kernel
theorem dX10_sunNumber_25 : decode cX10_sunNumber 25 = .ok (.ifCond .lt 8, 3) := by decide +kernel
theorem dX10_sunNumber_28 : decode cX10_sunNumber 28 = .ok (.iload_n 3, 1) := by decide +kernel
theorem dX10_sunNumber_29 : decode cX10_sunNumber 29 = .ok (.iconst 3, 1) := by decide +kernel
theorem dX10_sunNumber_30 : decode cX10_sunNumber 30 = .ok (.if_icmp .lt 5, 3) := by decide +kernel
theorem dX10_sunNumber_33 : decode cX10_sunNumber 33 = .ok (.iconst (-1), 1) := by decide +kernel
theorem dX10_sunNumber_34 : decode cX10_sunNumber 34 = .ok (.ireturn, 1) := by decide +kernel
theorem dX10_sunNumber_35 : decode cX10_sunNumber 35 = .ok (.aload_n 0, 1) := by decide +kernel
theorem dX10_sunNumber_36 : decode cX10_sunNumber 36 = .ok (.getfield 25, 3) := by decide +kernel
theorem dX10_sunNumber_39 : decode cX10_sunNumber 39 = .ok (.iload_n 1, 1) := by decide +kernel
theorem dX10_sunNumber_40 : decode cX10_sunNumber 40 = .ok (.bipush 40, 2) := by decide +kernel
theorem dX10_sunNumber_42 : decode cX10_sunNumber 42 = .ok (.imul, 1) := by decide +kernel
theorem dX10_sunNumber_43 : decode cX10_sunNumber 43 = .ok (.iload_n 2, 1) := by decide +kernel
theorem dX10_sunNumber_44 : decode cX10_sunNumber 44 = .ok (.iadd, 1) := by decide +kernel
theorem dX10_sunNumber_45 : decode cX10_sunNumber 45 = .ok (.iconst 3, 1) := by decide +kernel
theorem dX10_sunNumber_46 : decode cX10_sunNumber 46 = .ok (.imul, 1) := by decide +kernel
theorem dX10_sunNumber_47 : decode cX10_sunNumber 47 = .ok (.iload_n 3, 1) := by decide +kernel
theorem dX10_sunNumber_48 : decode cX10_sunNumber 48 = .ok (.iadd, 1) := by decide +kernel
theorem dX10_sunNumber_49 : decode cX10_sunNumber 49 = .ok (.iaload, 1) := by decide +kernel
theorem dX10_sunNumber_50 : decode cX10_sunNumber 50 = .ok (.ireturn, 1) := by decide +kernel
theorem dX11_init_0 : decode cX11_init 0 = .ok (.aload_n 0, 1) := by decide +kernel
theorem dX11_init_1 : decode cX11_init 1 = .ok (.invokespecial 3, 3) := by decide +kernel
theorem dX11_init_4 : decode cX11_init 4 = .ok (.aload_n 0, 1) := by decide +kernel
theorem dX11_init_5 : decode cX11_init 5 = .ok (.sipush 1200, 3) := by decide +kernel
theorem dX11_init_8 : decode cX11_init 8 = .ok (.newarray .byte, 2) := by decide +kernel
theorem dX11_init_10 : decode cX11_init 10 = .ok (.putfield 9, 3) := by decide +kernel
theorem dX11_init_13 : decode cX11_init 13 = .ok (.aload_n 0, 1) := by decide +kernel
theorem dX11_init_14 : decode cX11_init 14 = .ok (.new 13, 3) := by decide +kernel
theorem dX11_init_17 : decode cX11_init 17 = .ok (.dup, 1) := by decide +kernel
theorem dX11_init_18 : decode cX11_init 18 = .ok (.invokespecial 15, 3) := by decide +kernel
theorem dX11_init_21 : decode cX11_init 21 = .ok (.putfield 16, 3) := by decide +kernel
theorem dX11_init_24 : decode cX11_init 24 = .ok (.aload_n 0, 1) := by decide +kernel
theorem dX11_init_25 : decode cX11_init 25 = .ok (.new 13, 3) := by decide +kernel
theorem dX11_init_28 : decode cX11_init 28 = .ok (.dup, 1) := by decide +kernel
theorem dX11_init_29 : decode cX11_init 29 = .ok (.invokespecial 15, 3) := by decide +kernel
theorem dX11_init_32 : decode cX11_init 32 = .ok (.putfield 20, 3) := by decide +kernel
theorem dX11_init_35 : decode cX11_init 35 = .ok (.aload_n 0, 1) := by decide +kernel
theorem dX11_init_36 : decode cX11_init 36 = .ok (.new 23, 3) := by decide +kernel
theorem dX11_init_39 : decode cX11_init 39 = .ok (.dup, 1) := by decide +kernel
theorem dX11_init_40 : decode cX11_init 40 = .ok (.invokespecial 25, 3) := by decide +kernel
theorem dX11_init_43 : decode cX11_init 43 = .ok (.putfield 26, 3) := by decide +kernel
theorem dX11_init_46 : decode cX11_init 46 = .ok (.aload_n 0, 1) := by decide +kernel
theorem dX11_init_47 : decode cX11_init 47 = .ok (.new 30, 3) := by decide +kernel
theorem dX11_init_50 : decode cX11_init 50 = .ok (.dup, 1) := by decide +kernel
theorem dX11_init_51 : decode cX11_init 51 = .ok (.aload_n 0, 1) := by decide +kernel
theorem dX11_init_52 : decode cX11_init 52 = .ok (.getfield 9, 3) := by decide +kernel
theorem dX11_init_55 : decode cX11_init 55 = .ok (.aload_n 0, 1) := by decide +kernel
theorem dX11_init_56 : decode cX11_init 56 = .ok (.getfield 16, 3) := by decide +kernel
theorem dX11_init_59 : decode cX11_init 59 = .ok (.aload_n 0, 1) := by decide +kernel
theorem dX11_init_60 : decode cX11_init 60 = .ok (.getfield 20, 3) := by decide +kernel
theorem dX11_init_63 : decode cX11_init 63 = .ok (.aload_n 0, 1) := by decide +kernel
theorem dX11_init_64 : decode cX11_init 64 = .ok (.getfield 26, 3) := by decide +kernel
theorem dX11_init_67 : decode cX11_init 67 = .ok (.invokespecial 32, 3) := by decide +kernel
theorem dX11_init_70 : decode cX11_init 70 = .ok (.putfield 35, 3) := by decide +kernel
theorem dX11_init_73 : decode cX11_init 73 = .ok (.aload_n 0, 1) := by decide +kernel
theorem dX11_init_74 : decode cX11_init 74 = .ok (.new 39, 3) := by decide +kernel
theorem dX11_init_77 : decode cX11_init 77 = .ok (.dup, 1) := by decide +kernel
theorem dX11_init_78 : decode cX11_init 78 = .ok (.aload_n 0, 1) := by decide +kernel
theorem dX11_init_79 : decode cX11_init 79 = .ok (.getfield 16, 3) := by decide +kernel
theorem dX11_init_82 : decode cX11_init 82 = .ok (.invokespecial 41, 3) := by decide +kernel
theorem dX11_init_85 : decode cX11_init 85 = .ok (.putfield 44, 3) := by decide +kernel
