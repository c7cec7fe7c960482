theorem dX12_lastMinute_4 : decode cX12_lastMinute 4 = .ok (.aload_n 0, 1) := by decide +kernel
theorem dX12_lastMinute_5 : decode cX12_lastMinute 5 = .ok (.getfield 260, 3) := by decide +kernel
theorem dX12_lastMinute_8 : decode cX12_lastMinute 8 = .ok (.imul, 1) := by decide +kernel
theorem dX12_lastMinute_9 : decode cX12_lastMinute 9 = .ok (.istore_n 3, 1) := by decide +kernel
theorem dX12_lastMinute_10 : decode cX12_lastMinute 10 = .ok (.iload_n 3, 1) := by decide +kernel
theorem dX12_lastMinute_11 : decode cX12_lastMinute 11 = .ok (.bipush 40, 2) := by decide +kernel
theorem dX12_lastMinute_13 : decode cX12_lastMinute 13 = .ok (.aload_n 0, 1) := by decide +kernel
theorem dX12_lastMinute_14 : decode cX12_lastMinute 14 = .ok (.getfield 260, 3) := by decide +kernel
theorem dX12_lastMinute_17 : decode cX12_lastMinute 17 = .ok (.imul, 1) := by decide +kernel
theorem dX12_lastMinute_18 : decode cX12_lastMinute 18 = .ok (.aload_n 0, 1) := by decide +kernel
theorem dX12_lastMinute_19 : decode cX12_lastMinute 19 = .ok (.getfield 22, 3) := by decide +kernel
theorem dX12_lastMinute_22 : decode cX12_lastMinute 22 = .ok (.aload_n 0, 1) := by decide +kernel
theorem dX12_lastMinute_23 : decode cX12_lastMinute 23 = .ok (.getfield 260, 3) := by decide +kernel
theorem dX12_lastMinute_26 : decode cX12_lastMinute 26 = .ok (.iaload, 1) := by decide +kernel
theorem dX12_lastMinute_27 : decode cX12_lastMinute 27 = .ok (.iadd, 1) := by decide +kernel
theorem dX12_lastMinute_28 : decode cX12_lastMinute 28 = .ok (.if_icmp .ge 26, 3) := by decide +kernel
theorem dX12_lastMinute_31 : decode cX12_lastMinute 31 = .ok (.aload_n 0, 1) := by decide +kernel
theorem dX12_lastMinute_32 : decode cX12_lastMinute 32 = .ok (.getfield 74, 3) := by decide +kernel
theorem dX12_lastMinute_35 : decode cX12_lastMinute 35 = .ok (.iload_n 3, 1) := by decide +kernel
theorem dX12_lastMinute_36 : decode cX12_lastMinute 36 = .ok (.iaload, 1) := by decide +kernel
theorem dX12_lastMinute_37 : decode cX12_lastMinute 37 = .ok (.iload_n 1, 1) := by decide +kernel
theorem dX12_lastMinute_38 : decode cX12_lastMinute 38 = .ok (.if_icmp .ne 10, 3) := by decide +kernel
theorem dX12_lastMinute_41 : decode cX12_lastMinute 41 = .ok (.aload_n 0, 1) := by decide +kernel
theorem dX12_lastMinute_42 : decode cX12_lastMinute 42 = .ok (.getfield 77, 3) := by decide +kernel
theorem dX12_lastMinute_45 : decode cX12_lastMinute 45 = .ok (.iload_n 3, 1) := by decide +kernel
theorem dX12_lastMinute_46 : decode cX12_lastMinute 46 = .ok (.iaload, 1) := by decide +kernel
theorem dX12_lastMinute_47 : decode cX12_lastMinute 47 = .ok (.istore_n 2, 1) := by decide +kernel
theorem dX12_lastMinute_48 : decode cX12_lastMinute 48 = .ok (.iinc 3 1, 3) := by decide +kernel
theorem dX12_lastMinute_51 : decode cX12_lastMinute 51 = .ok (.goto (-41), 3) := by decide +kernel
theorem dX12_lastMinute_54 : decode cX12_lastMinute 54 = .ok (.iload_n 2, 1) := by decide +kernel
theorem dX12_lastMinute_55 : decode cX12_lastMinute 55 = .ok (.ireturn, 1) := by decide +kernel
theorem dX12_readSun_0 : decode cX12_readSun 0 = .ok (.bipush 40, 2) := by decide +kernel
theorem dX12_readSun_2 : decode cX12_readSun 2 = .ok (.aload_n 0, 1) := by decide +kernel
theorem dX12_readSun_3 : decode cX12_readSun 3 = .ok (.getfield 260, 3) := by decide +kernel
theorem dX12_readSun_6 : decode cX12_readSun 6 = .ok (.imul, 1) := by decide +kernel
theorem dX12_readSun_7 : decode cX12_readSun 7 = .ok (.aload_n 0, 1) := by decide +kernel
theorem dX12_readSun_8 : decode cX12_readSun 8 = .ok (.getfield 22, 3) := by decide +kernel
theorem dX12_readSun_11 : decode cX12_readSun 11 = .ok (.aload_n 0, 1) := by decide +kernel
theorem dX12_readSun_12 : decode cX12_readSun 12 = .ok (.getfield 260, 3) := by decide +kernel
theorem dX12_readSun_15 : decode cX12_readSun 15 = .ok (.iaload, 1) := by decide +kernel
theorem dX12_readSun_16 : decode cX12_readSun 16 = .ok (.iadd, 1) := by decide +kernel
theorem dX12_readSun_17 : decode cX12_readSun 17 = .ok (.istore_n 1, 1) := by decide +kernel
theorem dX12_readSun_18 : decode cX12_readSun 18 = .ok (.aload_n 0, 1) := by decide +kernel
theorem dX12_readSun_19 : decode cX12_readSun 19 = .ok (.getfield 22, 3) := by decide +kernel
theorem dX12_readSun_22 : decode cX12_readSun 22 = .ok (.aload_n 0, 1) := by decide +kernel
theorem dX12_readSun_23 : decode cX12_readSun 23 = .ok (.getfield 260, 3) := by decide +kernel
theorem dX12_readSun_26 : decode cX12_readSun 26 = .ok (.iaload, 1) := by decide +kernel
theorem dX12_readSun_27 : decode cX12_readSun 27 = .ok (.bipush 40, 2) := by decide +kernel
theorem dX12_readSun_29 : decode cX12_readSun 29 = .ok (.if_icmp .ne 7, 3) := by decide +kernel
theorem dX12_readSun_32 : decode cX12_readSun 32 = .ok (.aload_n 0, 1) := by decide +kernel
theorem dX12_readSun_33 : decode cX12_readSun 33 = .ok (.invokevirtual 207, 3) := by decide +kernel
theorem dX12_readSun_36 : decode cX12_readSun 36 = .ok (.aload_n 0, 1) := by decide +kernel
theorem dX12_readSun_37 : decode cX12_readSun 37 = .ok (.iconst 0, 1) := by decide +kernel
theorem dX12_readSun_38 : decode cX12_readSun 38 = .ok (.bipush 11, 2) := by decide +kernel
theorem dX12_readSun_40 : decode cX12_readSun 40 = .ok (.invokevirtual 267, 3) := by decide +kernel
theorem dX12_readSun_43 : decode cX12_readSun 43 = .ok (.istore_n 2, 1) := by decide +kernel
theorem dX12_readSun_44 : decode cX12_readSun 44 = .ok (.aload_n 0, 1) := by decide +kernel
theorem dX12_readSun_45 : decode cX12_readSun 45 = .ok (.aload_n 0, 1) := by decide +kernel
theorem dX12_readSun_46 : decode cX12_readSun 46 = .ok (.iload_n 2, 1) := by decide +kernel
theorem dX12_readSun_47 : decode cX12_readSun 47 = .ok (.invokevirtual 282, 3) := by decide +kernel
theorem dX12_readSun_50 : decode cX12_readSun 50 = .ok (.iconst 1, 1) := by decide +kernel
theorem dX12_readSun_51 : decode cX12_readSun 51 = .ok (.iadd, 1) := by decide +kernel
theorem dX12_readSun_52 : decode cX12_readSun 52 = .ok (.sipush 719, 3) := by decide +kernel
theorem dX12_readSun_55 : decode cX12_readSun 55 = .ok (.invokevirtual 267, 3) := by decide +kernel
theorem dX12_readSun_58 : decode cX12_readSun 58 = .ok (.istore_n 3, 1) := by decide +kernel
theorem dX12_readSun_59 : decode cX12_readSun 59 = .ok (.aload_n 0, 1) := by decide +kernel
theorem dX12_readSun_60 : decode cX12_readSun 60 = .ok (.ldc2_w 234, 3) := by decide +kernel
theorem dX12_readSun_63 : decode cX12_readSun 63 = .ok (.ldc2_w 236, 3) := by decide +kernel
theorem dX12_readSun_66 : decode cX12_readSun 66 = .ok (.invokevirtual 286, 3) := by decide +kernel
theorem dX12_readSun_69 : decode cX12_readSun 69 = .ok (.istore 4, 2) := by decide +kernel
theorem dX12_readSun_71 : decode cX12_readSun 71 = .ok (.aload_n 0, 1) := by decide +kernel
theorem dX12_readSun_72 : decode cX12_readSun 72 = .ok (.ldc2_w 238, 3) := by decide +kernel
theorem dX12_readSun_75 : decode cX12_readSun 75 = .ok (.ldc2_w 240, 3) := by decide +kernel
theorem dX12_readSun_78 : decode cX12_readSun 78 = .ok (.invokevirtual 286, 3) := by decide +kernel
theorem dX12_readSun_81 : decode cX12_readSun 81 = .ok (.istore 5, 2) := by decide +kernel
theorem dX12_readSun_83 : decode cX12_readSun 83 = .ok (.aload_n 0, 1) := by decide +kernel
theorem dX12_readSun_84 : decode cX12_readSun 84 = .ok (.getfield 196, 3) := by decide +kernel
theorem dX12_readSun_87 : decode cX12_readSun 87 = .ok (.ifCond .eq 4, 3) := by decide +kernel
theorem dX12_readSun_90 : decode cX12_readSun 90 = .ok (.return_, 1) := by decide +kernel
theorem dX12_readSun_91 : decode cX12_readSun 91 = .ok (.aload_n 0, 1) := by decide +kernel
theorem dX12_readSun_92 : decode cX12_readSun 92 = .ok (.getfield 74, 3) := by decide +kernel
theorem dX12_readSun_95 : decode cX12_readSun 95 = .ok (.iload_n 1, 1) := by decide +kernel
theorem dX12_readSun_96 : decode cX12_readSun 96 = .ok (.iload_n 2, 1) := by decide +kernel
theorem dX12_readSun_97 : decode cX12_readSun 97 = .ok (.iastore, 1) := by decide +kernel
theorem dX12_readSun_98 : decode cX12_readSun 98 = .ok (.aload_n 0, 1) := by decide +kernel
theorem dX12_readSun_99 : decode cX12_readSun 99 = .ok (.getfield 77, 3) := by decide +kernel
theorem dX12_readSun_102 : decode cX12_readSun 102 = .ok (.iload_n 1, 1) := by decide +kernel
theorem dX12_readSun_103 : decode cX12_readSun 103 = .ok (.iload_n 3, 1) := by decide +kernel
theorem dX12_readSun_104 : decode cX12_readSun 104 = .ok (.iastore, 1) := by decide +kernel
theorem dX12_readSun_105 : decode cX12_readSun 105 = .ok (.aload_n 0, 1) := by decide +kernel
theorem dX12_readSun_106 : decode cX12_readSun 106 = .ok (.getfield 80, 3) := by decide +kernel
theorem dX12_readSun_109 : decode cX12_readSun 109 = .ok (.iload_n 1, 1) := by decide +kernel
theorem dX12_readSun_110 : decode cX12_readSun 110 = .ok (.iload 4, 2) := by decide +kernel
theorem dX12_readSun_112 : decode cX12_readSun 112 = .ok (.iastore, 1) := by decide +kernel
theorem dX12_readSun_113 : decode cX12_readSun 113 = .ok (.aload_n 0, 1) := by decide +kernel
theorem dX12_readSun_114 : decode cX12_readSun 114 = .ok (.getfield 83, 3) := by decide +kernel
theorem dX12_readSun_117 : decode cX12_readSun 117 = .ok (.iload_n 1, 1) := by decide +kernel
theorem dX12_readSun_118 : decode cX12_readSun 118 = .ok (.iload 5, 2) := by decide +kernel
theorem dX12_readSun_120 : decode cX12_readSun 120 = .ok (.iastore, 1) := by decide +kernel
theorem dX12_readSun_121 : decode cX12_readSun 121 = .ok (.aload_n 0, 1) := by decide +kernel
theorem dX12_readSun_122 : decode cX12_readSun 122 = .ok (.getfield 22, 3) := by decide +kernel
theorem dX12_readSun_125 : decode cX12_readSun 125 = .ok (.aload_n 0, 1) := by decide +kernel
theorem dX12_readSun_126 : decode cX12_readSun 126 = .ok (.getfield 260, 3) := by decide +kernel
theorem dX12_readSun_129 : decode cX12_readSun 129 = .ok (.dup2, 1) := by decide +kernel
theorem dX12_readSun_130 : decode cX12_readSun 130 = .ok (.iaload, 1) := by decide +kernel
theorem dX12_readSun_131 : decode cX12_readSun 131 = .ok (.iconst 1, 1) := by decide +kernel
theorem dX12_readSun_132 : decode cX12_readSun 132 = .ok (.iadd, 1) := by decide +kernel
theorem dX12_readSun_133 : decode cX12_readSun 133 = .ok (.iastore, 1) := by decide +kernel
theorem dX12_readSun_134 : decode cX12_readSun 134 = .ok (.return_, 1) := by decide +kernel
theorem dX12_readStatement_0 : decode cX12_readStatement 0 = .ok (.aload_n 0, 1) := by decide +kernel
theorem dX12_readStatement_1 : decode cX12_readStatement 1 = .ok (.ldc2_w 210, 3) := by decide +kernel
theorem dX12_readStatement_4 : decode cX12_readStatement 4 = .ok (.invokevirtual 200, 3) := by decide +kernel
theorem dX12_readStatement_7 : decode cX12_readStatement 7 = .ok (.ifCond .eq 7, 3) := by decide +kernel
theorem dX12_readStatement_10 : decode cX12_readStatement 10 = .ok (.iconst 1, 1) := by decide +kernel
theorem dX12_readStatement_11 : decode cX12_readStatement 11 = .ok (.goto 60, 3) := by decide +kernel
theorem dX12_readStatement_14 : decode cX12_readStatement 14 = .ok (.aload_n 0, 1) := by decide +kernel
theorem dX12_readStatement_15 : decode cX12_readStatement 15 = .ok (.ldc2_w 218, 3) := by decide +kernel
theorem dX12_readStatement_18 : decode cX12_readStatement 18 = .ok (.invokevirtual 200, 3) := by decide +kernel
theorem dX12_readStatement_21 : decode cX12_readStatement 21 = .ok (.ifCond .eq 7, 3) := by decide +kernel
theorem dX12_readStatement_24 : decode cX12_readStatement 24 = .ok (.iconst 2, 1) := by decide +kernel
theorem dX12_readStatement_25 : decode cX12_readStatement 25 = .ok (.goto 46, 3) := by decide +kernel
theorem dX12_readStatement_28 : decode cX12_readStatement 28 = .ok (.aload_n 0, 1) := by decide +kernel
theorem dX12_readStatement_29 : decode cX12_readStatement 29 = .ok (.ldc2_w 224, 3) := by decide +kernel
theorem dX12_readStatement_32 : decode cX12_readStatement 32 = .ok (.invokevirtual 200, 3) := by decide +kernel
theorem dX12_readStatement_35 : decode cX12_readStatement 35 = .ok (.ifCond .eq 7, 3) := by decide +kernel
theorem dX12_readStatement_38 : decode cX12_readStatement 38 = .ok (.iconst 3, 1) := by decide +kernel
theorem dX12_readStatement_39 : decode cX12_readStatement 39 = .ok (.goto 32, 3) := by decide +kernel
theorem dX12_readStatement_42 : decode cX12_readStatement 42 = .ok (.aload_n 0, 1) := by decide +kernel
theorem dX12_readStatement_43 : decode cX12_readStatement 43 = .ok (.ldc2_w 226, 3) := by decide +kernel
theorem dX12_readStatement_46 : decode cX12_readStatement 46 = .ok (.invokevirtual 200, 3) := by decide +kernel
theorem dX12_readStatement_49 : decode cX12_readStatement 49 = .ok (.ifCond .eq 7, 3) := by decide +kernel
theorem dX12_readStatement_52 : decode cX12_readStatement 52 = .ok (.iconst 4, 1) := by decide +kernel
theorem dX12_readStatement_53 : decode cX12_readStatement 53 = .ok (.goto 18, 3) := by decide +kernel
theorem dX12_readStatement_56 : decode cX12_readStatement 56 = .ok (.aload_n 0, 1) := by decide +kernel
theorem dX12_readStatement_57 : decode cX12_readStatement 57 = .ok (.ldc2_w 232, 3) := by decide +kernel
theorem dX12_readStatement_60 : decode cX12_readStatement 60 = .ok (.invokevirtual 200, 3) := by decide +kernel
theorem dX12_readStatement_63 : decode cX12_readStatement 63 = .ok (.ifCond .eq 7, 3) := by decide +kernel
theorem dX12_readStatement_66 : decode cX12_readStatement 66 = .ok (.iconst 5, 1) := by decide +kernel
theorem dX12_readStatement_67 : decode cX12_readStatement 67 = .ok (.goto 4, 3) := by decide +kernel
theorem dX12_readStatement_70 : decode cX12_readStatement 70 = .ok (.iconst 0, 1) := by decide +kernel
theorem dX12_readStatement_71 : decode cX12_readStatement 71 = .ok (.istore_n 1, 1) := by decide +kernel
theorem dX12_readStatement_72 : decode cX12_readStatement 72 = .ok (.iload_n 1, 1) := by decide +kernel
theorem dX12_readStatement_73 : decode cX12_readStatement 73 = .ok (.ifCond .ne 8, 3) := by decide +kernel
theorem dX12_readStatement_76 : decode cX12_readStatement 76 = .ok (.aload_n 0, 1) := by decide +kernel
theorem dX12_readStatement_77 : decode cX12_readStatement 77 = .ok (.invokevirtual 207, 3) := by decide +kernel
theorem dX12_readStatement_80 : decode cX12_readStatement 80 = .ok (.return_, 1) := by decide +kernel
theorem dX12_readStatement_81 : decode cX12_readStatement 81 = .ok (.aload_n 0, 1) := by decide +kernel
theorem dX12_readStatement_82 : decode cX12_readStatement 82 = .ok (.invokevirtual 204, 3) := by decide +kernel
theorem dX12_readStatement_85 : decode cX12_readStatement 85 = .ok (.iload_n 1, 1) := by decide +kernel
theorem dX12_readStatement_86 : decode cX12_readStatement 86 = .ok (.iconst 1, 1) := by decide +kernel
theorem dX12_readStatement_87 : decode cX12_readStatement 87 = .ok (.if_icmp .ne 10, 3) := by decide +kernel
theorem dX12_readStatement_90 : decode cX12_readStatement 90 = .ok (.aload_n 0, 1) := by decide +kernel
theorem dX12_readStatement_91 : decode cX12_readStatement 91 = .ok (.invokevirtual 290, 3) := by decide +kernel
theorem dX12_readStatement_94 : decode cX12_readStatement 94 = .ok (.goto 43, 3) := by decide +kernel
theorem dX12_readStatement_97 : decode cX12_readStatement 97 = .ok (.iload_n 1, 1) := by decide +kernel
theorem dX12_readStatement_98 : decode cX12_readStatement 98 = .ok (.iconst 2, 1) := by decide +kernel
theorem dX12_readStatement_99 : decode cX12_readStatement 99 = .ok (.if_icmp .ne 10, 3) := by decide +kernel
theorem dX12_readStatement_102 : decode cX12_readStatement 102 = .ok (.aload_n 0, 1) := by decide +kernel
theorem dX12_readStatement_103 : decode cX12_readStatement 103 = .ok (.invokevirtual 293, 3) := by decide +kernel
theorem dX12_readStatement_106 : decode cX12_readStatement 106 = .ok (.goto 31, 3) := by decide +kernel
theorem dX12_readStatement_109 : decode cX12_readStatement 109 = .ok (.iload_n 1, 1) := by decide +kernel
theorem dX12_readStatement_110 : decode cX12_readStatement 110 = .ok (.iconst 3, 1) := by decide +kernel
theorem dX12_readStatement_111 : decode cX12_readStatement 111 = .ok (.if_icmp .ne 10, 3) := by decide +kernel
theorem dX12_readStatement_114 : decode cX12_readStatement 114 = .ok (.aload_n 0, 1) := by decide +kernel
theorem dX12_readStatement_115 : decode cX12_readStatement 115 = .ok (.invokevirtual 296, 3) := by decide +kernel
theorem dX12_readStatement_118 : decode cX12_readStatement 118 = .ok (.goto 19, 3) := by decide +kernel
theorem dX12_readStatement_121 : decode cX12_readStatement 121 = .ok (.iload_n 1, 1) := by decide +kernel
theorem dX12_readStatement_122 : decode cX12_readStatement 122 = .ok (.iconst 4, 1) := by decide +kernel
theorem dX12_readStatement_123 : decode cX12_readStatement 123 = .ok (.if_icmp .ne 10, 3) := by decide +kernel
theorem dX12_readStatement_126 : decode cX12_readStatement 126 = .ok (.aload_n 0, 1) := by decide +kernel
theorem dX12_readStatement_127 : decode cX12_readStatement 127 = .ok (.invokevirtual 299, 3) := by decide +kernel
theorem dX12_readStatement_130 : decode cX12_readStatement 130 = .ok (.goto 7, 3) := by decide +kernel
theorem dX12_readStatement_133 : decode cX12_readStatement 133 = .ok (.aload_n 0, 1) := by decide +kernel
theorem dX12_readStatement_134 : decode cX12_readStatement 134 = .ok (.invokevirtual 302, 3) := by decide +kernel
theorem dX12_readStatement_137 : decode cX12_readStatement 137 = .ok (.aload_n 0, 1) := by decide +kernel
theorem dX12_readStatement_138 : decode cX12_readStatement 138 = .ok (.invokevirtual 305, 3) := by decide +kernel
theorem dX12_readStatement_141 : decode cX12_readStatement 141 = .ok (.return_, 1) := by decide +kernel
theorem dX12_beginsText_0 : decode cX12_beginsText 0 = .ok (.aload_n 0, 1) := by decide +kernel
theorem dX12_beginsText_1 : decode cX12_beginsText 1 = .ok (.iload_n 1, 1) := by decide +kernel
theorem dX12_beginsText_2 : decode cX12_beginsText 2 = .ok (.putfield 167, 3) := by decide +kernel
theorem dX12_beginsText_5 : decode cX12_beginsText 5 = .ok (.aload_n 0, 1) := by decide +kernel
theorem dX12_beginsText_6 : decode cX12_beginsText 6 = .ok (.iconst 0, 1) := by decide +kernel
theorem dX12_beginsText_7 : decode cX12_beginsText 7 = .ok (.putfield 161, 3) := by decide +kernel
theorem dX12_beginsText_10 : decode cX12_beginsText 10 = .ok (.aload_n 0, 1) := by decide +kernel
theorem dX12_beginsText_11 : decode cX12_beginsText 11 = .ok (.iconst 0, 1) := by decide +kernel
theorem dX12_beginsText_12 : decode cX12_beginsText 12 = .ok (.putfield 164, 3) := by decide +kernel
theorem dX12_beginsText_15 : decode cX12_beginsText 15 = .ok (.aload_n 0, 1) := by decide +kernel
theorem dX12_beginsText_16 : decode cX12_beginsText 16 = .ok (.iconst (-1), 1) := by decide +kernel
theorem dX12_beginsText_17 : decode cX12_beginsText 17 = .ok (.putfield 114, 3) := by decide +kernel
theorem dX12_beginsText_20 : decode cX12_beginsText 20 = .ok (.aload_n 0, 1) := by decide +kernel
theorem dX12_beginsText_21 : decode cX12_beginsText 21 = .ok (.iconst 0, 1) := by decide +kernel
theorem dX12_beginsText_22 : decode cX12_beginsText 22 = .ok (.putfield 196, 3) := by decide +kernel
theorem dX12_beginsText_25 : decode cX12_beginsText 25 = .ok (.aload_n 0, 1) := by decide +kernel
theorem dX12_beginsText_26 : decode cX12_beginsText 26 = .ok (.invokevirtual 204, 3) := by decide +kernel
theorem dX12_beginsText_29 : decode cX12_beginsText 29 = .ok (.return_, 1) := by decide +kernel
theorem dX12_town_0 : decode cX12_town 0 = .ok (.iload_n 1, 1) := by decide +kernel
theorem dX12_town_1 : decode cX12_town 1 = .ok (.ifCond .lt 11, 3) := by decide +kernel
theorem dX12_town_4 : decode cX12_town 4 = .ok (.iload_n 1, 1) := by decide +kernel
theorem dX12_town_5 : decode cX12_town 5 = .ok (.aload_n 0, 1) := by decide +kernel
theorem dX12_town_6 : decode cX12_town 6 = .ok (.getfield 161, 3) := by decide +kernel
theorem dX12_town_9 : decode cX12_town 9 = .ok (.if_icmp .le 6, 3) := by decide +kernel
theorem dX12_town_12 : decode cX12_town 12 = .ok (.bipush (-2), 2) := by decide +kernel
theorem dX12_town_14 : decode cX12_town 14 = .ok (.ireturn, 1) := by decide +kernel
theorem dX12_town_15 : decode cX12_town 15 = .ok (.aload_n 0, 1) := by decide +kernel
theorem dX12_town_16 : decode cX12_town 16 = .ok (.iload_n 1, 1) := by decide +kernel
theorem dX12_town_17 : decode cX12_town 17 = .ok (.invokevirtual 308, 3) := by decide +kernel
theorem dX12_town_20 : decode cX12_town 20 = .ok (.aload_n 0, 1) := by decide +kernel
theorem dX12_town_21 : decode cX12_town 21 = .ok (.iconst 1, 1) := by decide +kernel
theorem dX12_town_22 : decode cX12_town 22 = .ok (.aload_n 0, 1) := by decide +kernel
theorem dX12_town_23 : decode cX12_town 23 = .ok (.getfield 312, 3) := by decide +kernel
theorem dX12_town_26 : decode cX12_town 26 = .ok (.isub, 1) := by decide +kernel
theorem dX12_town_27 : decode cX12_town 27 = .ok (.putfield 260, 3) := by decide +kernel
theorem dX12_town_30 : decode cX12_town 30 = .ok (.aload_n 0, 1) := by decide +kernel
theorem dX12_town_31 : decode cX12_town 31 = .ok (.getfield 7, 3) := by decide +kernel
theorem dX12_town_34 : decode cX12_town 34 = .ok (.aload_n 0, 1) := by decide +kernel
theorem dX12_town_35 : decode cX12_town 35 = .ok (.getfield 260, 3) := by decide +kernel
theorem dX12_town_38 : decode cX12_town 38 = .ok (.iconst 0, 1) := by decide +kernel
theorem dX12_town_39 : decode cX12_town 39 = .ok (.iastore, 1) := by decide +kernel
theorem dX12_town_40 : decode cX12_town 40 = .ok (.aload_n 0, 1) := by decide +kernel
theorem dX12_town_41 : decode cX12_town 41 = .ok (.getfield 13, 3) := by decide +kernel
theorem dX12_town_44 : decode cX12_town 44 = .ok (.aload_n 0, 1) := by decide +kernel
theorem dX12_town_45 : decode cX12_town 45 = .ok (.getfield 260, 3) := by decide +kernel
theorem dX12_town_48 : decode cX12_town 48 = .ok (.iconst 0, 1) := by decide +kernel
theorem dX12_town_49 : decode cX12_town 49 = .ok (.iastore, 1) := by decide +kernel
theorem dX12_town_50 : decode cX12_town 50 = .ok (.aload_n 0, 1) := by decide +kernel
theorem dX12_town_51 : decode cX12_town 51 = .ok (.getfield 16, 3) := by decide +kernel
theorem dX12_town_54 : decode cX12_town 54 = .ok (.aload_n 0, 1) := by decide +kernel
theorem dX12_town_55 : decode cX12_town 55 = .ok (.getfield 260, 3) := by decide +kernel
theorem dX12_town_58 : decode cX12_town 58 = .ok (.iconst 0, 1) := by decide +kernel
theorem dX12_town_59 : decode cX12_town 59 = .ok (.iastore, 1) := by decide +kernel
theorem dX12_town_60 : decode cX12_town 60 = .ok (.aload_n 0, 1) := by decide +kernel
theorem dX12_town_61 : decode cX12_town 61 = .ok (.getfield 19, 3) := by decide +kernel
theorem dX12_town_64 : decode cX12_town 64 = .ok (.aload_n 0, 1) := by decide +kernel
theorem dX12_town_65 : decode cX12_town 65 = .ok (.getfield 260, 3) := by decide +kernel
theorem dX12_town_68 : decode cX12_town 68 = .ok (.iconst 0, 1) := by decide +kernel
theorem dX12_town_69 : decode cX12_town 69 = .ok (.iastore, 1) := by decide +kernel
theorem dX12_town_70 : decode cX12_town 70 = .ok (.aload_n 0, 1) := by decide +kernel
theorem dX12_town_71 : decode cX12_town 71 = .ok (.getfield 22, 3) := by decide +kernel
theorem dX12_town_74 : decode cX12_town 74 = .ok (.aload_n 0, 1) := by decide +kernel
theorem dX12_town_75 : decode cX12_town 75 = .ok (.getfield 260, 3) := by decide +kernel
theorem dX12_town_78 : decode cX12_town 78 = .ok (.iconst 0, 1) := by decide +kernel
theorem dX12_town_79 : decode cX12_town 79 = .ok (.iastore, 1) := by decide +kernel
theorem dX12_town_80 : decode cX12_town 80 = .ok (.iconst 0, 1) := by decide +kernel
theorem dX12_town_81 : decode cX12_town 81 = .ok (.istore_n 2, 1) := by decide +kernel
theorem dX12_town_82 : decode cX12_town 82 = .ok (.aload_n 0, 1) := by decide +kernel
theorem dX12_town_83 : decode cX12_town 83 = .ok (.getfield 186, 3) := by decide +kernel
theorem dX12_town_86 : decode cX12_town 86 = .ok (.ifCond .eq 33, 3) := by decide +kernel
theorem dX12_town_89 : decode cX12_town 89 = .ok (.aload_n 0, 1) := by decide +kernel
theorem dX12_town_90 : decode cX12_town 90 = .ok (.getfield 196, 3) := by decide +kernel
theorem dX12_town_93 : decode cX12_town 93 = .ok (.ifCond .ne 26, 3) := by decide +kernel
theorem dX12_town_96 : decode cX12_town 96 = .ok (.iload_n 2, 1) := by decide +kernel
theorem dX12_town_97 : decode cX12_town 97 = .ok (.bipush 60, 2) := by decide +kernel
theorem dX12_town_99 : decode cX12_town 99 = .ok (.if_icmp .ne 10, 3) := by decide +kernel
theorem dX12_town_102 : decode cX12_town 102 = .ok (.aload_n 0, 1) := by decide +kernel
theorem dX12_town_103 : decode cX12_town 103 = .ok (.invokevirtual 207, 3) := by decide +kernel
theorem dX12_town_106 : decode cX12_town 106 = .ok (.goto 7, 3) := by decide +kernel
theorem dX12_town_109 : decode cX12_town 109 = .ok (.aload_n 0, 1) := by decide +kernel
theorem dX12_town_110 : decode cX12_town 110 = .ok (.invokevirtual 315, 3) := by decide +kernel
theorem dX12_town_113 : decode cX12_town 113 = .ok (.iinc 2 1, 3) := by decide +kernel
theorem dX12_town_116 : decode cX12_town 116 = .ok (.goto (-34), 3) := by decide +kernel
theorem dX12_town_119 : decode cX12_town 119 = .ok (.aload_n 0, 1) := by decide +kernel
theorem dX12_town_120 : decode cX12_town 120 = .ok (.getfield 196, 3) := by decide +kernel
theorem dX12_town_123 : decode cX12_town 123 = .ok (.ifCond .eq 5, 3) := by decide +kernel
theorem dX12_town_126 : decode cX12_town 126 = .ok (.iconst (-1), 1) := by decide +kernel
theorem dX12_town_127 : decode cX12_town 127 = .ok (.ireturn, 1) := by decide +kernel
theorem dX12_town_128 : decode cX12_town 128 = .ok (.aload_n 0, 1) := by decide +kernel
theorem dX12_town_129 : decode cX12_town 129 = .ok (.getfield 25, 3) := by decide +kernel
theorem dX12_town_132 : decode cX12_town 132 = .ok (.aload_n 0, 1) := by decide +kernel
theorem dX12_town_133 : decode cX12_town 133 = .ok (.getfield 260, 3) := by decide +kernel
theorem dX12_town_136 : decode cX12_town 136 = .ok (.iload_n 2, 1) := by decide +kernel
theorem dX12_town_137 : decode cX12_town 137 = .ok (.iastore, 1) := by decide +kernel
theorem dX12_town_138 : decode cX12_town 138 = .ok (.aload_n 0, 1) := by decide +kernel
theorem dX12_town_139 : decode cX12_town 139 = .ok (.aload_n 0, 1) := by decide +kernel
theorem dX12_town_140 : decode cX12_town 140 = .ok (.getfield 260, 3) := by decide +kernel
theorem dX12_town_143 : decode cX12_town 143 = .ok (.putfield 312, 3) := by decide +kernel
theorem dX12_town_146 : decode cX12_town 146 = .ok (.aload_n 0, 1) := by decide +kernel
theorem dX12_town_147 : decode cX12_town 147 = .ok (.dup, 1) := by decide +kernel
theorem dX12_town_148 : decode cX12_town 148 = .ok (.getfield 318, 3) := by decide +kernel
theorem dX12_town_151 : decode cX12_town 151 = .ok (.iconst 1, 1) := by decide +kernel
theorem dX12_town_152 : decode cX12_town 152 = .ok (.iadd, 1) := by decide +kernel
theorem dX12_town_153 : decode cX12_town 153 = .ok (.putfield 318, 3) := by decide +kernel
theorem dX12_town_156 : decode cX12_town 156 = .ok (.aload_n 0, 1) := by decide +kernel
theorem dX12_town_157 : decode cX12_town 157 = .ok (.getfield 86, 3) := by decide +kernel
theorem dX12_town_160 : decode cX12_town 160 = .ok (.iconst 0, 1) := by decide +kernel
theorem dX12_town_161 : decode cX12_town 161 = .ok (.iconst 0, 1) := by decide +kernel
theorem dX12_town_162 : decode cX12_town 162 = .ok (.iastore, 1) := by decide +kernel
theorem dX12_town_163 : decode cX12_town 163 = .ok (.aload_n 0, 1) := by decide +kernel
theorem dX12_town_164 : decode cX12_town 164 = .ok (.iconst 0, 1) := by decide +kernel
theorem dX12_town_165 : decode cX12_town 165 = .ok (.putfield 321, 3) := by decide +kernel
theorem dX12_town_168 : decode cX12_town 168 = .ok (.iconst 0, 1) := by decide +kernel
theorem dX12_town_169 : decode cX12_town 169 = .ok (.istore_n 3, 1) := by decide +kernel
theorem dX12_town_170 : decode cX12_town 170 = .ok (.iload_n 3, 1) := by decide +kernel
theorem dX12_town_171 : decode cX12_town 171 = .ok (.bipush 12, 2) := by decide +kernel
theorem dX12_town_173 : decode cX12_town 173 = .ok (.if_icmp .ge 16, 3) := by decide +kernel
theorem dX12_town_176 : decode cX12_town 176 = .ok (.aload_n 0, 1) := by decide +kernel
theorem dX12_town_177 : decode cX12_town 177 = .ok (.getfield 107, 3) := by decide +kernel
theorem dX12_town_180 : decode cX12_town 180 = .ok (.iload_n 3, 1) := by decide +kernel
theorem dX12_town_181 : decode cX12_town 181 = .ok (.iconst 1, 1) := by decide +kernel
theorem dX12_town_182 : decode cX12_town 182 = .ok (.iastore, 1) := by decide +kernel
theorem dX12_town_183 : decode cX12_town 183 = .ok (.iinc 3 1, 3) := by decide +kernel
theorem dX12_town_186 : decode cX12_town 186 = .ok (.goto (-16), 3) := by decide +kernel
theorem dX12_town_189 : decode cX12_town 189 = .ok (.iload_n 2, 1) := by decide +kernel
theorem dX12_town_190 : decode cX12_town 190 = .ok (.ireturn, 1) := by decide +kernel
theorem dX12_named_0 : decode cX12_named 0 = .ok (.aload_n 0, 1) := by decide +kernel
theorem dX12_named_1 : decode cX12_named 1 = .ok (.getfield 196, 3) := by decide +kernel
theorem dX12_named_4 : decode cX12_named 4 = .ok (.ifCond .eq 5, 3) := by decide +kernel
theorem dX12_named_7 : decode cX12_named 7 = .ok (.iconst 0, 1) := by decide +kernel
theorem dX12_named_8 : decode cX12_named 8 = .ok (.ireturn, 1) := by decide +kernel
theorem dX12_named_9 : decode cX12_named 9 = .ok (.aload_n 0, 1) := by decide +kernel
theorem dX12_named_10 : decode cX12_named 10 = .ok (.getfield 186, 3) := by decide +kernel
theorem dX12_named_13 : decode cX12_named 13 = .ok (.iconst 1, 1) := by decide +kernel
theorem dX12_named_14 : decode cX12_named 14 = .ok (.if_icmp .ne 25, 3) := by decide +kernel
theorem dX12_named_17 : decode cX12_named 17 = .ok (.aload_n 0, 1) := by decide +kernel
theorem dX12_named_18 : decode cX12_named 18 = .ok (.getfield 179, 3) := by decide +kernel
theorem dX12_named_21 : decode cX12_named 21 = .ok (.lconst 0, 1) := by decide +kernel
theorem dX12_named_22 : decode cX12_named 22 = .ok (.lcmp, 1) := by decide +kernel
theorem dX12_named_23 : decode cX12_named 23 = .ok (.ifCond .le 16, 3) := by decide +kernel
theorem dX12_named_26 : decode cX12_named 26 = .ok (.aload_n 1, 1) := by decide +kernel
theorem dX12_named_27 : decode cX12_named 27 = .ok (.iload_n 2, 1) := by decide +kernel
theorem dX12_named_28 : decode cX12_named 28 = .ok (.iload_n 3, 1) := by decide +kernel
theorem dX12_named_29 : decode cX12_named 29 = .ok (.aload_n 0, 1) := by decide +kernel
theorem dX12_named_30 : decode cX12_named 30 = .ok (.getfield 179, 3) := by decide +kernel
theorem dX12_named_33 : decode cX12_named 33 = .ok (.invokestatic 263, 3) := by decide +kernel
theorem dX12_named_36 : decode cX12_named 36 = .ok (.goto 4, 3) := by decide +kernel
theorem dX12_named_39 : decode cX12_named 39 = .ok (.iconst (-1), 1) := by decide +kernel
theorem dX12_named_40 : decode cX12_named 40 = .ok (.istore 5, 2) := by decide +kernel
theorem dX12_named_42 : decode cX12_named 42 = .ok (.iload 5, 2) := by decide +kernel
theorem dX12_named_44 : decode cX12_named 44 = .ok (.ifCond .lt 10, 3) := by decide +kernel
theorem dX12_named_47 : decode cX12_named 47 = .ok (.iload 5, 2) := by decide +kernel
theorem dX12_named_49 : decode cX12_named 49 = .ok (.iload 4, 2) := by decide +kernel
theorem dX12_named_51 : decode cX12_named 51 = .ok (.if_icmp .ne 9, 3) := by decide +kernel
theorem dX12_named_54 : decode cX12_named 54 = .ok (.aload_n 0, 1) := by decide +kernel
theorem dX12_named_55 : decode cX12_named 55 = .ok (.invokevirtual 207, 3) := by decide +kernel
theorem dX12_named_58 : decode cX12_named 58 = .ok (.iconst 0, 1) := by decide +kernel
theorem dX12_named_59 : decode cX12_named 59 = .ok (.ireturn, 1) := by decide +kernel
theorem dX12_named_60 : decode cX12_named 60 = .ok (.aload_n 0, 1) := by decide +kernel
theorem dX12_named_61 : decode cX12_named 61 = .ok (.invokevirtual 204, 3) := by decide +kernel
theorem dX12_named_64 : decode cX12_named 64 = .ok (.iload 5, 2) := by decide +kernel
theorem dX12_named_66 : decode cX12_named 66 = .ok (.ireturn, 1) := by decide +kernel
theorem dX12_thingHere_0 : decode cX12_thingHere 0 = .ok (.aload_n 0, 1) := by decide +kernel
theorem dX12_thingHere_1 : decode cX12_thingHere 1 = .ok (.aload_n 0, 1) := by decide +kernel
theorem dX12_thingHere_2 : decode cX12_thingHere 2 = .ok (.getfield 28, 3) := by decide +kernel
theorem dX12_thingHere_5 : decode cX12_thingHere 5 = .ok (.bipush 12, 2) := by decide +kernel
theorem dX12_thingHere_7 : decode cX12_thingHere 7 = .ok (.aload_n 0, 1) := by decide +kernel
theorem dX12_thingHere_8 : decode cX12_thingHere 8 = .ok (.getfield 312, 3) := by decide +kernel
theorem dX12_thingHere_11 : decode cX12_thingHere 11 = .ok (.imul, 1) := by decide +kernel
theorem dX12_thingHere_12 : decode cX12_thingHere 12 = .ok (.aload_n 0, 1) := by decide +kernel
theorem dX12_thingHere_13 : decode cX12_thingHere 13 = .ok (.getfield 7, 3) := by decide +kernel
theorem dX12_thingHere_16 : decode cX12_thingHere 16 = .ok (.aload_n 0, 1) := by decide +kernel
theorem dX12_thingHere_17 : decode cX12_thingHere 17 = .ok (.getfield 312, 3) := by decide +kernel
theorem dX12_thingHere_20 : decode cX12_thingHere 20 = .ok (.iaload, 1) := by decide +kernel
theorem dX12_thingHere_21 : decode cX12_thingHere 21 = .ok (.iconst (-1), 1) := by decide +kernel
theorem dX12_thingHere_22 : decode cX12_thingHere 22 = .ok (.invokevirtual 324, 3) := by decide +kernel
theorem dX12_thingHere_25 : decode cX12_thingHere 25 = .ok (.ireturn, 1) := by decide +kernel
theorem dX12_treeHere_0 : decode cX12_treeHere 0 = .ok (.aload_n 0, 1) := by decide +kernel
theorem dX12_treeHere_1 : decode cX12_treeHere 1 = .ok (.aload_n 0, 1) := by decide +kernel
theorem dX12_treeHere_2 : decode cX12_treeHere 2 = .ok (.getfield 32, 3) := by decide +kernel
theorem dX12_treeHere_5 : decode cX12_treeHere 5 = .ok (.bipush 6, 2) := by decide +kernel
theorem dX12_treeHere_7 : decode cX12_treeHere 7 = .ok (.aload_n 0, 1) := by decide +kernel
theorem dX12_treeHere_8 : decode cX12_treeHere 8 = .ok (.getfield 312, 3) := by decide +kernel
theorem dX12_treeHere_11 : decode cX12_treeHere 11 = .ok (.imul, 1) := by decide +kernel
theorem dX12_treeHere_12 : decode cX12_treeHere 12 = .ok (.aload_n 0, 1) := by decide +kernel
theorem dX12_treeHere_13 : decode cX12_treeHere 13 = .ok (.getfield 13, 3) := by decide +kernel
theorem dX12_treeHere_16 : decode cX12_treeHere 16 = .ok (.aload_n 0, 1) := by decide +kernel
theorem dX12_treeHere_17 : decode cX12_treeHere 17 = .ok (.getfield 312, 3) := by decide +kernel
theorem dX12_treeHere_20 : decode cX12_treeHere 20 = .ok (.iaload, 1) := by decide +kernel
theorem dX12_treeHere_21 : decode cX12_treeHere 21 = .ok (.iconst (-1), 1) := by decide +kernel
theorem dX12_treeHere_22 : decode cX12_treeHere 22 = .ok (.invokevirtual 324, 3) := by decide +kernel
theorem dX12_treeHere_25 : decode cX12_treeHere 25 = .ok (.ireturn, 1) := by decide +kernel
theorem dX12_postHere_0 : decode cX12_postHere 0 = .ok (.aload_n 0, 1) := by decide +kernel
theorem dX12_postHere_1 : decode cX12_postHere 1 = .ok (.aload_n 0, 1) := by decide +kernel
theorem dX12_postHere_2 : decode cX12_postHere 2 = .ok (.getfield 35, 3) := by decide +kernel
theorem dX12_postHere_5 : decode cX12_postHere 5 = .ok (.bipush 10, 2) := by decide +kernel
theorem dX12_postHere_7 : decode cX12_postHere 7 = .ok (.aload_n 0, 1) := by decide +kernel
theorem dX12_postHere_8 : decode cX12_postHere 8 = .ok (.getfield 312, 3) := by decide +kernel
theorem dX12_postHere_11 : decode cX12_postHere 11 = .ok (.imul, 1) := by decide +kernel
theorem dX12_postHere_12 : decode cX12_postHere 12 = .ok (.aload_n 0, 1) := by decide +kernel
theorem dX12_postHere_13 : decode cX12_postHere 13 = .ok (.getfield 16, 3) := by decide +kernel
theorem dX12_postHere_16 : decode cX12_postHere 16 = .ok (.aload_n 0, 1) := by decide +kernel
theorem dX12_postHere_17 : decode cX12_postHere 17 = .ok (.getfield 312, 3) := by decide +kernel
theorem dX12_postHere_20 : decode cX12_postHere 20 = .ok (.iaload, 1) := by decide +kernel
theorem dX12_postHere_21 : decode cX12_postHere 21 = .ok (.iload_n 1, 1) := by decide +kernel
theorem dX12_postHere_22 : decode cX12_postHere 22 = .ok (.invokevirtual 324, 3) := by decide +kernel
theorem dX12_postHere_25 : decode cX12_postHere 25 = .ok (.ireturn, 1) := by decide +kernel
theorem dX12_kindHere_0 : decode cX12_kindHere 0 = .ok (.aload_n 0, 1) := by decide +kernel
theorem dX12_kindHere_1 : decode cX12_kindHere 1 = .ok (.getfield 196, 3) := by decide +kernel
theorem dX12_kindHere_4 : decode cX12_kindHere 4 = .ok (.ifCond .ne 11, 3) := by decide +kernel
theorem dX12_kindHere_7 : decode cX12_kindHere 7 = .ok (.aload_n 0, 1) := by decide +kernel
theorem dX12_kindHere_8 : decode cX12_kindHere 8 = .ok (.getfield 186, 3) := by decide +kernel
theorem dX12_kindHere_11 : decode cX12_kindHere 11 = .ok (.iconst 1, 1) := by decide +kernel
theorem dX12_kindHere_12 : decode cX12_kindHere 12 = .ok (.if_icmp .eq 5, 3) := by decide +kernel
theorem dX12_kindHere_15 : decode cX12_kindHere 15 = .ok (.iconst (-1), 1) := by decide +kernel
theorem dX12_kindHere_16 : decode cX12_kindHere 16 = .ok (.ireturn, 1) := by decide +kernel
theorem dX12_kindHere_17 : decode cX12_kindHere 17 = .ok (.aload_n 0, 1) := by decide +kernel
theorem dX12_kindHere_18 : decode cX12_kindHere 18 = .ok (.getfield 179, 3) := by decide +kernel
theorem dX12_kindHere_21 : decode cX12_kindHere 21 = .ok (.ldc2_w 242, 3) := by decide +kernel
theorem dX12_kindHere_24 : decode cX12_kindHere 24 = .ok (.lcmp, 1) := by decide +kernel
theorem dX12_kindHere_25 : decode cX12_kindHere 25 = .ok (.ifCond .ne 5, 3) := by decide +kernel
theorem dX12_kindHere_28 : decode cX12_kindHere 28 = .ok (.iconst 0, 1) := by decide +kernel
theorem dX12_kindHere_29 : decode cX12_kindHere 29 = .ok (.ireturn, 1) := by decide +kernel
theorem dX12_kindHere_30 : decode cX12_kindHere 30 = .ok (.aload_n 0, 1) := by decide +kernel
theorem dX12_kindHere_31 : decode cX12_kindHere 31 = .ok (.getfield 179, 3) := by decide +kernel
theorem dX12_kindHere_34 : decode cX12_kindHere 34 = .ok (.ldc2_w 244, 3) := by decide +kernel
theorem dX12_kindHere_37 : decode cX12_kindHere 37 = .ok (.lcmp, 1) := by decide +kernel
theorem dX12_kindHere_38 : decode cX12_kindHere 38 = .ok (.ifCond .ne 5, 3) := by decide +kernel
theorem dX12_kindHere_41 : decode cX12_kindHere 41 = .ok (.iconst 1, 1) := by decide +kernel
theorem dX12_kindHere_42 : decode cX12_kindHere 42 = .ok (.ireturn, 1) := by decide +kernel
theorem dX12_kindHere_43 : decode cX12_kindHere 43 = .ok (.aload_n 0, 1) := by decide +kernel
theorem dX12_kindHere_44 : decode cX12_kindHere 44 = .ok (.getfield 179, 3) := by decide +kernel
theorem dX12_kindHere_47 : decode cX12_kindHere 47 = .ok (.ldc2_w 220, 3) := by decide +kernel
theorem dX12_kindHere_50 : decode cX12_kindHere 50 = .ok (.lcmp, 1) := by decide +kernel
theorem dX12_kindHere_51 : decode cX12_kindHere 51 = .ok (.ifCond .ne 5, 3) := by decide +kernel
theorem dX12_kindHere_54 : decode cX12_kindHere 54 = .ok (.iconst 2, 1) := by decide +kernel
theorem dX12_kindHere_55 : decode cX12_kindHere 55 = .ok (.ireturn, 1) := by decide +kernel
theorem dX12_kindHere_56 : decode cX12_kindHere 56 = .ok (.aload_n 0, 1) := by decide +kernel
theorem dX12_kindHere_57 : decode cX12_kindHere 57 = .ok (.getfield 179, 3) := by decide +kernel
theorem dX12_kindHere_60 : decode cX12_kindHere 60 = .ok (.ldc2_w 222, 3) := by decide +kernel
theorem dX12_kindHere_63 : decode cX12_kindHere 63 = .ok (.lcmp, 1) := by decide +kernel
theorem dX12_kindHere_64 : decode cX12_kindHere 64 = .ok (.ifCond .ne 5, 3) := by decide +kernel
theorem dX12_kindHere_67 : decode cX12_kindHere 67 = .ok (.iconst 3, 1) := by decide +kernel
theorem dX12_kindHere_68 : decode cX12_kindHere 68 = .ok (.ireturn, 1) := by decide +kernel
theorem dX12_kindHere_69 : decode cX12_kindHere 69 = .ok (.aload_n 0, 1) := by decide +kernel
theorem dX12_kindHere_70 : decode cX12_kindHere 70 = .ok (.getfield 179, 3) := by decide +kernel
theorem dX12_kindHere_73 : decode cX12_kindHere 73 = .ok (.ldc2_w 246, 3) := by decide +kernel
theorem dX12_kindHere_76 : decode cX12_kindHere 76 = .ok (.lcmp, 1) := by decide +kernel
theorem dX12_kindHere_77 : decode cX12_kindHere 77 = .ok (.ifCond .ne 5, 3) := by decide +kernel
theorem dX12_kindHere_80 : decode cX12_kindHere 80 = .ok (.iconst 4, 1) := by decide +kernel
theorem dX12_kindHere_81 : decode cX12_kindHere 81 = .ok (.ireturn, 1) := by decide +kernel
theorem dX12_kindHere_82 : decode cX12_kindHere 82 = .ok (.aload_n 0, 1) := by decide +kernel
theorem dX12_kindHere_83 : decode cX12_kindHere 83 = .ok (.getfield 179, 3) := by decide +kernel
theorem dX12_kindHere_86 : decode cX12_kindHere 86 = .ok (.ldc2_w 226, 3) := by decide +kernel
theorem dX12_kindHere_89 : decode cX12_kindHere 89 = .ok (.lcmp, 1) := by decide +kernel
theorem dX12_kindHere_90 : decode cX12_kindHere 90 = .ok (.ifCond .ne 5, 3) := by decide +kernel
theorem dX12_kindHere_93 : decode cX12_kindHere 93 = .ok (.iconst 5, 1) := by decide +kernel
theorem dX12_kindHere_94 : decode cX12_kindHere 94 = .ok (.ireturn, 1) := by decide +kernel
theorem dX12_kindHere_95 : decode cX12_kindHere 95 = .ok (.aload_n 0, 1) := by decide +kernel
theorem dX12_kindHere_96 : decode cX12_kindHere 96 = .ok (.getfield 179, 3) := by decide +kernel
theorem dX12_kindHere_99 : decode cX12_kindHere 99 = .ok (.ldc2_w 248, 3) := by decide +kernel
theorem dX12_kindHere_102 : decode cX12_kindHere 102 = .ok (.lcmp, 1) := by decide +kernel
theorem dX12_kindHere_103 : decode cX12_kindHere 103 = .ok (.ifCond .ne 6, 3) := by decide +kernel
theorem dX12_kindHere_106 : decode cX12_kindHere 106 = .ok (.bipush 6, 2) := by decide +kernel
theorem dX12_kindHere_108 : decode cX12_kindHere 108 = .ok (.ireturn, 1) := by decide +kernel
theorem dX12_kindHere_109 : decode cX12_kindHere 109 = .ok (.aload_n 0, 1) := by decide +kernel
theorem dX12_kindHere_110 : decode cX12_kindHere 110 = .ok (.getfield 179, 3) := by decide +kernel
theorem dX12_kindHere_113 : decode cX12_kindHere 113 = .ok (.ldc2_w 250, 3) := by decide +kernel
theorem dX12_kindHere_116 : decode cX12_kindHere 116 = .ok (.lcmp, 1) := by decide +kernel
theorem dX12_kindHere_117 : decode cX12_kindHere 117 = .ok (.ifCond .ne 6, 3) := by decide +kernel
theorem dX12_kindHere_120 : decode cX12_kindHere 120 = .ok (.bipush 7, 2) := by decide +kernel
theorem dX12_kindHere_122 : decode cX12_kindHere 122 = .ok (.ireturn, 1) := by decide +kernel
theorem dX12_kindHere_123 : decode cX12_kindHere 123 = .ok (.aload_n 0, 1) := by decide +kernel
theorem dX12_kindHere_124 : decode cX12_kindHere 124 = .ok (.getfield 179, 3) := by decide +kernel
theorem dX12_kindHere_127 : decode cX12_kindHere 127 = .ok (.ldc2_w 252, 3) := by decide +kernel
theorem dX12_kindHere_130 : decode cX12_kindHere 130 = .ok (.lcmp, 1) := by decide +kernel
theorem dX12_kindHere_131 : decode cX12_kindHere 131 = .ok (.ifCond .ne 6, 3) := by decide +kernel
theorem dX12_kindHere_134 : decode cX12_kindHere 134 = .ok (.bipush 8, 2) := by decide +kernel
theorem dX12_kindHere_136 : decode cX12_kindHere 136 = .ok (.ireturn, 1) := by decide +kernel
theorem dX12_kindHere_137 : decode cX12_kindHere 137 = .ok (.aload_n 0, 1) := by decide +kernel
theorem dX12_kindHere_138 : decode cX12_kindHere 138 = .ok (.getfield 179, 3) := by decide +kernel
theorem dX12_kindHere_141 : decode cX12_kindHere 141 = .ok (.ldc2_w 254, 3) := by decide +kernel
theorem dX12_kindHere_144 : decode cX12_kindHere 144 = .ok (.lcmp, 1) := by decide +kernel
theorem dX12_kindHere_145 : decode cX12_kindHere 145 = .ok (.ifCond .ne 6, 3) := by decide +kernel
theorem dX12_kindHere_148 : decode cX12_kindHere 148 = .ok (.bipush 9, 2) := by decide +kernel
theorem dX12_kindHere_150 : decode cX12_kindHere 150 = .ok (.ireturn, 1) := by decide +kernel
theorem dX12_kindHere_151 : decode cX12_kindHere 151 = .ok (.iconst (-1), 1) := by decide +kernel
theorem dX12_kindHere_152 : decode cX12_kindHere 152 = .ok (.ireturn, 1) := by decide +kernel
theorem dX12_readSign_0 : decode cX12_readSign 0 = .ok (.bipush 12, 2) := by decide +kernel
theorem dX12_readSign_2 : decode cX12_readSign 2 = .ok (.iload_n 1, 1) := by decide +kernel
theorem dX12_readSign_3 : decode cX12_readSign 3 = .ok (.imul, 1) := by decide +kernel
theorem dX12_readSign_4 : decode cX12_readSign 4 = .ok (.iload_n 2, 1) := by decide +kernel
theorem dX12_readSign_5 : decode cX12_readSign 5 = .ok (.iadd, 1) := by decide +kernel
theorem dX12_readSign_6 : decode cX12_readSign 6 = .ok (.istore_n 3, 1) := by decide +kernel
theorem dX12_readSign_7 : decode cX12_readSign 7 = .ok (.aload_n 0, 1) := by decide +kernel
theorem dX12_readSign_8 : decode cX12_readSign 8 = .ok (.invokevirtual 328, 3) := by decide +kernel
theorem dX12_readSign_11 : decode cX12_readSign 11 = .ok (.istore 4, 2) := by decide +kernel
theorem dX12_readSign_13 : decode cX12_readSign 13 = .ok (.iload 4, 2) := by decide +kernel
theorem dX12_readSign_15 : decode cX12_readSign 15 = .ok (.ifCond .lt 9, 3) := by decide +kernel
theorem dX12_readSign_18 : decode cX12_readSign 18 = .ok (.iload_n 2, 1) := by decide +kernel
theorem dX12_readSign_19 : decode cX12_readSign 19 = .ok (.bipush 12, 2) := by decide +kernel
theorem dX12_readSign_21 : decode cX12_readSign 21 = .ok (.if_icmp .ne 8, 3) := by decide +kernel
theorem dX12_readSign_24 : decode cX12_readSign 24 = .ok (.aload_n 0, 1) := by decide +kernel
theorem dX12_readSign_25 : decode cX12_readSign 25 = .ok (.invokevirtual 207, 3) := by decide +kernel
theorem dX12_readSign_28 : decode cX12_readSign 28 = .ok (.return_, 1) := by decide +kernel
theorem dX12_readSign_29 : decode cX12_readSign 29 = .ok (.aload_n 0, 1) := by decide +kernel
theorem dX12_readSign_30 : decode cX12_readSign 30 = .ok (.invokevirtual 204, 3) := by decide +kernel
theorem dX12_readSign_33 : decode cX12_readSign 33 = .ok (.aload_n 0, 1) := by decide +kernel
theorem dX12_readSign_34 : decode cX12_readSign 34 = .ok (.getfield 92, 3) := by decide +kernel
theorem dX12_readSign_37 : decode cX12_readSign 37 = .ok (.iload_n 3, 1) := by decide +kernel
theorem dX12_readSign_38 : decode cX12_readSign 38 = .ok (.iload 4, 2) := by decide +kernel
theorem dX12_readSign_40 : decode cX12_readSign 40 = .ok (.iastore, 1) := by decide +kernel
theorem dX12_readSign_41 : decode cX12_readSign 41 = .ok (.aload_n 0, 1) := by decide +kernel
theorem dX12_readSign_42 : decode cX12_readSign 42 = .ok (.getfield 98, 3) := by decide +kernel
theorem dX12_readSign_45 : decode cX12_readSign 45 = .ok (.iload_n 3, 1) := by decide +kernel
theorem dX12_readSign_46 : decode cX12_readSign 46 = .ok (.iconst (-1), 1) := by decide +kernel
theorem dX12_readSign_47 : decode cX12_readSign 47 = .ok (.iastore, 1) := by decide +kernel
theorem dX12_readSign_48 : decode cX12_readSign 48 = .ok (.aload_n 0, 1) := by decide +kernel
theorem dX12_readSign_49 : decode cX12_readSign 49 = .ok (.getfield 101, 3) := by decide +kernel
theorem dX12_readSign_52 : decode cX12_readSign 52 = .ok (.iload_n 3, 1) := by decide +kernel
theorem dX12_readSign_53 : decode cX12_readSign 53 = .ok (.iconst (-1), 1) := by decide +kernel
theorem dX12_readSign_54 : decode cX12_readSign 54 = .ok (.iastore, 1) := by decide +kernel
theorem dX12_readSign_55 : decode cX12_readSign 55 = .ok (.aload_n 0, 1) := by decide +kernel
theorem dX12_readSign_56 : decode cX12_readSign 56 = .ok (.getfield 104, 3) := by decide +kernel
theorem dX12_readSign_59 : decode cX12_readSign 59 = .ok (.iload_n 3, 1) := by decide +kernel
theorem dX12_readSign_60 : decode cX12_readSign 60 = .ok (.iconst (-1), 1) := by decide +kernel
theorem dX12_readSign_61 : decode cX12_readSign 61 = .ok (.iastore, 1) := by decide +kernel
theorem dX12_readSign_62 : decode cX12_readSign 62 = .ok (.iload 4, 2) := by decide +kernel
theorem dX12_readSign_64 : decode cX12_readSign 64 = .ok (.iconst 1, 1) := by decide +kernel
theorem dX12_readSign_65 : decode cX12_readSign 65 = .ok (.if_icmp .gt 16, 3) := by decide +kernel
theorem dX12_readSign_68 : decode cX12_readSign 68 = .ok (.aload_n 0, 1) := by decide +kernel
theorem dX12_readSign_69 : decode cX12_readSign 69 = .ok (.getfield 95, 3) := by decide +kernel
theorem dX12_readSign_72 : decode cX12_readSign 72 = .ok (.iload_n 3, 1) := by decide +kernel
theorem dX12_readSign_73 : decode cX12_readSign 73 = .ok (.aload_n 0, 1) := by decide +kernel
theorem dX12_readSign_74 : decode cX12_readSign 74 = .ok (.invokevirtual 331, 3) := by decide +kernel
theorem dX12_readSign_77 : decode cX12_readSign 77 = .ok (.iastore, 1) := by decide +kernel
theorem dX12_readSign_78 : decode cX12_readSign 78 = .ok (.goto 193, 3) := by decide +kernel
theorem dX12_readSign_81 : decode cX12_readSign 81 = .ok (.iload 4, 2) := by decide +kernel
theorem dX12_readSign_83 : decode cX12_readSign 83 = .ok (.iconst 3, 1) := by decide +kernel
theorem dX12_readSign_84 : decode cX12_readSign 84 = .ok (.if_icmp .gt 16, 3) := by decide +kernel
theorem dX12_readSign_87 : decode cX12_readSign 87 = .ok (.aload_n 0, 1) := by decide +kernel
theorem dX12_readSign_88 : decode cX12_readSign 88 = .ok (.getfield 95, 3) := by decide +kernel
theorem dX12_readSign_91 : decode cX12_readSign 91 = .ok (.iload_n 3, 1) := by decide +kernel
theorem dX12_readSign_92 : decode cX12_readSign 92 = .ok (.aload_n 0, 1) := by decide +kernel
theorem dX12_readSign_93 : decode cX12_readSign 93 = .ok (.invokevirtual 334, 3) := by decide +kernel
theorem dX12_readSign_96 : decode cX12_readSign 96 = .ok (.iastore, 1) := by decide +kernel
theorem dX12_readSign_97 : decode cX12_readSign 97 = .ok (.goto 174, 3) := by decide +kernel
theorem dX12_readSign_100 : decode cX12_readSign 100 = .ok (.iload 4, 2) := by decide +kernel
theorem dX12_readSign_102 : decode cX12_readSign 102 = .ok (.iconst 4, 1) := by decide +kernel
theorem dX12_readSign_103 : decode cX12_readSign 103 = .ok (.if_icmp .ne 53, 3) := by decide +kernel
theorem dX12_readSign_106 : decode cX12_readSign 106 = .ok (.aload_n 0, 1) := by decide +kernel
theorem dX12_readSign_107 : decode cX12_readSign 107 = .ok (.getfield 95, 3) := by decide +kernel
theorem dX12_readSign_110 : decode cX12_readSign 110 = .ok (.iload_n 3, 1) := by decide +kernel
theorem dX12_readSign_111 : decode cX12_readSign 111 = .ok (.aload_n 0, 1) := by decide +kernel
theorem dX12_readSign_112 : decode cX12_readSign 112 = .ok (.iconst (-1), 1) := by decide +kernel
theorem dX12_readSign_113 : decode cX12_readSign 113 = .ok (.invokevirtual 337, 3) := by decide +kernel
theorem dX12_readSign_116 : decode cX12_readSign 116 = .ok (.iastore, 1) := by decide +kernel
theorem dX12_readSign_117 : decode cX12_readSign 117 = .ok (.aload_n 0, 1) := by decide +kernel
theorem dX12_readSign_118 : decode cX12_readSign 118 = .ok (.getfield 98, 3) := by decide +kernel
theorem dX12_readSign_121 : decode cX12_readSign 121 = .ok (.iload_n 3, 1) := by decide +kernel
theorem dX12_readSign_122 : decode cX12_readSign 122 = .ok (.aload_n 0, 1) := by decide +kernel
theorem dX12_readSign_123 : decode cX12_readSign 123 = .ok (.iconst 0, 1) := by decide +kernel
theorem dX12_readSign_124 : decode cX12_readSign 124 = .ok (.bipush 31, 2) := by decide +kernel
theorem dX12_readSign_126 : decode cX12_readSign 126 = .ok (.invokevirtual 267, 3) := by decide +kernel
theorem dX12_readSign_129 : decode cX12_readSign 129 = .ok (.iastore, 1) := by decide +kernel
theorem dX12_readSign_130 : decode cX12_readSign 130 = .ok (.aload_n 0, 1) := by decide +kernel
theorem dX12_readSign_131 : decode cX12_readSign 131 = .ok (.getfield 101, 3) := by decide +kernel
theorem dX12_readSign_134 : decode cX12_readSign 134 = .ok (.iload_n 3, 1) := by decide +kernel
theorem dX12_readSign_135 : decode cX12_readSign 135 = .ok (.aload_n 0, 1) := by decide +kernel
theorem dX12_readSign_136 : decode cX12_readSign 136 = .ok (.iconst 0, 1) := by decide +kernel
theorem dX12_readSign_137 : decode cX12_readSign 137 = .ok (.bipush 31, 2) := by decide +kernel
theorem dX12_readSign_139 : decode cX12_readSign 139 = .ok (.invokevirtual 267, 3) := by decide +kernel
theorem dX12_readSign_142 : decode cX12_readSign 142 = .ok (.iastore, 1) := by decide +kernel
theorem dX12_readSign_143 : decode cX12_readSign 143 = .ok (.aload_n 0, 1) := by decide +kernel
theorem dX12_readSign_144 : decode cX12_readSign 144 = .ok (.getfield 104, 3) := by decide +kernel
theorem dX12_readSign_147 : decode cX12_readSign 147 = .ok (.iload_n 3, 1) := by decide +kernel
theorem dX12_readSign_148 : decode cX12_readSign 148 = .ok (.aload_n 0, 1) := by decide +kernel
theorem dX12_readSign_149 : decode cX12_readSign 149 = .ok (.invokevirtual 279, 3) := by decide +kernel
theorem dX12_readSign_152 : decode cX12_readSign 152 = .ok (.iastore, 1) := by decide +kernel
theorem dX12_readSign_153 : decode cX12_readSign 153 = .ok (.goto 118, 3) := by decide +kernel
theorem dX12_readSign_156 : decode cX12_readSign 156 = .ok (.iload 4, 2) := by decide +kernel
theorem dX12_readSign_158 : decode cX12_readSign 158 = .ok (.iconst 5, 1) := by decide +kernel
theorem dX12_readSign_159 : decode cX12_readSign 159 = .ok (.if_icmp .ne 50, 3) := by decide +kernel
theorem dX12_readSign_162 : decode cX12_readSign 162 = .ok (.aload_n 0, 1) := by decide +kernel
theorem dX12_readSign_163 : decode cX12_readSign 163 = .ok (.getfield 95, 3) := by decide +kernel
theorem dX12_readSign_166 : decode cX12_readSign 166 = .ok (.iload_n 3, 1) := by decide +kernel
theorem dX12_readSign_167 : decode cX12_readSign 167 = .ok (.aload_n 0, 1) := by decide +kernel
theorem dX12_readSign_168 : decode cX12_readSign 168 = .ok (.aload_n 0, 1) := by decide +kernel
theorem dX12_readSign_169 : decode cX12_readSign 169 = .ok (.getfield 38, 3) := by decide +kernel
theorem dX12_readSign_172 : decode cX12_readSign 172 = .ok (.iconst 4, 1) := by decide +kernel
theorem dX12_readSign_173 : decode cX12_readSign 173 = .ok (.aload_n 0, 1) := by decide +kernel
theorem dX12_readSign_174 : decode cX12_readSign 174 = .ok (.getfield 312, 3) := by decide +kernel
theorem dX12_readSign_177 : decode cX12_readSign 177 = .ok (.imul, 1) := by decide +kernel
theorem dX12_readSign_178 : decode cX12_readSign 178 = .ok (.aload_n 0, 1) := by decide +kernel
theorem dX12_readSign_179 : decode cX12_readSign 179 = .ok (.getfield 19, 3) := by decide +kernel
theorem dX12_readSign_182 : decode cX12_readSign 182 = .ok (.aload_n 0, 1) := by decide +kernel
theorem dX12_readSign_183 : decode cX12_readSign 183 = .ok (.getfield 312, 3) := by decide +kernel
theorem dX12_readSign_186 : decode cX12_readSign 186 = .ok (.iaload, 1) := by decide +kernel
theorem dX12_readSign_187 : decode cX12_readSign 187 = .ok (.iconst (-1), 1) := by decide +kernel
theorem dX12_readSign_188 : decode cX12_readSign 188 = .ok (.invokevirtual 324, 3) := by decide +kernel
theorem dX12_readSign_191 : decode cX12_readSign 191 = .ok (.iastore, 1) := by decide +kernel
theorem dX12_readSign_192 : decode cX12_readSign 192 = .ok (.aload_n 0, 1) := by decide +kernel
theorem dX12_readSign_193 : decode cX12_readSign 193 = .ok (.getfield 98, 3) := by decide +kernel
theorem dX12_readSign_196 : decode cX12_readSign 196 = .ok (.iload_n 3, 1) := by decide +kernel
theorem dX12_readSign_197 : decode cX12_readSign 197 = .ok (.aload_n 0, 1) := by decide +kernel
theorem dX12_readSign_198 : decode cX12_readSign 198 = .ok (.iconst 0, 1) := by decide +kernel
theorem dX12_readSign_199 : decode cX12_readSign 199 = .ok (.sipush 719, 3) := by decide +kernel
theorem dX12_readSign_202 : decode cX12_readSign 202 = .ok (.invokevirtual 267, 3) := by decide +kernel
theorem dX12_readSign_205 : decode cX12_readSign 205 = .ok (.iastore, 1) := by decide +kernel
theorem dX12_readSign_206 : decode cX12_readSign 206 = .ok (.goto 65, 3) := by decide +kernel
theorem dX12_readSign_209 : decode cX12_readSign 209 = .ok (.iload 4, 2) := by decide +kernel
theorem dX12_readSign_211 : decode cX12_readSign 211 = .ok (.bipush 7, 2) := by decide +kernel
theorem dX12_readSign_213 : decode cX12_readSign 213 = .ok (.if_icmp .gt 31, 3) := by decide +kernel
theorem dX12_readSign_216 : decode cX12_readSign 216 = .ok (.aload_n 0, 1) := by decide +kernel
theorem dX12_readSign_217 : decode cX12_readSign 217 = .ok (.getfield 95, 3) := by decide +kernel
theorem dX12_readSign_220 : decode cX12_readSign 220 = .ok (.iload_n 3, 1) := by decide +kernel
theorem dX12_readSign_221 : decode cX12_readSign 221 = .ok (.aload_n 0, 1) := by decide +kernel
theorem dX12_readSign_222 : decode cX12_readSign 222 = .ok (.iconst 0, 1) := by decide +kernel
theorem dX12_readSign_223 : decode cX12_readSign 223 = .ok (.iload 4, 2) := by decide +kernel
theorem dX12_readSign_225 : decode cX12_readSign 225 = .ok (.bipush 6, 2) := by decide +kernel
theorem dX12_readSign_227 : decode cX12_readSign 227 = .ok (.if_icmp .ne 8, 3) := by decide +kernel
theorem dX12_readSign_230 : decode cX12_readSign 230 = .ok (.bipush 6, 2) := by decide +kernel
theorem dX12_readSign_232 : decode cX12_readSign 232 = .ok (.goto 5, 3) := by decide +kernel
theorem dX12_readSign_235 : decode cX12_readSign 235 = .ok (.bipush 9, 2) := by decide +kernel
theorem dX12_readSign_237 : decode cX12_readSign 237 = .ok (.invokevirtual 267, 3) := by decide +kernel
theorem dX12_readSign_240 : decode cX12_readSign 240 = .ok (.iastore, 1) := by decide +kernel
theorem dX12_readSign_241 : decode cX12_readSign 241 = .ok (.goto 30, 3) := by decide +kernel
theorem dX12_readSign_244 : decode cX12_readSign 244 = .ok (.aload_n 0, 1) := by decide +kernel
theorem dX12_readSign_245 : decode cX12_readSign 245 = .ok (.getfield 95, 3) := by decide +kernel
theorem dX12_readSign_248 : decode cX12_readSign 248 = .ok (.iload_n 3, 1) := by decide +kernel
theorem dX12_readSign_249 : decode cX12_readSign 249 = .ok (.aload_n 0, 1) := by decide +kernel
theorem dX12_readSign_250 : decode cX12_readSign 250 = .ok (.iconst (-1), 1) := by decide +kernel
theorem dX12_readSign_251 : decode cX12_readSign 251 = .ok (.invokevirtual 337, 3) := by decide +kernel
theorem dX12_readSign_254 : decode cX12_readSign 254 = .ok (.iastore, 1) := by decide +kernel
theorem dX12_readSign_255 : decode cX12_readSign 255 = .ok (.aload_n 0, 1) := by decide +kernel
theorem dX12_readSign_256 : decode cX12_readSign 256 = .ok (.getfield 98, 3) := by decide +kernel
theorem dX12_readSign_259 : decode cX12_readSign 259 = .ok (.iload_n 3, 1) := by decide +kernel
theorem dX12_readSign_260 : decode cX12_readSign 260 = .ok (.aload_n 0, 1) := by decide +kernel
theorem dX12_readSign_261 : decode cX12_readSign 261 = .ok (.aload_n 0, 1) := by decide +kernel
theorem dX12_readSign_262 : decode cX12_readSign 262 = .ok (.getfield 95, 3) := by decide +kernel
theorem dX12_readSign_265 : decode cX12_readSign 265 = .ok (.iload_n 3, 1) := by decide +kernel
theorem dX12_readSign_266 : decode cX12_readSign 266 = .ok (.iaload, 1) := by decide +kernel
theorem dX12_readSign_267 : decode cX12_readSign 267 = .ok (.invokevirtual 337, 3) := by decide +kernel
theorem dX12_readSign_270 : decode cX12_readSign 270 = .ok (.iastore, 1) := by decide +kernel
theorem dX12_readSign_271 : decode cX12_readSign 271 = .ok (.aload_n 0, 1) := by decide +kernel
theorem dX12_readSign_272 : decode cX12_readSign 272 = .ok (.invokevirtual 305, 3) := by decide +kernel
theorem dX12_readSign_275 : decode cX12_readSign 275 = .ok (.return_, 1) := by decide +kernel
theorem dX12_readSigns_0 : decode cX12_readSigns 0 = .ok (.iload_n 2, 1) := by decide +kernel
theorem dX12_readSigns_1 : decode cX12_readSigns 1 = .ok (.istore_n 3, 1) := by decide +kernel
theorem dX12_readSigns_2 : decode cX12_readSigns 2 = .ok (.aload_n 0, 1) := by decide +kernel
theorem dX12_readSigns_3 : decode cX12_readSigns 3 = .ok (.getfield 186, 3) := by decide +kernel
theorem dX12_readSigns_6 : decode cX12_readSigns 6 = .ok (.ifCond .ne 7, 3) := by decide +kernel
theorem dX12_readSigns_9 : decode cX12_readSigns 9 = .ok (.aload_n 0, 1) := by decide +kernel
theorem dX12_readSigns_10 : decode cX12_readSigns 10 = .ok (.invokevirtual 207, 3) := by decide +kernel
theorem dX12_readSigns_13 : decode cX12_readSigns 13 = .ok (.aload_n 0, 1) := by decide +kernel
theorem dX12_readSigns_14 : decode cX12_readSigns 14 = .ok (.getfield 186, 3) := by decide +kernel
theorem dX12_readSigns_17 : decode cX12_readSigns 17 = .ok (.ifCond .eq 22, 3) := by decide +kernel
theorem dX12_readSigns_20 : decode cX12_readSigns 20 = .ok (.aload_n 0, 1) := by decide +kernel
theorem dX12_readSigns_21 : decode cX12_readSigns 21 = .ok (.getfield 196, 3) := by decide +kernel
theorem dX12_readSigns_24 : decode cX12_readSigns 24 = .ok (.ifCond .ne 15, 3) := by decide +kernel
theorem dX12_readSigns_27 : decode cX12_readSigns 27 = .ok (.aload_n 0, 1) := by decide +kernel
theorem dX12_readSigns_28 : decode cX12_readSigns 28 = .ok (.iload_n 1, 1) := by decide +kernel
theorem dX12_readSigns_29 : decode cX12_readSigns 29 = .ok (.iload_n 3, 1) := by decide +kernel
theorem dX12_readSigns_30 : decode cX12_readSigns 30 = .ok (.invokevirtual 340, 3) := by decide +kernel
theorem dX12_readSigns_33 : decode cX12_readSigns 33 = .ok (.iinc 3 1, 3) := by decide +kernel
theorem dX12_readSigns_36 : decode cX12_readSigns 36 = .ok (.goto (-23), 3) := by decide +kernel
theorem dX12_readSigns_39 : decode cX12_readSigns 39 = .ok (.aload_n 0, 1) := by decide +kernel
theorem dX12_readSigns_40 : decode cX12_readSigns 40 = .ok (.getfield 196, 3) := by decide +kernel
theorem dX12_readSigns_43 : decode cX12_readSigns 43 = .ok (.ifCond .eq 7, 3) := by decide +kernel
theorem dX12_readSigns_46 : decode cX12_readSigns 46 = .ok (.iconst (-1), 1) := by decide +kernel
theorem dX12_readSigns_47 : decode cX12_readSigns 47 = .ok (.goto 4, 3) := by decide +kernel
theorem dX12_readSigns_50 : decode cX12_readSigns 50 = .ok (.iload_n 3, 1) := by decide +kernel
theorem dX12_readSigns_51 : decode cX12_readSigns 51 = .ok (.ireturn, 1) := by decide +kernel
theorem dX12_isPicture_0 : decode cX12_isPicture 0 = .ok (.iload_n 1, 1) := by decide +kernel
theorem dX12_isPicture_1 : decode cX12_isPicture 1 = .ok (.ifCond .lt 17, 3) := by decide +kernel
theorem dX12_isPicture_4 : decode cX12_isPicture 4 = .ok (.iload_n 1, 1) := by decide +kernel
theorem dX12_isPicture_5 : decode cX12_isPicture 5 = .ok (.aload_n 0, 1) := by decide +kernel
theorem dX12_isPicture_6 : decode cX12_isPicture 6 = .ok (.getfield 86, 3) := by decide +kernel
theorem dX12_isPicture_9 : decode cX12_isPicture 9 = .ok (.iconst 0, 1) := by decide +kernel
theorem dX12_isPicture_10 : decode cX12_isPicture 10 = .ok (.iaload, 1) := by decide +kernel
theorem dX12_isPicture_11 : decode cX12_isPicture 11 = .ok (.if_icmp .ge 7, 3) := by decide +kernel
theorem dX12_isPicture_14 : decode cX12_isPicture 14 = .ok (.iconst 1, 1) := by decide +kernel
theorem dX12_isPicture_15 : decode cX12_isPicture 15 = .ok (.goto 4, 3) := by decide +kernel
theorem dX12_isPicture_18 : decode cX12_isPicture 18 = .ok (.iconst 0, 1) := by decide +kernel
theorem dX12_isPicture_19 : decode cX12_isPicture 19 = .ok (.ireturn, 1) := by decide +kernel
theorem dX12_picture_0 : decode cX12_picture 0 = .ok (.iload_n 1, 1) := by decide +kernel
theorem dX12_picture_1 : decode cX12_picture 1 = .ok (.ifCond .lt 11, 3) := by decide +kernel
theorem dX12_picture_4 : decode cX12_picture 4 = .ok (.iload_n 1, 1) := by decide +kernel
theorem dX12_picture_5 : decode cX12_picture 5 = .ok (.aload_n 0, 1) := by decide +kernel
theorem dX12_picture_6 : decode cX12_picture 6 = .ok (.getfield 161, 3) := by decide +kernel
theorem dX12_picture_9 : decode cX12_picture 9 = .ok (.if_icmp .le 6, 3) := by decide +kernel
theorem dX12_picture_12 : decode cX12_picture 12 = .ok (.bipush (-2), 2) := by decide +kernel
theorem dX12_picture_14 : decode cX12_picture 14 = .ok (.ireturn, 1) := by decide +kernel
theorem dX12_picture_15 : decode cX12_picture 15 = .ok (.aload_n 0, 1) := by decide +kernel
theorem dX12_picture_16 : decode cX12_picture 16 = .ok (.getfield 86, 3) := by decide +kernel
theorem dX12_picture_19 : decode cX12_picture 19 = .ok (.iconst 0, 1) := by decide +kernel
theorem dX12_picture_20 : decode cX12_picture 20 = .ok (.iaload, 1) := by decide +kernel
theorem dX12_picture_21 : decode cX12_picture 21 = .ok (.bipush 8, 2) := by decide +kernel
theorem dX12_picture_23 : decode cX12_picture 23 = .ok (.if_icmp .ne 6, 3) := by decide +kernel
theorem dX12_picture_26 : decode cX12_picture 26 = .ok (.bipush (-3), 2) := by decide +kernel
theorem dX12_picture_28 : decode cX12_picture 28 = .ok (.ireturn, 1) := by decide +kernel
theorem dX12_picture_29 : decode cX12_picture 29 = .ok (.aload_n 0, 1) := by decide +kernel
theorem dX12_picture_30 : decode cX12_picture 30 = .ok (.iload_n 1, 1) := by decide +kernel
theorem dX12_picture_31 : decode cX12_picture 31 = .ok (.invokevirtual 308, 3) := by decide +kernel
theorem dX12_picture_34 : decode cX12_picture 34 = .ok (.aload_n 0, 1) := by decide +kernel
theorem dX12_picture_35 : decode cX12_picture 35 = .ok (.aload_n 0, 1) := by decide +kernel
theorem dX12_picture_36 : decode cX12_picture 36 = .ok (.getfield 86, 3) := by decide +kernel
theorem dX12_picture_39 : decode cX12_picture 39 = .ok (.iconst 0, 1) := by decide +kernel
theorem dX12_picture_40 : decode cX12_picture 40 = .ok (.iaload, 1) := by decide +kernel
theorem dX12_picture_41 : decode cX12_picture 41 = .ok (.iconst 0, 1) := by decide +kernel
theorem dX12_picture_42 : decode cX12_picture 42 = .ok (.invokevirtual 344, 3) := by decide +kernel
theorem dX12_picture_45 : decode cX12_picture 45 = .ok (.istore_n 2, 1) := by decide +kernel
theorem dX12_picture_46 : decode cX12_picture 46 = .ok (.iload_n 2, 1) := by decide +kernel
theorem dX12_picture_47 : decode cX12_picture 47 = .ok (.ifCond .ge 5, 3) := by decide +kernel
theorem dX12_picture_50 : decode cX12_picture 50 = .ok (.iconst (-1), 1) := by decide +kernel
theorem dX12_picture_51 : decode cX12_picture 51 = .ok (.ireturn, 1) := by decide +kernel
theorem dX12_picture_52 : decode cX12_picture 52 = .ok (.aload_n 0, 1) := by decide +kernel
theorem dX12_picture_53 : decode cX12_picture 53 = .ok (.getfield 89, 3) := by decide +kernel
theorem dX12_picture_56 : decode cX12_picture 56 = .ok (.aload_n 0, 1) := by decide +kernel
theorem dX12_picture_57 : decode cX12_picture 57 = .ok (.getfield 86, 3) := by decide +kernel
theorem dX12_picture_60 : decode cX12_picture 60 = .ok (.iconst 0, 1) := by decide +kernel
theorem dX12_picture_61 : decode cX12_picture 61 = .ok (.iaload, 1) := by decide +kernel
theorem dX12_picture_62 : decode cX12_picture 62 = .ok (.iload_n 2, 1) := by decide +kernel
theorem dX12_picture_63 : decode cX12_picture 63 = .ok (.iastore, 1) := by decide +kernel
theorem dX12_picture_64 : decode cX12_picture 64 = .ok (.aload_n 0, 1) := by decide +kernel
theorem dX12_picture_65 : decode cX12_picture 65 = .ok (.getfield 86, 3) := by decide +kernel
theorem dX12_picture_68 : decode cX12_picture 68 = .ok (.iconst 0, 1) := by decide +kernel
theorem dX12_picture_69 : decode cX12_picture 69 = .ok (.dup2, 1) := by decide +kernel
theorem dX12_picture_70 : decode cX12_picture 70 = .ok (.iaload, 1) := by decide +kernel
theorem dX12_picture_71 : decode cX12_picture 71 = .ok (.iconst 1, 1) := by decide +kernel
theorem dX12_picture_72 : decode cX12_picture 72 = .ok (.iadd, 1) := by decide +kernel
theorem dX12_picture_73 : decode cX12_picture 73 = .ok (.iastore, 1) := by decide +kernel
theorem dX12_picture_74 : decode cX12_picture 74 = .ok (.aload_n 0, 1) := by decide +kernel
theorem dX12_picture_75 : decode cX12_picture 75 = .ok (.getfield 86, 3) := by decide +kernel
theorem dX12_picture_78 : decode cX12_picture 78 = .ok (.iconst 0, 1) := by decide +kernel
theorem dX12_picture_79 : decode cX12_picture 79 = .ok (.iaload, 1) := by decide +kernel
theorem dX12_picture_80 : decode cX12_picture 80 = .ok (.iconst 1, 1) := by decide +kernel
theorem dX12_picture_81 : decode cX12_picture 81 = .ok (.isub, 1) := by decide +kernel
theorem dX12_picture_82 : decode cX12_picture 82 = .ok (.ireturn, 1) := by decide +kernel
theorem dX12_more_0 : decode cX12_more 0 = .ok (.aload_n 0, 1) := by decide +kernel
theorem dX12_more_1 : decode cX12_more 1 = .ok (.iload_n 1, 1) := by decide +kernel
theorem dX12_more_2 : decode cX12_more 2 = .ok (.invokevirtual 347, 3) := by decide +kernel
theorem dX12_more_5 : decode cX12_more 5 = .ok (.ifCond .eq 15, 3) := by decide +kernel
theorem dX12_more_8 : decode cX12_more 8 = .ok (.iload_n 2, 1) := by decide +kernel
theorem dX12_more_9 : decode cX12_more 9 = .ok (.ifCond .lt 11, 3) := by decide +kernel
theorem dX12_more_12 : decode cX12_more 12 = .ok (.iload_n 2, 1) := by decide +kernel
theorem dX12_more_13 : decode cX12_more 13 = .ok (.aload_n 0, 1) := by decide +kernel
theorem dX12_more_14 : decode cX12_more 14 = .ok (.getfield 161, 3) := by decide +kernel
theorem dX12_more_17 : decode cX12_more 17 = .ok (.if_icmp .le 6, 3) := by decide +kernel
theorem dX12_more_20 : decode cX12_more 20 = .ok (.bipush (-2), 2) := by decide +kernel
theorem dX12_more_22 : decode cX12_more 22 = .ok (.ireturn, 1) := by decide +kernel
theorem dX12_more_23 : decode cX12_more 23 = .ok (.aload_n 0, 1) := by decide +kernel
theorem dX12_more_24 : decode cX12_more 24 = .ok (.iload_n 2, 1) := by decide +kernel
theorem dX12_more_25 : decode cX12_more 25 = .ok (.invokevirtual 308, 3) := by decide +kernel
theorem dX12_more_28 : decode cX12_more 28 = .ok (.aload_n 0, 1) := by decide +kernel
theorem dX12_more_29 : decode cX12_more 29 = .ok (.iload_n 1, 1) := by decide +kernel
theorem dX12_more_30 : decode cX12_more 30 = .ok (.aload_n 0, 1) := by decide +kernel
theorem dX12_more_31 : decode cX12_more 31 = .ok (.getfield 89, 3) := by decide +kernel
theorem dX12_more_34 : decode cX12_more 34 = .ok (.iload_n 1, 1) := by decide +kernel
theorem dX12_more_35 : decode cX12_more 35 = .ok (.iaload, 1) := by decide +kernel
theorem dX12_more_36 : decode cX12_more 36 = .ok (.invokevirtual 344, 3) := by decide +kernel
theorem dX12_more_39 : decode cX12_more 39 = .ok (.istore_n 3, 1) := by decide +kernel
theorem dX12_more_40 : decode cX12_more 40 = .ok (.iload_n 3, 1) := by decide +kernel
theorem dX12_more_41 : decode cX12_more 41 = .ok (.ifCond .ge 5, 3) := by decide +kernel
theorem dX12_more_44 : decode cX12_more 44 = .ok (.iconst (-1), 1) := by decide +kernel
theorem dX12_more_45 : decode cX12_more 45 = .ok (.ireturn, 1) := by decide +kernel
theorem dX12_more_46 : decode cX12_more 46 = .ok (.aload_n 0, 1) := by decide +kernel
theorem dX12_more_47 : decode cX12_more 47 = .ok (.getfield 89, 3) := by decide +kernel
theorem dX12_more_50 : decode cX12_more 50 = .ok (.iload_n 1, 1) := by decide +kernel
theorem dX12_more_51 : decode cX12_more 51 = .ok (.iload_n 3, 1) := by decide +kernel
theorem dX12_more_52 : decode cX12_more 52 = .ok (.iastore, 1) := by decide +kernel
theorem dX12_more_53 : decode cX12_more 53 = .ok (.iload_n 3, 1) := by decide +kernel
theorem dX12_more_54 : decode cX12_more 54 = .ok (.ireturn, 1) := by decide +kernel
theorem dX12_fault_0 : decode cX12_fault 0 = .ok (.aload_n 0, 1) := by decide +kernel
theorem dX12_fault_1 : decode cX12_fault 1 = .ok (.getfield 114, 3) := by decide +kernel
theorem dX12_fault_4 : decode cX12_fault 4 = .ok (.ireturn, 1) := by decide +kernel
theorem dX12_told_0 : decode cX12_told 0 = .ok (.iload_n 1, 1) := by decide +kernel
theorem dX12_told_1 : decode cX12_told 1 = .ok (.bipush 100, 2) := by decide +kernel
theorem dX12_told_3 : decode cX12_told 3 = .ok (.bipush 99, 2) := by decide +kernel
theorem dX12_told_5 : decode cX12_told 5 = .ok (.iconst 4, 1) := by decide +kernel
theorem dX12_told_6 : decode cX12_told 6 = .ok (.aload_n 0, 1) := by decide +kernel
theorem dX12_told_7 : decode cX12_told 7 = .ok (.getfield 7, 3) := by decide +kernel
theorem dX12_told_10 : decode cX12_told 10 = .ok (.aload_n 0, 1) := by decide +kernel
theorem dX12_told_11 : decode cX12_told 11 = .ok (.getfield 312, 3) := by decide +kernel
theorem dX12_told_14 : decode cX12_told 14 = .ok (.iaload, 1) := by decide +kernel
theorem dX12_told_15 : decode cX12_told 15 = .ok (.imul, 1) := by decide +kernel
theorem dX12_told_16 : decode cX12_told 16 = .ok (.iadd, 1) := by decide +kernel
theorem dX12_told_17 : decode cX12_told 17 = .ok (.invokestatic 189, 3) := by decide +kernel
theorem dX12_told_20 : decode cX12_told 20 = .ok (.ifCond .eq 70, 3) := by decide +kernel
theorem dX12_told_23 : decode cX12_told 23 = .ok (.bipush 12, 2) := by decide +kernel
theorem dX12_told_25 : decode cX12_told 25 = .ok (.aload_n 0, 1) := by decide +kernel
theorem dX12_told_26 : decode cX12_told 26 = .ok (.getfield 312, 3) := by decide +kernel
theorem dX12_told_29 : decode cX12_told 29 = .ok (.imul, 1) := by decide +kernel
theorem dX12_told_30 : decode cX12_told 30 = .ok (.iload_n 1, 1) := by decide +kernel
theorem dX12_told_31 : decode cX12_told 31 = .ok (.bipush 100, 2) := by decide +kernel
theorem dX12_told_33 : decode cX12_told 33 = .ok (.isub, 1) := by decide +kernel
theorem dX12_told_34 : decode cX12_told 34 = .ok (.iconst 4, 1) := by decide +kernel
theorem dX12_told_35 : decode cX12_told 35 = .ok (.idiv, 1) := by decide +kernel
theorem dX12_told_36 : decode cX12_told 36 = .ok (.iadd, 1) := by decide +kernel
theorem dX12_told_37 : decode cX12_told 37 = .ok (.istore_n 2, 1) := by decide +kernel
theorem dX12_told_38 : decode cX12_told 38 = .ok (.iload_n 1, 1) := by decide +kernel
theorem dX12_told_39 : decode cX12_told 39 = .ok (.iconst 4, 1) := by decide +kernel
theorem dX12_told_40 : decode cX12_told 40 = .ok (.irem, 1) := by decide +kernel
theorem dX12_told_41 : decode cX12_told 41 = .ok (.istore_n 3, 1) := by decide +kernel
theorem dX12_told_42 : decode cX12_told 42 = .ok (.iload_n 3, 1) := by decide +kernel
theorem dX12_told_43 : decode cX12_told 43 = .ok (.ifCond .ne 12, 3) := by decide +kernel
theorem dX12_told_46 : decode cX12_told 46 = .ok (.aload_n 0, 1) := by decide +kernel
theorem dX12_told_47 : decode cX12_told 47 = .ok (.getfield 41, 3) := by decide +kernel
theorem dX12_told_50 : decode cX12_told 50 = .ok (.iload_n 2, 1) := by decide +kernel
theorem dX12_told_51 : decode cX12_told 51 = .ok (.iaload, 1) := by decide +kernel
theorem dX12_told_52 : decode cX12_told 52 = .ok (.goto 37, 3) := by decide +kernel
theorem dX12_told_55 : decode cX12_told 55 = .ok (.iload_n 3, 1) := by decide +kernel
theorem dX12_told_56 : decode cX12_told 56 = .ok (.iconst 1, 1) := by decide +kernel
theorem dX12_told_57 : decode cX12_told 57 = .ok (.if_icmp .ne 12, 3) := by decide +kernel
theorem dX12_told_60 : decode cX12_told 60 = .ok (.aload_n 0, 1) := by decide +kernel
theorem dX12_told_61 : decode cX12_told 61 = .ok (.getfield 44, 3) := by decide +kernel
theorem dX12_told_64 : decode cX12_told 64 = .ok (.iload_n 2, 1) := by decide +kernel
theorem dX12_told_65 : decode cX12_told 65 = .ok (.iaload, 1) := by decide +kernel
theorem dX12_told_66 : decode cX12_told 66 = .ok (.goto 23, 3) := by decide +kernel
theorem dX12_told_69 : decode cX12_told 69 = .ok (.iload_n 3, 1) := by decide +kernel
theorem dX12_told_70 : decode cX12_told 70 = .ok (.iconst 2, 1) := by decide +kernel
theorem dX12_told_71 : decode cX12_told 71 = .ok (.if_icmp .ne 12, 3) := by decide +kernel
theorem dX12_told_74 : decode cX12_told 74 = .ok (.aload_n 0, 1) := by decide +kernel
theorem dX12_told_75 : decode cX12_told 75 = .ok (.getfield 47, 3) := by decide +kernel
theorem dX12_told_78 : decode cX12_told 78 = .ok (.iload_n 2, 1) := by decide +kernel
theorem dX12_told_79 : decode cX12_told 79 = .ok (.iaload, 1) := by decide +kernel
theorem dX12_told_80 : decode cX12_told 80 = .ok (.goto 9, 3) := by decide +kernel
theorem dX12_told_83 : decode cX12_told 83 = .ok (.aload_n 0, 1) := by decide +kernel
theorem dX12_told_84 : decode cX12_told 84 = .ok (.getfield 50, 3) := by decide +kernel
theorem dX12_told_87 : decode cX12_told 87 = .ok (.iload_n 2, 1) := by decide +kernel
theorem dX12_told_88 : decode cX12_told 88 = .ok (.iaload, 1) := by decide +kernel
theorem dX12_told_89 : decode cX12_told 89 = .ok (.ireturn, 1) := by decide +kernel
theorem dX12_told_90 : decode cX12_told 90 = .ok (.iload_n 1, 1) := by decide +kernel
theorem dX12_told_91 : decode cX12_told 91 = .ok (.sipush 200, 3) := by decide +kernel
theorem dX12_told_94 : decode cX12_told 94 = .ok (.sipush 199, 3) := by decide +kernel
theorem dX12_told_97 : decode cX12_told 97 = .ok (.iconst 3, 1) := by decide +kernel
theorem dX12_told_98 : decode cX12_told 98 = .ok (.aload_n 0, 1) := by decide +kernel
theorem dX12_told_99 : decode cX12_told 99 = .ok (.getfield 16, 3) := by decide +kernel
theorem dX12_told_102 : decode cX12_told 102 = .ok (.aload_n 0, 1) := by decide +kernel
theorem dX12_told_103 : decode cX12_told 103 = .ok (.getfield 312, 3) := by decide +kernel
theorem dX12_told_106 : decode cX12_told 106 = .ok (.iaload, 1) := by decide +kernel
theorem dX12_told_107 : decode cX12_told 107 = .ok (.imul, 1) := by decide +kernel
theorem dX12_told_108 : decode cX12_told 108 = .ok (.iadd, 1) := by decide +kernel
theorem dX12_told_109 : decode cX12_told 109 = .ok (.invokestatic 189, 3) := by decide +kernel
theorem dX12_told_112 : decode cX12_told 112 = .ok (.ifCond .eq 61, 3) := by decide +kernel
theorem dX12_told_115 : decode cX12_told 115 = .ok (.bipush 10, 2) := by decide +kernel
theorem dX12_told_117 : decode cX12_told 117 = .ok (.aload_n 0, 1) := by decide +kernel
theorem dX12_told_118 : decode cX12_told 118 = .ok (.getfield 312, 3) := by decide +kernel
theorem dX12_told_121 : decode cX12_told 121 = .ok (.imul, 1) := by decide +kernel
theorem dX12_told_122 : decode cX12_told 122 = .ok (.iload_n 1, 1) := by decide +kernel
theorem dX12_told_123 : decode cX12_told 123 = .ok (.sipush 200, 3) := by decide +kernel
theorem dX12_told_126 : decode cX12_told 126 = .ok (.isub, 1) := by decide +kernel
theorem dX12_told_127 : decode cX12_told 127 = .ok (.iconst 3, 1) := by decide +kernel
theorem dX12_told_128 : decode cX12_told 128 = .ok (.idiv, 1) := by decide +kernel
theorem dX12_told_129 : decode cX12_told 129 = .ok (.iadd, 1) := by decide +kernel
theorem dX12_told_130 : decode cX12_told 130 = .ok (.istore_n 2, 1) := by decide +kernel
theorem dX12_told_131 : decode cX12_told 131 = .ok (.iload_n 1, 1) := by decide +kernel
theorem dX12_told_132 : decode cX12_told 132 = .ok (.sipush 200, 3) := by decide +kernel
theorem dX12_told_135 : decode cX12_told 135 = .ok (.isub, 1) := by decide +kernel
theorem dX12_told_136 : decode cX12_told 136 = .ok (.iconst 3, 1) := by decide +kernel
theorem dX12_told_137 : decode cX12_told 137 = .ok (.irem, 1) := by decide +kernel
theorem dX12_told_138 : decode cX12_told 138 = .ok (.istore_n 3, 1) := by decide +kernel
theorem dX12_told_139 : decode cX12_told 139 = .ok (.iload_n 3, 1) := by decide +kernel
theorem dX12_told_140 : decode cX12_told 140 = .ok (.ifCond .ne 12, 3) := by decide +kernel
theorem dX12_told_143 : decode cX12_told 143 = .ok (.aload_n 0, 1) := by decide +kernel
theorem dX12_told_144 : decode cX12_told 144 = .ok (.getfield 59, 3) := by decide +kernel
theorem dX12_told_147 : decode cX12_told 147 = .ok (.iload_n 2, 1) := by decide +kernel
theorem dX12_told_148 : decode cX12_told 148 = .ok (.iaload, 1) := by decide +kernel
theorem dX12_told_149 : decode cX12_told 149 = .ok (.goto 23, 3) := by decide +kernel
theorem dX12_told_152 : decode cX12_told 152 = .ok (.iload_n 3, 1) := by decide +kernel
theorem dX12_told_153 : decode cX12_told 153 = .ok (.iconst 1, 1) := by decide +kernel
theorem dX12_told_154 : decode cX12_told 154 = .ok (.if_icmp .ne 12, 3) := by decide +kernel
theorem dX12_told_157 : decode cX12_told 157 = .ok (.aload_n 0, 1) := by decide +kernel
theorem dX12_told_158 : decode cX12_told 158 = .ok (.getfield 62, 3) := by decide +kernel
theorem dX12_told_161 : decode cX12_told 161 = .ok (.iload_n 2, 1) := by decide +kernel
theorem dX12_told_162 : decode cX12_told 162 = .ok (.iaload, 1) := by decide +kernel
theorem dX12_told_163 : decode cX12_told 163 = .ok (.goto 9, 3) := by decide +kernel
theorem dX12_told_166 : decode cX12_told 166 = .ok (.aload_n 0, 1) := by decide +kernel
theorem dX12_told_167 : decode cX12_told 167 = .ok (.getfield 65, 3) := by decide +kernel
theorem dX12_told_170 : decode cX12_told 170 = .ok (.iload_n 2, 1) := by decide +kernel
theorem dX12_told_171 : decode cX12_told 171 = .ok (.iaload, 1) := by decide +kernel
theorem dX12_told_172 : decode cX12_told 172 = .ok (.ireturn, 1) := by decide +kernel
theorem dX12_told_173 : decode cX12_told 173 = .ok (.iload_n 1, 1) := by decide +kernel
theorem dX12_told_174 : decode cX12_told 174 = .ok (.tableswitch 98 0 5 #[38, 48, 58, 68, 78, 88], 38) := by decide +kernel
theorem dX12_told_212 : decode cX12_told 212 = .ok (.aload_n 0, 1) := by decide +kernel
theorem dX12_told_213 : decode cX12_told 213 = .ok (.getfield 7, 3) := by decide +kernel
theorem dX12_told_216 : decode cX12_told 216 = .ok (.aload_n 0, 1) := by decide +kernel
theorem dX12_told_217 : decode cX12_told 217 = .ok (.getfield 312, 3) := by decide +kernel
theorem dX12_told_220 : decode cX12_told 220 = .ok (.iaload, 1) := by decide +kernel
theorem dX12_told_221 : decode cX12_told 221 = .ok (.ireturn, 1) := by decide +kernel
theorem dX12_told_222 : decode cX12_told 222 = .ok (.aload_n 0, 1) := by decide +kernel
theorem dX12_told_223 : decode cX12_told 223 = .ok (.getfield 13, 3) := by decide +kernel
theorem dX12_told_226 : decode cX12_told 226 = .ok (.aload_n 0, 1) := by decide +kernel
theorem dX12_told_227 : decode cX12_told 227 = .ok (.getfield 312, 3) := by decide +kernel
theorem dX12_told_230 : decode cX12_told 230 = .ok (.iaload, 1) := by decide +kernel
theorem dX12_told_231 : decode cX12_told 231 = .ok (.ireturn, 1) := by decide +kernel
theorem dX12_told_232 : decode cX12_told 232 = .ok (.aload_n 0, 1) := by decide +kernel
theorem dX12_told_233 : decode cX12_told 233 = .ok (.getfield 16, 3) := by decide +kernel
theorem dX12_told_236 : decode cX12_told 236 = .ok (.aload_n 0, 1) := by decide +kernel
theorem dX12_told_237 : decode cX12_told 237 = .ok (.getfield 312, 3) := by decide +kernel
theorem dX12_told_240 : decode cX12_told 240 = .ok (.iaload, 1) := by decide +kernel
theorem dX12_told_241 : decode cX12_told 241 = .ok (.ireturn, 1) := by decide +kernel
theorem dX12_told_242 : decode cX12_told 242 = .ok (.aload_n 0, 1) := by decide +kernel
theorem dX12_told_243 : decode cX12_told 243 = .ok (.getfield 19, 3) := by decide +kernel
theorem dX12_told_246 : decode cX12_told 246 = .ok (.aload_n 0, 1) := by decide +kernel
theorem dX12_told_247 : decode cX12_told 247 = .ok (.getfield 312, 3) := by decide +kernel
theorem dX12_told_250 : decode cX12_told 250 = .ok (.iaload, 1) := by decide +kernel
theorem dX12_told_251 : decode cX12_told 251 = .ok (.ireturn, 1) := by decide +kernel
theorem dX12_told_252 : decode cX12_told 252 = .ok (.aload_n 0, 1) := by decide +kernel
theorem dX12_told_253 : decode cX12_told 253 = .ok (.getfield 22, 3) := by decide +kernel
theorem dX12_told_256 : decode cX12_told 256 = .ok (.aload_n 0, 1) := by decide +kernel
theorem dX12_told_257 : decode cX12_told 257 = .ok (.getfield 312, 3) := by decide +kernel
theorem dX12_told_260 : decode cX12_told 260 = .ok (.iaload, 1) := by decide +kernel
theorem dX12_told_261 : decode cX12_told 261 = .ok (.ireturn, 1) := by decide +kernel
theorem dX12_told_262 : decode cX12_told 262 = .ok (.aload_n 0, 1) := by decide +kernel
theorem dX12_told_263 : decode cX12_told 263 = .ok (.getfield 25, 3) := by decide +kernel
theorem dX12_told_266 : decode cX12_told 266 = .ok (.aload_n 0, 1) := by decide +kernel
theorem dX12_told_267 : decode cX12_told 267 = .ok (.getfield 312, 3) := by decide +kernel
theorem dX12_told_270 : decode cX12_told 270 = .ok (.iaload, 1) := by decide +kernel
theorem dX12_told_271 : decode cX12_told 271 = .ok (.ireturn, 1) := by decide +kernel
theorem dX12_told_272 : decode cX12_told 272 = .ok (.iconst (-1), 1) := by decide +kernel
theorem dX12_told_273 : decode cX12_told 273 = .ok (.ireturn, 1) := by decide +kernel
theorem dX12_isSign_0 : decode cX12_isSign 0 = .ok (.aload_n 0, 1) := by decide +kernel
theorem dX12_isSign_1 : decode cX12_isSign 1 = .ok (.iload_n 1, 1) := by decide +kernel
theorem dX12_isSign_2 : decode cX12_isSign 2 = .ok (.invokevirtual 347, 3) := by decide +kernel
theorem dX12_isSign_5 : decode cX12_isSign 5 = .ok (.ifCond .eq 21, 3) := by decide +kernel
theorem dX12_isSign_8 : decode cX12_isSign 8 = .ok (.iload_n 2, 1) := by decide +kernel
theorem dX12_isSign_9 : decode cX12_isSign 9 = .ok (.ifCond .lt 17, 3) := by decide +kernel
theorem dX12_isSign_12 : decode cX12_isSign 12 = .ok (.iload_n 2, 1) := by decide +kernel
theorem dX12_isSign_13 : decode cX12_isSign 13 = .ok (.aload_n 0, 1) := by decide +kernel
theorem dX12_isSign_14 : decode cX12_isSign 14 = .ok (.getfield 89, 3) := by decide +kernel
theorem dX12_isSign_17 : decode cX12_isSign 17 = .ok (.iload_n 1, 1) := by decide +kernel
theorem dX12_isSign_18 : decode cX12_isSign 18 = .ok (.iaload, 1) := by decide +kernel
theorem dX12_isSign_19 : decode cX12_isSign 19 = .ok (.if_icmp .ge 7, 3) := by decide +kernel
theorem dX12_isSign_22 : decode cX12_isSign 22 = .ok (.iconst 1, 1) := by decide +kernel
theorem dX12_isSign_23 : decode cX12_isSign 23 = .ok (.goto 4, 3) := by decide +kernel
theorem dX12_isSign_26 : decode cX12_isSign 26 = .ok (.iconst 0, 1) := by decide +kernel
theorem dX12_isSign_27 : decode cX12_isSign 27 = .ok (.ireturn, 1) := by decide +kernel
theorem dX12_sign_0 : decode cX12_sign 0 = .ok (.aload_n 0, 1) := by decide +kernel
theorem dX12_sign_1 : decode cX12_sign 1 = .ok (.iload_n 1, 1) := by decide +kernel
theorem dX12_sign_2 : decode cX12_sign 2 = .ok (.iload_n 2, 1) := by decide +kernel
theorem dX12_sign_3 : decode cX12_sign 3 = .ok (.invokevirtual 351, 3) := by decide +kernel
theorem dX12_sign_6 : decode cX12_sign 6 = .ok (.ifCond .eq 12, 3) := by decide +kernel
theorem dX12_sign_9 : decode cX12_sign 9 = .ok (.iload_n 3, 1) := by decide +kernel
theorem dX12_sign_10 : decode cX12_sign 10 = .ok (.iconst 0, 1) := by decide +kernel
theorem dX12_sign_11 : decode cX12_sign 11 = .ok (.iconst 4, 1) := by decide +kernel
theorem dX12_sign_12 : decode cX12_sign 12 = .ok (.invokestatic 189, 3) := by decide +kernel
theorem dX12_sign_15 : decode cX12_sign 15 = .ok (.ifCond .ne 5, 3) := by decide +kernel
theorem dX12_sign_18 : decode cX12_sign 18 = .ok (.iconst (-1), 1) := by decide +kernel
theorem dX12_sign_19 : decode cX12_sign 19 = .ok (.ireturn, 1) := by decide +kernel
theorem dX12_sign_20 : decode cX12_sign 20 = .ok (.bipush 12, 2) := by decide +kernel
theorem dX12_sign_22 : decode cX12_sign 22 = .ok (.iload_n 1, 1) := by decide +kernel
theorem dX12_sign_23 : decode cX12_sign 23 = .ok (.imul, 1) := by decide +kernel
theorem dX12_sign_24 : decode cX12_sign 24 = .ok (.iload_n 2, 1) := by decide +kernel
theorem dX12_sign_25 : decode cX12_sign 25 = .ok (.iadd, 1) := by decide +kernel
theorem dX12_sign_26 : decode cX12_sign 26 = .ok (.istore 4, 2) := by decide +kernel
theorem dX12_sign_28 : decode cX12_sign 28 = .ok (.iload_n 3, 1) := by decide +kernel
theorem dX12_sign_29 : decode cX12_sign 29 = .ok (.ifCond .ne 13, 3) := by decide +kernel
theorem dX12_sign_32 : decode cX12_sign 32 = .ok (.aload_n 0, 1) := by decide +kernel
theorem dX12_sign_33 : decode cX12_sign 33 = .ok (.getfield 92, 3) := by decide +kernel
theorem dX12_sign_36 : decode cX12_sign 36 = .ok (.iload 4, 2) := by decide +kernel
theorem dX12_sign_38 : decode cX12_sign 38 = .ok (.iaload, 1) := by decide +kernel
theorem dX12_sign_39 : decode cX12_sign 39 = .ok (.goto 55, 3) := by decide +kernel
theorem dX12_sign_42 : decode cX12_sign 42 = .ok (.iload_n 3, 1) := by decide +kernel
theorem dX12_sign_43 : decode cX12_sign 43 = .ok (.iconst 1, 1) := by decide +kernel
theorem dX12_sign_44 : decode cX12_sign 44 = .ok (.if_icmp .ne 13, 3) := by decide +kernel
theorem dX12_sign_47 : decode cX12_sign 47 = .ok (.aload_n 0, 1) := by decide +kernel
theorem dX12_sign_48 : decode cX12_sign 48 = .ok (.getfield 95, 3) := by decide +kernel
theorem dX12_sign_51 : decode cX12_sign 51 = .ok (.iload 4, 2) := by decide +kernel
theorem dX12_sign_53 : decode cX12_sign 53 = .ok (.iaload, 1) := by decide +kernel
theorem dX12_sign_54 : decode cX12_sign 54 = .ok (.goto 40, 3) := by decide +kernel
theorem dX12_sign_57 : decode cX12_sign 57 = .ok (.iload_n 3, 1) := by decide +kernel
theorem dX12_sign_58 : decode cX12_sign 58 = .ok (.iconst 2, 1) := by decide +kernel
theorem dX12_sign_59 : decode cX12_sign 59 = .ok (.if_icmp .ne 13, 3) := by decide +kernel
theorem dX12_sign_62 : decode cX12_sign 62 = .ok (.aload_n 0, 1) := by decide +kernel
theorem dX12_sign_63 : decode cX12_sign 63 = .ok (.getfield 98, 3) := by decide +kernel
theorem dX12_sign_66 : decode cX12_sign 66 = .ok (.iload 4, 2) := by decide +kernel
theorem dX12_sign_68 : decode cX12_sign 68 = .ok (.iaload, 1) := by decide +kernel
theorem dX12_sign_69 : decode cX12_sign 69 = .ok (.goto 25, 3) := by decide +kernel
theorem dX12_sign_72 : decode cX12_sign 72 = .ok (.iload_n 3, 1) := by decide +kernel
theorem dX12_sign_73 : decode cX12_sign 73 = .ok (.iconst 3, 1) := by decide +kernel
theorem dX12_sign_74 : decode cX12_sign 74 = .ok (.if_icmp .ne 13, 3) := by decide +kernel
theorem dX12_sign_77 : decode cX12_sign 77 = .ok (.aload_n 0, 1) := by decide +kernel
theorem dX12_sign_78 : decode cX12_sign 78 = .ok (.getfield 101, 3) := by decide +kernel
theorem dX12_sign_81 : decode cX12_sign 81 = .ok (.iload 4, 2) := by decide +kernel
theorem dX12_sign_83 : decode cX12_sign 83 = .ok (.iaload, 1) := by decide +kernel
theorem dX12_sign_84 : decode cX12_sign 84 = .ok (.goto 10, 3) := by decide +kernel
theorem dX12_sign_87 : decode cX12_sign 87 = .ok (.aload_n 0, 1) := by decide +kernel
theorem dX12_sign_88 : decode cX12_sign 88 = .ok (.getfield 104, 3) := by decide +kernel
theorem dX12_sign_91 : decode cX12_sign 91 = .ok (.iload 4, 2) := by decide +kernel
theorem dX12_sign_93 : decode cX12_sign 93 = .ok (.iaload, 1) := by decide +kernel
theorem dX12_sign_94 : decode cX12_sign 94 = .ok (.ireturn, 1) := by decide +kernel
theorem dX12_isLit_0 : decode cX12_isLit 0 = .ok (.iconst (-1), 1) := by decide +kernel
theorem dX12_isLit_1 : decode cX12_isLit 1 = .ok (.istore_n 3, 1) := by decide +kernel
theorem dX12_isLit_2 : decode cX12_isLit 2 = .ok (.iconst (-1), 1) := by decide +kernel
theorem dX12_isLit_3 : decode cX12_isLit 3 = .ok (.istore 4, 2) := by decide +kernel
theorem dX12_isLit_5 : decode cX12_isLit 5 = .ok (.bipush 40, 2) := by decide +kernel
theorem dX12_isLit_7 : decode cX12_isLit 7 = .ok (.aload_n 0, 1) := by decide +kernel
theorem dX12_isLit_8 : decode cX12_isLit 8 = .ok (.getfield 312, 3) := by decide +kernel
theorem dX12_isLit_11 : decode cX12_isLit 11 = .ok (.imul, 1) := by decide +kernel
theorem dX12_isLit_12 : decode cX12_isLit 12 = .ok (.istore 5, 2) := by decide +kernel
theorem dX12_isLit_14 : decode cX12_isLit 14 = .ok (.iload 5, 2) := by decide +kernel
theorem dX12_isLit_16 : decode cX12_isLit 16 = .ok (.bipush 40, 2) := by decide +kernel
theorem dX12_isLit_18 : decode cX12_isLit 18 = .ok (.aload_n 0, 1) := by decide +kernel
theorem dX12_isLit_19 : decode cX12_isLit 19 = .ok (.getfield 312, 3) := by decide +kernel
theorem dX12_isLit_22 : decode cX12_isLit 22 = .ok (.imul, 1) := by decide +kernel
theorem dX12_isLit_23 : decode cX12_isLit 23 = .ok (.aload_n 0, 1) := by decide +kernel
theorem dX12_isLit_24 : decode cX12_isLit 24 = .ok (.getfield 22, 3) := by decide +kernel
theorem dX12_isLit_27 : decode cX12_isLit 27 = .ok (.aload_n 0, 1) := by decide +kernel
theorem dX12_isLit_28 : decode cX12_isLit 28 = .ok (.getfield 312, 3) := by decide +kernel
theorem dX12_isLit_31 : decode cX12_isLit 31 = .ok (.iaload, 1) := by decide +kernel
theorem dX12_isLit_32 : decode cX12_isLit 32 = .ok (.iadd, 1) := by decide +kernel
theorem dX12_isLit_33 : decode cX12_isLit 33 = .ok (.if_icmp .ge 57, 3) := by decide +kernel
theorem dX12_isLit_36 : decode cX12_isLit 36 = .ok (.aload_n 0, 1) := by decide +kernel
theorem dX12_isLit_37 : decode cX12_isLit 37 = .ok (.getfield 74, 3) := by decide +kernel
theorem dX12_isLit_40 : decode cX12_isLit 40 = .ok (.iload 5, 2) := by decide +kernel
theorem dX12_isLit_42 : decode cX12_isLit 42 = .ok (.iaload, 1) := by decide +kernel
theorem dX12_isLit_43 : decode cX12_isLit 43 = .ok (.iload_n 1, 1) := by decide +kernel
theorem dX12_isLit_44 : decode cX12_isLit 44 = .ok (.if_icmp .eq 6, 3) := by decide +kernel
theorem dX12_isLit_47 : decode cX12_isLit 47 = .ok (.goto 37, 3) := by decide +kernel
theorem dX12_isLit_50 : decode cX12_isLit 50 = .ok (.aload_n 0, 1) := by decide +kernel
theorem dX12_isLit_51 : decode cX12_isLit 51 = .ok (.getfield 77, 3) := by decide +kernel
theorem dX12_isLit_54 : decode cX12_isLit 54 = .ok (.iload 5, 2) := by decide +kernel
theorem dX12_isLit_56 : decode cX12_isLit 56 = .ok (.iaload, 1) := by decide +kernel
theorem dX12_isLit_57 : decode cX12_isLit 57 = .ok (.iload_n 2, 1) := by decide +kernel
theorem dX12_isLit_58 : decode cX12_isLit 58 = .ok (.if_icmp .gt 6, 3) := by decide +kernel
theorem dX12_isLit_61 : decode cX12_isLit 61 = .ok (.iload 5, 2) := by decide +kernel
theorem dX12_isLit_63 : decode cX12_isLit 63 = .ok (.istore_n 3, 1) := by decide +kernel
theorem dX12_isLit_64 : decode cX12_isLit 64 = .ok (.iload 4, 2) := by decide +kernel
theorem dX12_isLit_66 : decode cX12_isLit 66 = .ok (.ifCond .ge 18, 3) := by decide +kernel
theorem dX12_isLit_69 : decode cX12_isLit 69 = .ok (.aload_n 0, 1) := by decide +kernel
theorem dX12_isLit_70 : decode cX12_isLit 70 = .ok (.getfield 77, 3) := by decide +kernel
theorem dX12_isLit_73 : decode cX12_isLit 73 = .ok (.iload 5, 2) := by decide +kernel
theorem dX12_isLit_75 : decode cX12_isLit 75 = .ok (.iaload, 1) := by decide +kernel
theorem dX12_isLit_76 : decode cX12_isLit 76 = .ok (.iload_n 2, 1) := by decide +kernel
theorem dX12_isLit_77 : decode cX12_isLit 77 = .ok (.if_icmp .lt 7, 3) := by decide +kernel
theorem dX12_isLit_80 : decode cX12_isLit 80 = .ok (.iload 5, 2) := by decide +kernel
theorem dX12_isLit_82 : decode cX12_isLit 82 = .ok (.istore 4, 2) := by decide +kernel
theorem dX12_isLit_84 : decode cX12_isLit 84 = .ok (.iinc 5 1, 3) := by decide +kernel
theorem dX12_isLit_87 : decode cX12_isLit 87 = .ok (.goto (-73), 3) := by decide +kernel
theorem dX12_isLit_90 : decode cX12_isLit 90 = .ok (.iload_n 3, 1) := by decide +kernel
theorem dX12_isLit_91 : decode cX12_isLit 91 = .ok (.ifCond .lt 8, 3) := by decide +kernel
theorem dX12_isLit_94 : decode cX12_isLit 94 = .ok (.iload 4, 2) := by decide +kernel
theorem dX12_isLit_96 : decode cX12_isLit 96 = .ok (.ifCond .ge 5, 3) := by decide +kernel
theorem dX12_isLit_99 : decode cX12_isLit 99 = .ok (.iconst 0, 1) := by decide +kernel
theorem dX12_isLit_100 : decode cX12_isLit 100 = .ok (.ireturn, 1) := by decide +kernel
theorem dX12_isLit_101 : decode cX12_isLit 101 = .ok (.aload_n 0, 1) := by decide +kernel
theorem dX12_isLit_102 : decode cX12_isLit 102 = .ok (.getfield 77, 3) := by decide +kernel
theorem dX12_isLit_105 : decode cX12_isLit 105 = .ok (.iload 4, 2) := by decide +kernel
theorem dX12_isLit_107 : decode cX12_isLit 107 = .ok (.iaload, 1) := by decide +kernel
theorem dX12_isLit_108 : decode cX12_isLit 108 = .ok (.aload_n 0, 1) := by decide +kernel
theorem dX12_isLit_109 : decode cX12_isLit 109 = .ok (.getfield 77, 3) := by decide +kernel
theorem dX12_isLit_112 : decode cX12_isLit 112 = .ok (.iload_n 3, 1) := by decide +kernel
theorem dX12_isLit_113 : decode cX12_isLit 113 = .ok (.iaload, 1) := by decide +kernel
theorem dX12_isLit_114 : decode cX12_isLit 114 = .ok (.isub, 1) := by decide +kernel
theorem dX12_isLit_115 : decode cX12_isLit 115 = .ok (.istore 5, 2) := by decide +kernel
theorem dX12_isLit_117 : decode cX12_isLit 117 = .ok (.iload_n 2, 1) := by decide +kernel
theorem dX12_isLit_118 : decode cX12_isLit 118 = .ok (.aload_n 0, 1) := by decide +kernel
theorem dX12_isLit_119 : decode cX12_isLit 119 = .ok (.getfield 77, 3) := by decide +kernel
theorem dX12_isLit_122 : decode cX12_isLit 122 = .ok (.iload_n 3, 1) := by decide +kernel
theorem dX12_isLit_123 : decode cX12_isLit 123 = .ok (.iaload, 1) := by decide +kernel
theorem dX12_isLit_124 : decode cX12_isLit 124 = .ok (.isub, 1) := by decide +kernel
theorem dX12_isLit_125 : decode cX12_isLit 125 = .ok (.istore 6, 2) := by decide +kernel
theorem dX12_isLit_127 : decode cX12_isLit 127 = .ok (.aload_n 0, 1) := by decide +kernel
theorem dX12_isLit_128 : decode cX12_isLit 128 = .ok (.iload 5, 2) := by decide +kernel
theorem dX12_isLit_130 : decode cX12_isLit 130 = .ok (.ifCond .ne 7, 3) := by decide +kernel
theorem dX12_isLit_133 : decode cX12_isLit 133 = .ok (.iconst 1, 1) := by decide +kernel
theorem dX12_isLit_134 : decode cX12_isLit 134 = .ok (.goto 5, 3) := by decide +kernel
theorem dX12_isLit_137 : decode cX12_isLit 137 = .ok (.iload 5, 2) := by decide +kernel
theorem dX12_isLit_139 : decode cX12_isLit 139 = .ok (.putfield 355, 3) := by decide +kernel
theorem dX12_isLit_142 : decode cX12_isLit 142 = .ok (.aload_n 0, 1) := by decide +kernel
theorem dX12_isLit_143 : decode cX12_isLit 143 = .ok (.aload_n 0, 1) := by decide +kernel
theorem dX12_isLit_144 : decode cX12_isLit 144 = .ok (.getfield 80, 3) := by decide +kernel
theorem dX12_isLit_147 : decode cX12_isLit 147 = .ok (.iload_n 3, 1) := by decide +kernel
theorem dX12_isLit_148 : decode cX12_isLit 148 = .ok (.iaload, 1) := by decide +kernel
theorem dX12_isLit_149 : decode cX12_isLit 149 = .ok (.aload_n 0, 1) := by decide +kernel
theorem dX12_isLit_150 : decode cX12_isLit 150 = .ok (.getfield 355, 3) := by decide +kernel
theorem dX12_isLit_153 : decode cX12_isLit 153 = .ok (.imul, 1) := by decide +kernel
theorem dX12_isLit_154 : decode cX12_isLit 154 = .ok (.aload_n 0, 1) := by decide +kernel
theorem dX12_isLit_155 : decode cX12_isLit 155 = .ok (.getfield 80, 3) := by decide +kernel
theorem dX12_isLit_158 : decode cX12_isLit 158 = .ok (.iload 4, 2) := by decide +kernel
theorem dX12_isLit_160 : decode cX12_isLit 160 = .ok (.iaload, 1) := by decide +kernel
theorem dX12_isLit_161 : decode cX12_isLit 161 = .ok (.aload_n 0, 1) := by decide +kernel
theorem dX12_isLit_162 : decode cX12_isLit 162 = .ok (.getfield 80, 3) := by decide +kernel
theorem dX12_isLit_165 : decode cX12_isLit 165 = .ok (.iload_n 3, 1) := by decide +kernel
theorem dX12_isLit_166 : decode cX12_isLit 166 = .ok (.iaload, 1) := by decide +kernel
theorem dX12_isLit_167 : decode cX12_isLit 167 = .ok (.isub, 1) := by decide +kernel
theorem dX12_isLit_168 : decode cX12_isLit 168 = .ok (.iload 6, 2) := by decide +kernel
theorem dX12_isLit_170 : decode cX12_isLit 170 = .ok (.imul, 1) := by decide +kernel
theorem dX12_isLit_171 : decode cX12_isLit 171 = .ok (.iadd, 1) := by decide +kernel
theorem dX12_isLit_172 : decode cX12_isLit 172 = .ok (.putfield 358, 3) := by decide +kernel
theorem dX12_isLit_175 : decode cX12_isLit 175 = .ok (.aload_n 0, 1) := by decide +kernel
theorem dX12_isLit_176 : decode cX12_isLit 176 = .ok (.aload_n 0, 1) := by decide +kernel
theorem dX12_isLit_177 : decode cX12_isLit 177 = .ok (.getfield 83, 3) := by decide +kernel
theorem dX12_isLit_180 : decode cX12_isLit 180 = .ok (.iload_n 3, 1) := by decide +kernel
theorem dX12_isLit_181 : decode cX12_isLit 181 = .ok (.iaload, 1) := by decide +kernel
theorem dX12_isLit_182 : decode cX12_isLit 182 = .ok (.aload_n 0, 1) := by decide +kernel
theorem dX12_isLit_183 : decode cX12_isLit 183 = .ok (.getfield 355, 3) := by decide +kernel
theorem dX12_isLit_186 : decode cX12_isLit 186 = .ok (.imul, 1) := by decide +kernel
theorem dX12_isLit_187 : decode cX12_isLit 187 = .ok (.aload_n 0, 1) := by decide +kernel
theorem dX12_isLit_188 : decode cX12_isLit 188 = .ok (.getfield 83, 3) := by decide +kernel
theorem dX12_isLit_191 : decode cX12_isLit 191 = .ok (.iload 4, 2) := by decide +kernel
theorem dX12_isLit_193 : decode cX12_isLit 193 = .ok (.iaload, 1) := by decide +kernel
theorem dX12_isLit_194 : decode cX12_isLit 194 = .ok (.aload_n 0, 1) := by decide +kernel
theorem dX12_isLit_195 : decode cX12_isLit 195 = .ok (.getfield 83, 3) := by decide +kernel
theorem dX12_isLit_198 : decode cX12_isLit 198 = .ok (.iload_n 3, 1) := by decide +kernel
theorem dX12_isLit_199 : decode cX12_isLit 199 = .ok (.iaload, 1) := by decide +kernel
theorem dX12_isLit_200 : decode cX12_isLit 200 = .ok (.isub, 1) := by decide +kernel
theorem dX12_isLit_201 : decode cX12_isLit 201 = .ok (.iload 6, 2) := by decide +kernel
theorem dX12_isLit_203 : decode cX12_isLit 203 = .ok (.imul, 1) := by decide +kernel
theorem dX12_isLit_204 : decode cX12_isLit 204 = .ok (.iadd, 1) := by decide +kernel
theorem dX12_isLit_205 : decode cX12_isLit 205 = .ok (.putfield 361, 3) := by decide +kernel
theorem dX12_isLit_208 : decode cX12_isLit 208 = .ok (.iconst 1, 1) := by decide +kernel
theorem dX12_isLit_209 : decode cX12_isLit 209 = .ok (.ireturn, 1) := by decide +kernel
theorem dX12_hasRows_0 : decode cX12_hasRows 0 = .ok (.bipush 40, 2) := by decide +kernel
theorem dX12_hasRows_2 : decode cX12_hasRows 2 = .ok (.aload_n 0, 1) := by decide +kernel
theorem dX12_hasRows_3 : decode cX12_hasRows 3 = .ok (.getfield 312, 3) := by decide +kernel
theorem dX12_hasRows_6 : decode cX12_hasRows 6 = .ok (.imul, 1) := by decide +kernel
theorem dX12_hasRows_7 : decode cX12_hasRows 7 = .ok (.istore_n 2, 1) := by decide +kernel
theorem dX12_hasRows_8 : decode cX12_hasRows 8 = .ok (.iload_n 2, 1) := by decide +kernel
theorem dX12_hasRows_9 : decode cX12_hasRows 9 = .ok (.bipush 40, 2) := by decide +kernel
theorem dX12_hasRows_11 : decode cX12_hasRows 11 = .ok (.aload_n 0, 1) := by decide +kernel
theorem dX12_hasRows_12 : decode cX12_hasRows 12 = .ok (.getfield 312, 3) := by decide +kernel
theorem dX12_hasRows_15 : decode cX12_hasRows 15 = .ok (.imul, 1) := by decide +kernel
theorem dX12_hasRows_16 : decode cX12_hasRows 16 = .ok (.aload_n 0, 1) := by decide +kernel
theorem dX12_hasRows_17 : decode cX12_hasRows 17 = .ok (.getfield 22, 3) := by decide +kernel
theorem dX12_hasRows_20 : decode cX12_hasRows 20 = .ok (.aload_n 0, 1) := by decide +kernel
theorem dX12_hasRows_21 : decode cX12_hasRows 21 = .ok (.getfield 312, 3) := by decide +kernel
theorem dX12_hasRows_24 : decode cX12_hasRows 24 = .ok (.iaload, 1) := by decide +kernel
theorem dX12_hasRows_25 : decode cX12_hasRows 25 = .ok (.iadd, 1) := by decide +kernel
theorem dX12_hasRows_26 : decode cX12_hasRows 26 = .ok (.if_icmp .ge 21, 3) := by decide +kernel
theorem dX12_hasRows_29 : decode cX12_hasRows 29 = .ok (.aload_n 0, 1) := by decide +kernel
theorem dX12_hasRows_30 : decode cX12_hasRows 30 = .ok (.getfield 74, 3) := by decide +kernel
theorem dX12_hasRows_33 : decode cX12_hasRows 33 = .ok (.iload_n 2, 1) := by decide +kernel
theorem dX12_hasRows_34 : decode cX12_hasRows 34 = .ok (.iaload, 1) := by decide +kernel
theorem dX12_hasRows_35 : decode cX12_hasRows 35 = .ok (.iload_n 1, 1) := by decide +kernel
theorem dX12_hasRows_36 : decode cX12_hasRows 36 = .ok (.if_icmp .ne 5, 3) := by decide +kernel
theorem dX12_hasRows_39 : decode cX12_hasRows 39 = .ok (.iconst 1, 1) := by decide +kernel
theorem dX12_hasRows_40 : decode cX12_hasRows 40 = .ok (.ireturn, 1) := by decide +kernel
theorem dX12_hasRows_41 : decode cX12_hasRows 41 = .ok (.iinc 2 1, 3) := by decide +kernel
theorem dX12_hasRows_44 : decode cX12_hasRows 44 = .ok (.goto (-36), 3) := by decide +kernel
theorem dX12_hasRows_47 : decode cX12_hasRows 47 = .ok (.iconst 0, 1) := by decide +kernel
theorem dX12_hasRows_48 : decode cX12_hasRows 48 = .ok (.ireturn, 1) := by decide +kernel
theorem dX12_divisor_0 : decode cX12_divisor 0 = .ok (.lload_n 0, 1) := by decide +kernel
theorem dX12_divisor_1 : decode cX12_divisor 1 = .ok (.lconst 0, 1) := by decide +kernel
theorem dX12_divisor_2 : decode cX12_divisor 2 = .ok (.lcmp, 1) := by decide +kernel
theorem dX12_divisor_3 : decode cX12_divisor 3 = .ok (.ifCond .ge 8, 3) := by decide +kernel
theorem dX12_divisor_6 : decode cX12_divisor 6 = .ok (.lload_n 0, 1) := by decide +kernel
theorem dX12_divisor_7 : decode cX12_divisor 7 = .ok (.lneg, 1) := by decide +kernel
theorem dX12_divisor_8 : decode cX12_divisor 8 = .ok (.goto 4, 3) := by decide +kernel
theorem dX12_divisor_11 : decode cX12_divisor 11 = .ok (.lload_n 0, 1) := by decide +kernel
theorem dX12_divisor_12 : decode cX12_divisor 12 = .ok (.lstore 4, 2) := by decide +kernel
theorem dX12_divisor_14 : decode cX12_divisor 14 = .ok (.lload_n 2, 1) := by decide +kernel
theorem dX12_divisor_15 : decode cX12_divisor 15 = .ok (.lconst 0, 1) := by decide +kernel
theorem dX12_divisor_16 : decode cX12_divisor 16 = .ok (.lcmp, 1) := by decide +kernel
theorem dX12_divisor_17 : decode cX12_divisor 17 = .ok (.ifCond .ge 8, 3) := by decide +kernel
theorem dX12_divisor_20 : decode cX12_divisor 20 = .ok (.lload_n 2, 1) := by decide +kernel
theorem dX12_divisor_21 : decode cX12_divisor 21 = .ok (.lneg, 1) := by decide +kernel
theorem dX12_divisor_22 : decode cX12_divisor 22 = .ok (.goto 4, 3) := by decide +kernel
theorem dX12_divisor_25 : decode cX12_divisor 25 = .ok (.lload_n 2, 1) := by decide +kernel
theorem dX12_divisor_26 : decode cX12_divisor 26 = .ok (.lstore 6, 2) := by decide +kernel
theorem dX12_divisor_28 : decode cX12_divisor 28 = .ok (.lload 6, 2) := by decide +kernel
theorem dX12_divisor_30 : decode cX12_divisor 30 = .ok (.lconst 0, 1) := by decide +kernel
theorem dX12_divisor_31 : decode cX12_divisor 31 = .ok (.lcmp, 1) := by decide +kernel
theorem dX12_divisor_32 : decode cX12_divisor 32 = .ok (.ifCond .le 21, 3) := by decide +kernel
theorem dX12_divisor_35 : decode cX12_divisor 35 = .ok (.lload 4, 2) := by decide +kernel
theorem dX12_divisor_37 : decode cX12_divisor 37 = .ok (.lload 6, 2) := by decide +kernel
theorem dX12_divisor_39 : decode cX12_divisor 39 = .ok (.lrem, 1) := by decide +kernel
theorem dX12_divisor_40 : decode cX12_divisor 40 = .ok (.lstore 8, 2) := by decide +kernel
theorem dX12_divisor_42 : decode cX12_divisor 42 = .ok (.lload 6, 2) := by decide +kernel
theorem dX12_divisor_44 : decode cX12_divisor 44 = .ok (.lstore 4, 2) := by decide +kernel
theorem dX12_divisor_46 : decode cX12_divisor 46 = .ok (.lload 8, 2) := by decide +kernel
theorem dX12_divisor_48 : decode cX12_divisor 48 = .ok (.lstore 6, 2) := by decide +kernel
theorem dX12_divisor_50 : decode cX12_divisor 50 = .ok (.goto (-22), 3) := by decide +kernel
theorem dX12_divisor_53 : decode cX12_divisor 53 = .ok (.lload 4, 2) := by decide +kernel
theorem dX12_divisor_55 : decode cX12_divisor 55 = .ok (.lreturn, 1) := by decide +kernel
theorem dX12_shadow_0 : decode cX12_shadow 0 = .ok (.iload_n 1, 1) := by decide +kernel
theorem dX12_shadow_1 : decode cX12_shadow 1 = .ok (.iconst 0, 1) := by decide +kernel
theorem dX12_shadow_2 : decode cX12_shadow 2 = .ok (.aload_n 0, 1) := by decide +kernel
theorem dX12_shadow_3 : decode cX12_shadow 3 = .ok (.getfield 16, 3) := by decide +kernel
theorem dX12_shadow_6 : decode cX12_shadow 6 = .ok (.aload_n 0, 1) := by decide +kernel
theorem dX12_shadow_7 : decode cX12_shadow 7 = .ok (.getfield 312, 3) := by decide +kernel
theorem dX12_shadow_10 : decode cX12_shadow 10 = .ok (.iaload, 1) := by decide +kernel
theorem dX12_shadow_11 : decode cX12_shadow 11 = .ok (.iconst 1, 1) := by decide +kernel
theorem dX12_shadow_12 : decode cX12_shadow 12 = .ok (.isub, 1) := by decide +kernel
theorem dX12_shadow_13 : decode cX12_shadow 13 = .ok (.invokestatic 189, 3) := by decide +kernel
theorem dX12_shadow_16 : decode cX12_shadow 16 = .ok (.ifCond .eq 43, 3) := by decide +kernel
theorem dX12_shadow_19 : decode cX12_shadow 19 = .ok (.iload_n 2, 1) := by decide +kernel
theorem dX12_shadow_20 : decode cX12_shadow 20 = .ok (.iconst 0, 1) := by decide +kernel
theorem dX12_shadow_21 : decode cX12_shadow 21 = .ok (.bipush 11, 2) := by decide +kernel
theorem dX12_shadow_23 : decode cX12_shadow 23 = .ok (.invokestatic 189, 3) := by decide +kernel
theorem dX12_shadow_26 : decode cX12_shadow 26 = .ok (.ifCond .eq 33, 3) := by decide +kernel
theorem dX12_shadow_29 : decode cX12_shadow 29 = .ok (.iload_n 3, 1) := by decide +kernel
theorem dX12_shadow_30 : decode cX12_shadow 30 = .ok (.iconst 0, 1) := by decide +kernel
theorem dX12_shadow_31 : decode cX12_shadow 31 = .ok (.sipush 719, 3) := by decide +kernel
theorem dX12_shadow_34 : decode cX12_shadow 34 = .ok (.invokestatic 189, 3) := by decide +kernel
theorem dX12_shadow_37 : decode cX12_shadow 37 = .ok (.ifCond .eq 22, 3) := by decide +kernel
theorem dX12_shadow_40 : decode cX12_shadow 40 = .ok (.iload 4, 2) := by decide +kernel
theorem dX12_shadow_42 : decode cX12_shadow 42 = .ok (.iconst 0, 1) := by decide +kernel
theorem dX12_shadow_43 : decode cX12_shadow 43 = .ok (.iconst 3, 1) := by decide +kernel
theorem dX12_shadow_44 : decode cX12_shadow 44 = .ok (.invokestatic 189, 3) := by decide +kernel
theorem dX12_shadow_47 : decode cX12_shadow 47 = .ok (.ifCond .eq 12, 3) := by decide +kernel
theorem dX12_shadow_50 : decode cX12_shadow 50 = .ok (.aload_n 0, 1) := by decide +kernel
theorem dX12_shadow_51 : decode cX12_shadow 51 = .ok (.iload_n 2, 1) := by decide +kernel
theorem dX12_shadow_52 : decode cX12_shadow 52 = .ok (.iload_n 3, 1) := by decide +kernel
theorem dX12_shadow_53 : decode cX12_shadow 53 = .ok (.invokevirtual 364, 3) := by decide +kernel
theorem dX12_shadow_56 : decode cX12_shadow 56 = .ok (.ifCond .ne 7, 3) := by decide +kernel
theorem dX12_shadow_59 : decode cX12_shadow 59 = .ok (.ldc_w 367, 3) := by decide +kernel
theorem dX12_shadow_62 : decode cX12_shadow 62 = .ok (.ireturn, 1) := by decide +kernel
theorem dX12_shadow_63 : decode cX12_shadow 63 = .ok (.bipush 10, 2) := by decide +kernel
theorem dX12_shadow_65 : decode cX12_shadow 65 = .ok (.aload_n 0, 1) := by decide +kernel
theorem dX12_shadow_66 : decode cX12_shadow 66 = .ok (.getfield 312, 3) := by decide +kernel
theorem dX12_shadow_69 : decode cX12_shadow 69 = .ok (.imul, 1) := by decide +kernel
theorem dX12_shadow_70 : decode cX12_shadow 70 = .ok (.iload_n 1, 1) := by decide +kernel
theorem dX12_shadow_71 : decode cX12_shadow 71 = .ok (.iadd, 1) := by decide +kernel
theorem dX12_shadow_72 : decode cX12_shadow 72 = .ok (.istore 5, 2) := by decide +kernel
theorem dX12_shadow_74 : decode cX12_shadow 74 = .ok (.ldc2_w 368, 3) := by decide +kernel
theorem dX12_shadow_77 : decode cX12_shadow 77 = .ok (.aload_n 0, 1) := by decide +kernel
theorem dX12_shadow_78 : decode cX12_shadow 78 = .ok (.getfield 355, 3) := by decide +kernel
theorem dX12_shadow_81 : decode cX12_shadow 81 = .ok (.i2l, 1) := by decide +kernel
theorem dX12_shadow_82 : decode cX12_shadow 82 = .ok (.lmul, 1) := by decide +kernel
theorem dX12_shadow_83 : decode cX12_shadow 83 = .ok (.lstore 6, 2) := by decide +kernel
theorem dX12_shadow_85 : decode cX12_shadow 85 = .ok (.iload 4, 2) := by decide +kernel
theorem dX12_shadow_87 : decode cX12_shadow 87 = .ok (.iconst 2, 1) := by decide +kernel
theorem dX12_shadow_88 : decode cX12_shadow 88 = .ok (.if_icmp .ge 32, 3) := by decide +kernel
theorem dX12_shadow_91 : decode cX12_shadow 91 = .ok (.aload_n 0, 1) := by decide +kernel
theorem dX12_shadow_92 : decode cX12_shadow 92 = .ok (.getfield 59, 3) := by decide +kernel
theorem dX12_shadow_95 : decode cX12_shadow 95 = .ok (.iload 5, 2) := by decide +kernel
theorem dX12_shadow_97 : decode cX12_shadow 97 = .ok (.iaload, 1) := by decide +kernel
theorem dX12_shadow_98 : decode cX12_shadow 98 = .ok (.i2l, 1) := by decide +kernel
theorem dX12_shadow_99 : decode cX12_shadow 99 = .ok (.lload 6, 2) := by decide +kernel
theorem dX12_shadow_101 : decode cX12_shadow 101 = .ok (.lmul, 1) := by decide +kernel
theorem dX12_shadow_102 : decode cX12_shadow 102 = .ok (.aload_n 0, 1) := by decide +kernel
theorem dX12_shadow_103 : decode cX12_shadow 103 = .ok (.getfield 65, 3) := by decide +kernel
theorem dX12_shadow_106 : decode cX12_shadow 106 = .ok (.iload 5, 2) := by decide +kernel
theorem dX12_shadow_108 : decode cX12_shadow 108 = .ok (.iaload, 1) := by decide +kernel
theorem dX12_shadow_109 : decode cX12_shadow 109 = .ok (.i2l, 1) := by decide +kernel
theorem dX12_shadow_110 : decode cX12_shadow 110 = .ok (.aload_n 0, 1) := by decide +kernel
theorem dX12_shadow_111 : decode cX12_shadow 111 = .ok (.getfield 358, 3) := by decide +kernel
theorem dX12_shadow_114 : decode cX12_shadow 114 = .ok (.i2l, 1) := by decide +kernel
theorem dX12_shadow_115 : decode cX12_shadow 115 = .ok (.lmul, 1) := by decide +kernel
theorem dX12_shadow_116 : decode cX12_shadow 116 = .ok (.ladd, 1) := by decide +kernel
theorem dX12_shadow_117 : decode cX12_shadow 117 = .ok (.goto 29, 3) := by decide +kernel
theorem dX12_shadow_120 : decode cX12_shadow 120 = .ok (.aload_n 0, 1) := by decide +kernel
theorem dX12_shadow_121 : decode cX12_shadow 121 = .ok (.getfield 62, 3) := by decide +kernel
theorem dX12_shadow_124 : decode cX12_shadow 124 = .ok (.iload 5, 2) := by decide +kernel
theorem dX12_shadow_126 : decode cX12_shadow 126 = .ok (.iaload, 1) := by decide +kernel
theorem dX12_shadow_127 : decode cX12_shadow 127 = .ok (.i2l, 1) := by decide +kernel
theorem dX12_shadow_128 : decode cX12_shadow 128 = .ok (.lload 6, 2) := by decide +kernel
theorem dX12_shadow_130 : decode cX12_shadow 130 = .ok (.lmul, 1) := by decide +kernel
theorem dX12_shadow_131 : decode cX12_shadow 131 = .ok (.aload_n 0, 1) := by decide +kernel
theorem dX12_shadow_132 : decode cX12_shadow 132 = .ok (.getfield 65, 3) := by decide +kernel
theorem dX12_shadow_135 : decode cX12_shadow 135 = .ok (.iload 5, 2) := by decide +kernel
theorem dX12_shadow_137 : decode cX12_shadow 137 = .ok (.iaload, 1) := by decide +kernel
theorem dX12_shadow_138 : decode cX12_shadow 138 = .ok (.i2l, 1) := by decide +kernel
theorem dX12_shadow_139 : decode cX12_shadow 139 = .ok (.aload_n 0, 1) := by decide +kernel
theorem dX12_shadow_140 : decode cX12_shadow 140 = .ok (.getfield 361, 3) := by decide +kernel
theorem dX12_shadow_143 : decode cX12_shadow 143 = .ok (.i2l, 1) := by decide +kernel
theorem dX12_shadow_144 : decode cX12_shadow 144 = .ok (.lmul, 1) := by decide +kernel
theorem dX12_shadow_145 : decode cX12_shadow 145 = .ok (.ladd, 1) := by decide +kernel
theorem dX12_shadow_146 : decode cX12_shadow 146 = .ok (.lstore 8, 2) := by decide +kernel
theorem dX12_shadow_148 : decode cX12_shadow 148 = .ok (.lload 8, 2) := by decide +kernel
theorem dX12_shadow_150 : decode cX12_shadow 150 = .ok (.lload 6, 2) := by decide +kernel
theorem dX12_shadow_152 : decode cX12_shadow 152 = .ok (.invokestatic 370, 3) := by decide +kernel
theorem dX12_shadow_155 : decode cX12_shadow 155 = .ok (.lstore 10, 2) := by decide +kernel
theorem dX12_shadow_157 : decode cX12_shadow 157 = .ok (.iload 4, 2) := by decide +kernel
theorem dX12_shadow_159 : decode cX12_shadow 159 = .ok (.iconst 2, 1) := by decide +kernel
theorem dX12_shadow_160 : decode cX12_shadow 160 = .ok (.irem, 1) := by decide +kernel
theorem dX12_shadow_161 : decode cX12_shadow 161 = .ok (.ifCond .ne 11, 3) := by decide +kernel
theorem dX12_shadow_164 : decode cX12_shadow 164 = .ok (.lload 8, 2) := by decide +kernel
theorem dX12_shadow_166 : decode cX12_shadow 166 = .ok (.lload 10, 2) := by decide +kernel
theorem dX12_shadow_168 : decode cX12_shadow 168 = .ok (.ldiv, 1) := by decide +kernel
theorem dX12_shadow_169 : decode cX12_shadow 169 = .ok (.goto 8, 3) := by decide +kernel
theorem dX12_shadow_172 : decode cX12_shadow 172 = .ok (.lload 6, 2) := by decide +kernel
theorem dX12_shadow_174 : decode cX12_shadow 174 = .ok (.lload 10, 2) := by decide +kernel
theorem dX12_shadow_176 : decode cX12_shadow 176 = .ok (.ldiv, 1) := by decide +kernel
theorem dX12_shadow_177 : decode cX12_shadow 177 = .ok (.l2i, 1) := by decide +kernel
theorem dX12_shadow_178 : decode cX12_shadow 178 = .ok (.ireturn, 1) := by decide +kernel
theorem dX12_isNear_0 : decode cX12_isNear 0 = .ok (.bipush 10, 2) := by decide +kernel
theorem dX12_isNear_2 : decode cX12_isNear 2 = .ok (.aload_n 0, 1) := by decide +kernel
theorem dX12_isNear_3 : decode cX12_isNear 3 = .ok (.getfield 312, 3) := by decide +kernel
theorem dX12_isNear_6 : decode cX12_isNear 6 = .ok (.imul, 1) := by decide +kernel
theorem dX12_isNear_7 : decode cX12_isNear 7 = .ok (.aload_n 0, 1) := by decide +kernel
theorem dX12_isNear_8 : decode cX12_isNear 8 = .ok (.getfield 95, 3) := by decide +kernel
theorem dX12_isNear_11 : decode cX12_isNear 11 = .ok (.iload_n 1, 1) := by decide +kernel
theorem dX12_isNear_12 : decode cX12_isNear 12 = .ok (.iaload, 1) := by decide +kernel
theorem dX12_isNear_13 : decode cX12_isNear 13 = .ok (.iadd, 1) := by decide +kernel
theorem dX12_isNear_14 : decode cX12_isNear 14 = .ok (.istore_n 2, 1) := by decide +kernel
theorem dX12_isNear_15 : decode cX12_isNear 15 = .ok (.aload_n 0, 1) := by decide +kernel
theorem dX12_isNear_16 : decode cX12_isNear 16 = .ok (.getfield 59, 3) := by decide +kernel
theorem dX12_isNear_19 : decode cX12_isNear 19 = .ok (.iload_n 2, 1) := by decide +kernel
theorem dX12_isNear_20 : decode cX12_isNear 20 = .ok (.iaload, 1) := by decide +kernel
theorem dX12_isNear_21 : decode cX12_isNear 21 = .ok (.aload_n 0, 1) := by decide +kernel
theorem dX12_isNear_22 : decode cX12_isNear 22 = .ok (.getfield 98, 3) := by decide +kernel
theorem dX12_isNear_25 : decode cX12_isNear 25 = .ok (.iload_n 1, 1) := by decide +kernel
theorem dX12_isNear_26 : decode cX12_isNear 26 = .ok (.iaload, 1) := by decide +kernel
theorem dX12_isNear_27 : decode cX12_isNear 27 = .ok (.isub, 1) := by decide +kernel
theorem dX12_isNear_28 : decode cX12_isNear 28 = .ok (.bipush 10, 2) := by decide +kernel
theorem dX12_isNear_30 : decode cX12_isNear 30 = .ok (.imul, 1) := by decide +kernel
theorem dX12_isNear_31 : decode cX12_isNear 31 = .ok (.aload_n 0, 1) := by decide +kernel
theorem dX12_isNear_32 : decode cX12_isNear 32 = .ok (.getfield 355, 3) := by decide +kernel
theorem dX12_isNear_35 : decode cX12_isNear 35 = .ok (.imul, 1) := by decide +kernel
theorem dX12_isNear_36 : decode cX12_isNear 36 = .ok (.aload_n 0, 1) := by decide +kernel
theorem dX12_isNear_37 : decode cX12_isNear 37 = .ok (.getfield 65, 3) := by decide +kernel
theorem dX12_isNear_40 : decode cX12_isNear 40 = .ok (.iload_n 2, 1) := by decide +kernel
theorem dX12_isNear_41 : decode cX12_isNear 41 = .ok (.iaload, 1) := by decide +kernel
theorem dX12_isNear_42 : decode cX12_isNear 42 = .ok (.aload_n 0, 1) := by decide +kernel
theorem dX12_isNear_43 : decode cX12_isNear 43 = .ok (.getfield 358, 3) := by decide +kernel
theorem dX12_isNear_46 : decode cX12_isNear 46 = .ok (.imul, 1) := by decide +kernel
theorem dX12_isNear_47 : decode cX12_isNear 47 = .ok (.iadd, 1) := by decide +kernel
theorem dX12_isNear_48 : decode cX12_isNear 48 = .ok (.istore_n 3, 1) := by decide +kernel
theorem dX12_isNear_49 : decode cX12_isNear 49 = .ok (.aload_n 0, 1) := by decide +kernel
theorem dX12_isNear_50 : decode cX12_isNear 50 = .ok (.getfield 62, 3) := by decide +kernel
theorem dX12_isNear_53 : decode cX12_isNear 53 = .ok (.iload_n 2, 1) := by decide +kernel
theorem dX12_isNear_54 : decode cX12_isNear 54 = .ok (.iaload, 1) := by decide +kernel
theorem dX12_isNear_55 : decode cX12_isNear 55 = .ok (.aload_n 0, 1) := by decide +kernel
theorem dX12_isNear_56 : decode cX12_isNear 56 = .ok (.getfield 101, 3) := by decide +kernel
theorem dX12_isNear_59 : decode cX12_isNear 59 = .ok (.iload_n 1, 1) := by decide +kernel
theorem dX12_isNear_60 : decode cX12_isNear 60 = .ok (.iaload, 1) := by decide +kernel
theorem dX12_isNear_61 : decode cX12_isNear 61 = .ok (.isub, 1) := by decide +kernel
theorem dX12_isNear_62 : decode cX12_isNear 62 = .ok (.bipush 10, 2) := by decide +kernel
theorem dX12_isNear_64 : decode cX12_isNear 64 = .ok (.imul, 1) := by decide +kernel
theorem dX12_isNear_65 : decode cX12_isNear 65 = .ok (.aload_n 0, 1) := by decide +kernel
theorem dX12_isNear_66 : decode cX12_isNear 66 = .ok (.getfield 355, 3) := by decide +kernel
theorem dX12_isNear_69 : decode cX12_isNear 69 = .ok (.imul, 1) := by decide +kernel
theorem dX12_isNear_70 : decode cX12_isNear 70 = .ok (.aload_n 0, 1) := by decide +kernel
theorem dX12_isNear_71 : decode cX12_isNear 71 = .ok (.getfield 65, 3) := by decide +kernel
theorem dX12_isNear_74 : decode cX12_isNear 74 = .ok (.iload_n 2, 1) := by decide +kernel
theorem dX12_isNear_75 : decode cX12_isNear 75 = .ok (.iaload, 1) := by decide +kernel
theorem dX12_isNear_76 : decode cX12_isNear 76 = .ok (.aload_n 0, 1) := by decide +kernel
theorem dX12_isNear_77 : decode cX12_isNear 77 = .ok (.getfield 361, 3) := by decide +kernel
theorem dX12_isNear_80 : decode cX12_isNear 80 = .ok (.imul, 1) := by decide +kernel
theorem dX12_isNear_81 : decode cX12_isNear 81 = .ok (.iadd, 1) := by decide +kernel
theorem dX12_isNear_82 : decode cX12_isNear 82 = .ok (.istore 4, 2) := by decide +kernel
theorem dX12_isNear_84 : decode cX12_isNear 84 = .ok (.aload_n 0, 1) := by decide +kernel
theorem dX12_isNear_85 : decode cX12_isNear 85 = .ok (.getfield 104, 3) := by decide +kernel
theorem dX12_isNear_88 : decode cX12_isNear 88 = .ok (.iload_n 1, 1) := by decide +kernel
theorem dX12_isNear_89 : decode cX12_isNear 89 = .ok (.iaload, 1) := by decide +kernel
theorem dX12_isNear_90 : decode cX12_isNear 90 = .ok (.bipush 10, 2) := by decide +kernel
theorem dX12_isNear_92 : decode cX12_isNear 92 = .ok (.imul, 1) := by decide +kernel
theorem dX12_isNear_93 : decode cX12_isNear 93 = .ok (.aload_n 0, 1) := by decide +kernel
theorem dX12_isNear_94 : decode cX12_isNear 94 = .ok (.getfield 355, 3) := by decide +kernel
theorem dX12_isNear_97 : decode cX12_isNear 97 = .ok (.imul, 1) := by decide +kernel
theorem dX12_isNear_98 : decode cX12_isNear 98 = .ok (.istore 5, 2) := by decide +kernel
theorem dX12_isNear_100 : decode cX12_isNear 100 = .ok (.iload_n 3, 1) := by decide +kernel
theorem dX12_isNear_101 : decode cX12_isNear 101 = .ok (.iload 5, 2) := by decide +kernel
theorem dX12_isNear_103 : decode cX12_isNear 103 = .ok (.if_icmp .gt 29, 3) := by decide +kernel
theorem dX12_isNear_106 : decode cX12_isNear 106 = .ok (.iload_n 3, 1) := by decide +kernel
theorem dX12_isNear_107 : decode cX12_isNear 107 = .ok (.ineg, 1) := by decide +kernel
theorem dX12_isNear_108 : decode cX12_isNear 108 = .ok (.iload 5, 2) := by decide +kernel
theorem dX12_isNear_110 : decode cX12_isNear 110 = .ok (.if_icmp .gt 22, 3) := by decide +kernel
theorem dX12_isNear_113 : decode cX12_isNear 113 = .ok (.iload 4, 2) := by decide +kernel
theorem dX12_isNear_115 : decode cX12_isNear 115 = .ok (.iload 5, 2) := by decide +kernel
theorem dX12_isNear_117 : decode cX12_isNear 117 = .ok (.if_icmp .gt 15, 3) := by decide +kernel
theorem dX12_isNear_120 : decode cX12_isNear 120 = .ok (.iload 4, 2) := by decide +kernel
theorem dX12_isNear_122 : decode cX12_isNear 122 = .ok (.ineg, 1) := by decide +kernel
theorem dX12_isNear_123 : decode cX12_isNear 123 = .ok (.iload 5, 2) := by decide +kernel
theorem dX12_isNear_125 : decode cX12_isNear 125 = .ok (.if_icmp .gt 7, 3) := by decide +kernel
theorem dX12_isNear_128 : decode cX12_isNear 128 = .ok (.iconst 1, 1) := by decide +kernel
theorem dX12_isNear_129 : decode cX12_isNear 129 = .ok (.goto 4, 3) := by decide +kernel
theorem dX12_isNear_132 : decode cX12_isNear 132 = .ok (.iconst 0, 1) := by decide +kernel
theorem dX12_isNear_133 : decode cX12_isNear 133 = .ok (.ireturn, 1) := by decide +kernel
theorem dX12_standsOn_0 : decode cX12_standsOn 0 = .ok (.bipush 12, 2) := by decide +kernel
theorem dX12_standsOn_2 : decode cX12_standsOn 2 = .ok (.aload_n 0, 1) := by decide +kernel
theorem dX12_standsOn_3 : decode cX12_standsOn 3 = .ok (.getfield 312, 3) := by decide +kernel
theorem dX12_standsOn_6 : decode cX12_standsOn 6 = .ok (.imul, 1) := by decide +kernel
theorem dX12_standsOn_7 : decode cX12_standsOn 7 = .ok (.iload_n 1, 1) := by decide +kernel
theorem dX12_standsOn_8 : decode cX12_standsOn 8 = .ok (.iadd, 1) := by decide +kernel
theorem dX12_standsOn_9 : decode cX12_standsOn 9 = .ok (.istore_n 3, 1) := by decide +kernel
theorem dX12_standsOn_10 : decode cX12_standsOn 10 = .ok (.iload_n 1, 1) := by decide +kernel
theorem dX12_standsOn_11 : decode cX12_standsOn 11 = .ok (.aload_n 0, 1) := by decide +kernel
theorem dX12_standsOn_12 : decode cX12_standsOn 12 = .ok (.getfield 118, 3) := by decide +kernel
theorem dX12_standsOn_15 : decode cX12_standsOn 15 = .ok (.if_icmp .ne 10, 3) := by decide +kernel
theorem dX12_standsOn_18 : decode cX12_standsOn 18 = .ok (.aload_n 0, 1) := by decide +kernel
theorem dX12_standsOn_19 : decode cX12_standsOn 19 = .ok (.getfield 374, 3) := by decide +kernel
theorem dX12_standsOn_22 : decode cX12_standsOn 22 = .ok (.goto 16, 3) := by decide +kernel
theorem dX12_standsOn_25 : decode cX12_standsOn 25 = .ok (.aload_n 0, 1) := by decide +kernel
theorem dX12_standsOn_26 : decode cX12_standsOn 26 = .ok (.getfield 41, 3) := by decide +kernel
theorem dX12_standsOn_29 : decode cX12_standsOn 29 = .ok (.iload_n 3, 1) := by decide +kernel
theorem dX12_standsOn_30 : decode cX12_standsOn 30 = .ok (.iaload, 1) := by decide +kernel
theorem dX12_standsOn_31 : decode cX12_standsOn 31 = .ok (.aload_n 0, 1) := by decide +kernel
theorem dX12_standsOn_32 : decode cX12_standsOn 32 = .ok (.getfield 44, 3) := by decide +kernel
theorem dX12_standsOn_35 : decode cX12_standsOn 35 = .ok (.iload_n 3, 1) := by decide +kernel
theorem dX12_standsOn_36 : decode cX12_standsOn 36 = .ok (.iaload, 1) := by decide +kernel
theorem dX12_standsOn_37 : decode cX12_standsOn 37 = .ok (.isub, 1) := by decide +kernel
theorem dX12_standsOn_38 : decode cX12_standsOn 38 = .ok (.istore 4, 2) := by decide +kernel
theorem dX12_standsOn_40 : decode cX12_standsOn 40 = .ok (.iload_n 2, 1) := by decide +kernel
theorem dX12_standsOn_41 : decode cX12_standsOn 41 = .ok (.iload 4, 2) := by decide +kernel
theorem dX12_standsOn_43 : decode cX12_standsOn 43 = .ok (.if_icmp .lt 38, 3) := by decide +kernel
theorem dX12_standsOn_46 : decode cX12_standsOn 46 = .ok (.aload_n 0, 1) := by decide +kernel
theorem dX12_standsOn_47 : decode cX12_standsOn 47 = .ok (.getfield 47, 3) := by decide +kernel
theorem dX12_standsOn_50 : decode cX12_standsOn 50 = .ok (.iload_n 3, 1) := by decide +kernel
theorem dX12_standsOn_51 : decode cX12_standsOn 51 = .ok (.iaload, 1) := by decide +kernel
theorem dX12_standsOn_52 : decode cX12_standsOn 52 = .ok (.ifCond .lt 25, 3) := by decide +kernel
theorem dX12_standsOn_55 : decode cX12_standsOn 55 = .ok (.iload_n 2, 1) := by decide +kernel
theorem dX12_standsOn_56 : decode cX12_standsOn 56 = .ok (.aload_n 0, 1) := by decide +kernel
theorem dX12_standsOn_57 : decode cX12_standsOn 57 = .ok (.getfield 47, 3) := by decide +kernel
theorem dX12_standsOn_60 : decode cX12_standsOn 60 = .ok (.iload_n 3, 1) := by decide +kernel
theorem dX12_standsOn_61 : decode cX12_standsOn 61 = .ok (.iaload, 1) := by decide +kernel
theorem dX12_standsOn_62 : decode cX12_standsOn 62 = .ok (.aload_n 0, 1) := by decide +kernel
theorem dX12_standsOn_63 : decode cX12_standsOn 63 = .ok (.getfield 377, 3) := by decide +kernel
theorem dX12_standsOn_66 : decode cX12_standsOn 66 = .ok (.iadd, 1) := by decide +kernel
theorem dX12_standsOn_67 : decode cX12_standsOn 67 = .ok (.aload_n 0, 1) := by decide +kernel
theorem dX12_standsOn_68 : decode cX12_standsOn 68 = .ok (.getfield 50, 3) := by decide +kernel
theorem dX12_standsOn_71 : decode cX12_standsOn 71 = .ok (.iload_n 3, 1) := by decide +kernel
theorem dX12_standsOn_72 : decode cX12_standsOn 72 = .ok (.iaload, 1) := by decide +kernel
theorem dX12_standsOn_73 : decode cX12_standsOn 73 = .ok (.iadd, 1) := by decide +kernel
theorem dX12_standsOn_74 : decode cX12_standsOn 74 = .ok (.if_icmp .gt 7, 3) := by decide +kernel
theorem dX12_standsOn_77 : decode cX12_standsOn 77 = .ok (.iconst 1, 1) := by decide +kernel
theorem dX12_standsOn_78 : decode cX12_standsOn 78 = .ok (.goto 4, 3) := by decide +kernel
theorem dX12_standsOn_81 : decode cX12_standsOn 81 = .ok (.iconst 0, 1) := by decide +kernel
theorem dX12_standsOn_82 : decode cX12_standsOn 82 = .ok (.ireturn, 1) := by decide +kernel
theorem dX12_lacksOn_0 : decode cX12_lacksOn 0 = .ok (.bipush 12, 2) := by decide +kernel
theorem dX12_lacksOn_2 : decode cX12_lacksOn 2 = .ok (.aload_n 0, 1) := by decide +kernel
theorem dX12_lacksOn_3 : decode cX12_lacksOn 3 = .ok (.getfield 312, 3) := by decide +kernel
theorem dX12_lacksOn_6 : decode cX12_lacksOn 6 = .ok (.imul, 1) := by decide +kernel
theorem dX12_lacksOn_7 : decode cX12_lacksOn 7 = .ok (.iload_n 1, 1) := by decide +kernel
theorem dX12_lacksOn_8 : decode cX12_lacksOn 8 = .ok (.iadd, 1) := by decide +kernel
theorem dX12_lacksOn_9 : decode cX12_lacksOn 9 = .ok (.istore_n 3, 1) := by decide +kernel
theorem dX12_lacksOn_10 : decode cX12_lacksOn 10 = .ok (.iload_n 1, 1) := by decide +kernel
theorem dX12_lacksOn_11 : decode cX12_lacksOn 11 = .ok (.aload_n 0, 1) := by decide +kernel
theorem dX12_lacksOn_12 : decode cX12_lacksOn 12 = .ok (.getfield 118, 3) := by decide +kernel
theorem dX12_lacksOn_15 : decode cX12_lacksOn 15 = .ok (.if_icmp .ne 10, 3) := by decide +kernel
theorem dX12_lacksOn_18 : decode cX12_lacksOn 18 = .ok (.aload_n 0, 1) := by decide +kernel
theorem dX12_lacksOn_19 : decode cX12_lacksOn 19 = .ok (.getfield 374, 3) := by decide +kernel
theorem dX12_lacksOn_22 : decode cX12_lacksOn 22 = .ok (.goto 16, 3) := by decide +kernel
theorem dX12_lacksOn_25 : decode cX12_lacksOn 25 = .ok (.aload_n 0, 1) := by decide +kernel
theorem dX12_lacksOn_26 : decode cX12_lacksOn 26 = .ok (.getfield 41, 3) := by decide +kernel
theorem dX12_lacksOn_29 : decode cX12_lacksOn 29 = .ok (.iload_n 3, 1) := by decide +kernel
theorem dX12_lacksOn_30 : decode cX12_lacksOn 30 = .ok (.iaload, 1) := by decide +kernel
theorem dX12_lacksOn_31 : decode cX12_lacksOn 31 = .ok (.aload_n 0, 1) := by decide +kernel
theorem dX12_lacksOn_32 : decode cX12_lacksOn 32 = .ok (.getfield 44, 3) := by decide +kernel
theorem dX12_lacksOn_35 : decode cX12_lacksOn 35 = .ok (.iload_n 3, 1) := by decide +kernel
theorem dX12_lacksOn_36 : decode cX12_lacksOn 36 = .ok (.iaload, 1) := by decide +kernel
theorem dX12_lacksOn_37 : decode cX12_lacksOn 37 = .ok (.iadd, 1) := by decide +kernel
theorem dX12_lacksOn_38 : decode cX12_lacksOn 38 = .ok (.istore 4, 2) := by decide +kernel
theorem dX12_lacksOn_40 : decode cX12_lacksOn 40 = .ok (.iload_n 2, 1) := by decide +kernel
theorem dX12_lacksOn_41 : decode cX12_lacksOn 41 = .ok (.iload 4, 2) := by decide +kernel
theorem dX12_lacksOn_43 : decode cX12_lacksOn 43 = .ok (.if_icmp .lt 34, 3) := by decide +kernel
theorem dX12_lacksOn_46 : decode cX12_lacksOn 46 = .ok (.aload_n 0, 1) := by decide +kernel
theorem dX12_lacksOn_47 : decode cX12_lacksOn 47 = .ok (.getfield 47, 3) := by decide +kernel
theorem dX12_lacksOn_50 : decode cX12_lacksOn 50 = .ok (.iload_n 3, 1) := by decide +kernel
theorem dX12_lacksOn_51 : decode cX12_lacksOn 51 = .ok (.iaload, 1) := by decide +kernel
theorem dX12_lacksOn_52 : decode cX12_lacksOn 52 = .ok (.ifCond .lt 29, 3) := by decide +kernel
theorem dX12_lacksOn_55 : decode cX12_lacksOn 55 = .ok (.iload_n 2, 1) := by decide +kernel
theorem dX12_lacksOn_56 : decode cX12_lacksOn 56 = .ok (.aload_n 0, 1) := by decide +kernel
theorem dX12_lacksOn_57 : decode cX12_lacksOn 57 = .ok (.getfield 47, 3) := by decide +kernel
theorem dX12_lacksOn_60 : decode cX12_lacksOn 60 = .ok (.iload_n 3, 1) := by decide +kernel
theorem dX12_lacksOn_61 : decode cX12_lacksOn 61 = .ok (.iaload, 1) := by decide +kernel
theorem dX12_lacksOn_62 : decode cX12_lacksOn 62 = .ok (.aload_n 0, 1) := by decide +kernel
theorem dX12_lacksOn_63 : decode cX12_lacksOn 63 = .ok (.getfield 377, 3) := by decide +kernel
theorem dX12_lacksOn_66 : decode cX12_lacksOn 66 = .ok (.iadd, 1) := by decide +kernel
theorem dX12_lacksOn_67 : decode cX12_lacksOn 67 = .ok (.aload_n 0, 1) := by decide +kernel
theorem dX12_lacksOn_68 : decode cX12_lacksOn 68 = .ok (.getfield 50, 3) := by decide +kernel
theorem dX12_lacksOn_71 : decode cX12_lacksOn 71 = .ok (.iload_n 3, 1) := by decide +kernel
theorem dX12_lacksOn_72 : decode cX12_lacksOn 72 = .ok (.iaload, 1) := by decide +kernel
theorem dX12_lacksOn_73 : decode cX12_lacksOn 73 = .ok (.isub, 1) := by decide +kernel
theorem dX12_lacksOn_74 : decode cX12_lacksOn 74 = .ok (.if_icmp .le 7, 3) := by decide +kernel
theorem dX12_lacksOn_77 : decode cX12_lacksOn 77 = .ok (.iconst 1, 1) := by decide +kernel
theorem dX12_lacksOn_78 : decode cX12_lacksOn 78 = .ok (.goto 4, 3) := by decide +kernel
theorem dX12_lacksOn_81 : decode cX12_lacksOn 81 = .ok (.iconst 0, 1) := by decide +kernel
theorem dX12_lacksOn_82 : decode cX12_lacksOn 82 = .ok (.ireturn, 1) := by decide +kernel
theorem dX12_inLeaf_0 : decode cX12_inLeaf 0 = .ok (.bipush 6, 2) := by decide +kernel
theorem dX12_inLeaf_2 : decode cX12_inLeaf 2 = .ok (.aload_n 0, 1) := by decide +kernel
theorem dX12_inLeaf_3 : decode cX12_inLeaf 3 = .ok (.getfield 312, 3) := by decide +kernel
theorem dX12_inLeaf_6 : decode cX12_inLeaf 6 = .ok (.imul, 1) := by decide +kernel
theorem dX12_inLeaf_7 : decode cX12_inLeaf 7 = .ok (.iload_n 1, 1) := by decide +kernel
theorem dX12_inLeaf_8 : decode cX12_inLeaf 8 = .ok (.iadd, 1) := by decide +kernel
theorem dX12_inLeaf_9 : decode cX12_inLeaf 9 = .ok (.istore_n 3, 1) := by decide +kernel
theorem dX12_inLeaf_10 : decode cX12_inLeaf 10 = .ok (.iload_n 2, 1) := by decide +kernel
theorem dX12_inLeaf_11 : decode cX12_inLeaf 11 = .ok (.sipush 360, 3) := by decide +kernel
theorem dX12_inLeaf_14 : decode cX12_inLeaf 14 = .ok (.irem, 1) := by decide +kernel
theorem dX12_inLeaf_15 : decode cX12_inLeaf 15 = .ok (.istore 4, 2) := by decide +kernel
theorem dX12_inLeaf_17 : decode cX12_inLeaf 17 = .ok (.aload_n 0, 1) := by decide +kernel
theorem dX12_inLeaf_18 : decode cX12_inLeaf 18 = .ok (.getfield 53, 3) := by decide +kernel
theorem dX12_inLeaf_21 : decode cX12_inLeaf 21 = .ok (.iload_n 3, 1) := by decide +kernel
theorem dX12_inLeaf_22 : decode cX12_inLeaf 22 = .ok (.iaload, 1) := by decide +kernel
theorem dX12_inLeaf_23 : decode cX12_inLeaf 23 = .ok (.aload_n 0, 1) := by decide +kernel
theorem dX12_inLeaf_24 : decode cX12_inLeaf 24 = .ok (.getfield 56, 3) := by decide +kernel
theorem dX12_inLeaf_27 : decode cX12_inLeaf 27 = .ok (.iload_n 3, 1) := by decide +kernel
theorem dX12_inLeaf_28 : decode cX12_inLeaf 28 = .ok (.iaload, 1) := by decide +kernel
theorem dX12_inLeaf_29 : decode cX12_inLeaf 29 = .ok (.if_icmp .ge 33, 3) := by decide +kernel
theorem dX12_inLeaf_32 : decode cX12_inLeaf 32 = .ok (.iload 4, 2) := by decide +kernel
theorem dX12_inLeaf_34 : decode cX12_inLeaf 34 = .ok (.aload_n 0, 1) := by decide +kernel
theorem dX12_inLeaf_35 : decode cX12_inLeaf 35 = .ok (.getfield 53, 3) := by decide +kernel
theorem dX12_inLeaf_38 : decode cX12_inLeaf 38 = .ok (.iload_n 3, 1) := by decide +kernel
theorem dX12_inLeaf_39 : decode cX12_inLeaf 39 = .ok (.iaload, 1) := by decide +kernel
theorem dX12_inLeaf_40 : decode cX12_inLeaf 40 = .ok (.if_icmp .lt 18, 3) := by decide +kernel
theorem dX12_inLeaf_43 : decode cX12_inLeaf 43 = .ok (.iload 4, 2) := by decide +kernel
theorem dX12_inLeaf_45 : decode cX12_inLeaf 45 = .ok (.aload_n 0, 1) := by decide +kernel
theorem dX12_inLeaf_46 : decode cX12_inLeaf 46 = .ok (.getfield 56, 3) := by decide +kernel
theorem dX12_inLeaf_49 : decode cX12_inLeaf 49 = .ok (.iload_n 3, 1) := by decide +kernel
theorem dX12_inLeaf_50 : decode cX12_inLeaf 50 = .ok (.iaload, 1) := by decide +kernel
theorem dX12_inLeaf_51 : decode cX12_inLeaf 51 = .ok (.if_icmp .ge 7, 3) := by decide +kernel
theorem dX12_inLeaf_54 : decode cX12_inLeaf 54 = .ok (.iconst 1, 1) := by decide +kernel
theorem dX12_inLeaf_55 : decode cX12_inLeaf 55 = .ok (.goto 34, 3) := by decide +kernel
theorem dX12_inLeaf_58 : decode cX12_inLeaf 58 = .ok (.iconst 0, 1) := by decide +kernel
theorem dX12_inLeaf_59 : decode cX12_inLeaf 59 = .ok (.goto 30, 3) := by decide +kernel
theorem dX12_inLeaf_62 : decode cX12_inLeaf 62 = .ok (.iload 4, 2) := by decide +kernel
theorem dX12_inLeaf_64 : decode cX12_inLeaf 64 = .ok (.aload_n 0, 1) := by decide +kernel
theorem dX12_inLeaf_65 : decode cX12_inLeaf 65 = .ok (.getfield 53, 3) := by decide +kernel
theorem dX12_inLeaf_68 : decode cX12_inLeaf 68 = .ok (.iload_n 3, 1) := by decide +kernel
theorem dX12_inLeaf_69 : decode cX12_inLeaf 69 = .ok (.iaload, 1) := by decide +kernel
theorem dX12_inLeaf_70 : decode cX12_inLeaf 70 = .ok (.if_icmp .ge 14, 3) := by decide +kernel
theorem dX12_inLeaf_73 : decode cX12_inLeaf 73 = .ok (.iload 4, 2) := by decide +kernel
theorem dX12_inLeaf_75 : decode cX12_inLeaf 75 = .ok (.aload_n 0, 1) := by decide +kernel
theorem dX12_inLeaf_76 : decode cX12_inLeaf 76 = .ok (.getfield 56, 3) := by decide +kernel
theorem dX12_inLeaf_79 : decode cX12_inLeaf 79 = .ok (.iload_n 3, 1) := by decide +kernel
theorem dX12_inLeaf_80 : decode cX12_inLeaf 80 = .ok (.iaload, 1) := by decide +kernel
theorem dX12_inLeaf_81 : decode cX12_inLeaf 81 = .ok (.if_icmp .ge 7, 3) := by decide +kernel
theorem dX12_inLeaf_84 : decode cX12_inLeaf 84 = .ok (.iconst 1, 1) := by decide +kernel
theorem dX12_inLeaf_85 : decode cX12_inLeaf 85 = .ok (.goto 4, 3) := by decide +kernel
theorem dX12_inLeaf_88 : decode cX12_inLeaf 88 = .ok (.iconst 0, 1) := by decide +kernel
theorem dX12_inLeaf_89 : decode cX12_inLeaf 89 = .ok (.ireturn, 1) := by decide +kernel
theorem dX12_letsDay_0 : decode cX12_letsDay 0 = .ok (.aload_n 0, 1) := by decide +kernel
theorem dX12_letsDay_1 : decode cX12_letsDay 1 = .ok (.getfield 92, 3) := by decide +kernel
theorem dX12_letsDay_4 : decode cX12_letsDay 4 = .ok (.iload_n 1, 1) := by decide +kernel
theorem dX12_letsDay_5 : decode cX12_letsDay 5 = .ok (.iaload, 1) := by decide +kernel
theorem dX12_letsDay_6 : decode cX12_letsDay 6 = .ok (.tableswitch 141 0 7 #[46, 58, 70, 82, 141, 141, 102, 121], 46) := by decide +kernel
theorem dX12_letsDay_52 : decode cX12_letsDay 52 = .ok (.aload_n 0, 1) := by decide +kernel
theorem dX12_letsDay_53 : decode cX12_letsDay 53 = .ok (.aload_n 0, 1) := by decide +kernel
theorem dX12_letsDay_54 : decode cX12_letsDay 54 = .ok (.getfield 95, 3) := by decide +kernel
theorem dX12_letsDay_57 : decode cX12_letsDay 57 = .ok (.iload_n 1, 1) := by decide +kernel
theorem dX12_letsDay_58 : decode cX12_letsDay 58 = .ok (.iaload, 1) := by decide +kernel
theorem dX12_letsDay_59 : decode cX12_letsDay 59 = .ok (.iload_n 2, 1) := by decide +kernel
theorem dX12_letsDay_60 : decode cX12_letsDay 60 = .ok (.invokevirtual 380, 3) := by decide +kernel
theorem dX12_letsDay_63 : decode cX12_letsDay 63 = .ok (.ireturn, 1) := by decide +kernel
theorem dX12_letsDay_64 : decode cX12_letsDay 64 = .ok (.aload_n 0, 1) := by decide +kernel
theorem dX12_letsDay_65 : decode cX12_letsDay 65 = .ok (.aload_n 0, 1) := by decide +kernel
theorem dX12_letsDay_66 : decode cX12_letsDay 66 = .ok (.getfield 95, 3) := by decide +kernel
theorem dX12_letsDay_69 : decode cX12_letsDay 69 = .ok (.iload_n 1, 1) := by decide +kernel
theorem dX12_letsDay_70 : decode cX12_letsDay 70 = .ok (.iaload, 1) := by decide +kernel
theorem dX12_letsDay_71 : decode cX12_letsDay 71 = .ok (.iload_n 2, 1) := by decide +kernel
theorem dX12_letsDay_72 : decode cX12_letsDay 72 = .ok (.invokevirtual 383, 3) := by decide +kernel
theorem dX12_letsDay_75 : decode cX12_letsDay 75 = .ok (.ireturn, 1) := by decide +kernel
theorem dX12_letsDay_76 : decode cX12_letsDay 76 = .ok (.aload_n 0, 1) := by decide +kernel
theorem dX12_letsDay_77 : decode cX12_letsDay 77 = .ok (.aload_n 0, 1) := by decide +kernel
theorem dX12_letsDay_78 : decode cX12_letsDay 78 = .ok (.getfield 95, 3) := by decide +kernel
theorem dX12_letsDay_81 : decode cX12_letsDay 81 = .ok (.iload_n 1, 1) := by decide +kernel
theorem dX12_letsDay_82 : decode cX12_letsDay 82 = .ok (.iaload, 1) := by decide +kernel
theorem dX12_letsDay_83 : decode cX12_letsDay 83 = .ok (.iload_n 2, 1) := by decide +kernel
theorem dX12_letsDay_84 : decode cX12_letsDay 84 = .ok (.invokevirtual 386, 3) := by decide +kernel
theorem dX12_letsDay_87 : decode cX12_letsDay 87 = .ok (.ireturn, 1) := by decide +kernel
theorem dX12_letsDay_88 : decode cX12_letsDay 88 = .ok (.aload_n 0, 1) := by decide +kernel
theorem dX12_letsDay_89 : decode cX12_letsDay 89 = .ok (.aload_n 0, 1) := by decide +kernel
theorem dX12_letsDay_90 : decode cX12_letsDay 90 = .ok (.getfield 95, 3) := by decide +kernel
theorem dX12_letsDay_93 : decode cX12_letsDay 93 = .ok (.iload_n 1, 1) := by decide +kernel
theorem dX12_letsDay_94 : decode cX12_letsDay 94 = .ok (.iaload, 1) := by decide +kernel
theorem dX12_letsDay_95 : decode cX12_letsDay 95 = .ok (.iload_n 2, 1) := by decide +kernel
theorem dX12_letsDay_96 : decode cX12_letsDay 96 = .ok (.invokevirtual 386, 3) := by decide +kernel
theorem dX12_letsDay_99 : decode cX12_letsDay 99 = .ok (.ifCond .ne 7, 3) := by decide +kernel
theorem dX12_letsDay_102 : decode cX12_letsDay 102 = .ok (.iconst 1, 1) := by decide +kernel
theorem dX12_letsDay_103 : decode cX12_letsDay 103 = .ok (.goto 4, 3) := by decide +kernel
theorem dX12_letsDay_106 : decode cX12_letsDay 106 = .ok (.iconst 0, 1) := by decide +kernel
theorem dX12_letsDay_107 : decode cX12_letsDay 107 = .ok (.ireturn, 1) := by decide +kernel
theorem dX12_letsDay_108 : decode cX12_letsDay 108 = .ok (.iload_n 2, 1) := by decide +kernel
theorem dX12_letsDay_109 : decode cX12_letsDay 109 = .ok (.bipush 7, 2) := by decide +kernel
theorem dX12_letsDay_111 : decode cX12_letsDay 111 = .ok (.irem, 1) := by decide +kernel
theorem dX12_letsDay_112 : decode cX12_letsDay 112 = .ok (.aload_n 0, 1) := by decide +kernel
theorem dX12_letsDay_113 : decode cX12_letsDay 113 = .ok (.getfield 95, 3) := by decide +kernel
theorem dX12_letsDay_116 : decode cX12_letsDay 116 = .ok (.iload_n 1, 1) := by decide +kernel
theorem dX12_letsDay_117 : decode cX12_letsDay 117 = .ok (.iaload, 1) := by decide +kernel
theorem dX12_letsDay_118 : decode cX12_letsDay 118 = .ok (.if_icmp .ne 7, 3) := by decide +kernel
theorem dX12_letsDay_121 : decode cX12_letsDay 121 = .ok (.iconst 1, 1) := by decide +kernel
theorem dX12_letsDay_122 : decode cX12_letsDay 122 = .ok (.goto 4, 3) := by decide +kernel
theorem dX12_letsDay_125 : decode cX12_letsDay 125 = .ok (.iconst 0, 1) := by decide +kernel
theorem dX12_letsDay_126 : decode cX12_letsDay 126 = .ok (.ireturn, 1) := by decide +kernel
theorem dX12_letsDay_127 : decode cX12_letsDay 127 = .ok (.iload_n 2, 1) := by decide +kernel
theorem dX12_letsDay_128 : decode cX12_letsDay 128 = .ok (.sipush 360, 3) := by decide +kernel
theorem dX12_letsDay_131 : decode cX12_letsDay 131 = .ok (.idiv, 1) := by decide +kernel
theorem dX12_letsDay_132 : decode cX12_letsDay 132 = .ok (.aload_n 0, 1) := by decide +kernel
theorem dX12_letsDay_133 : decode cX12_letsDay 133 = .ok (.getfield 95, 3) := by decide +kernel
theorem dX12_letsDay_136 : decode cX12_letsDay 136 = .ok (.iload_n 1, 1) := by decide +kernel
theorem dX12_letsDay_137 : decode cX12_letsDay 137 = .ok (.iaload, 1) := by decide +kernel
theorem dX12_letsDay_138 : decode cX12_letsDay 138 = .ok (.if_icmp .ne 7, 3) := by decide +kernel
theorem dX12_letsDay_141 : decode cX12_letsDay 141 = .ok (.iconst 1, 1) := by decide +kernel
theorem dX12_letsDay_142 : decode cX12_letsDay 142 = .ok (.goto 4, 3) := by decide +kernel
theorem dX12_letsDay_145 : decode cX12_letsDay 145 = .ok (.iconst 0, 1) := by decide +kernel
theorem dX12_letsDay_146 : decode cX12_letsDay 146 = .ok (.ireturn, 1) := by decide +kernel
theorem dX12_letsDay_147 : decode cX12_letsDay 147 = .ok (.iconst 1, 1) := by decide +kernel
theorem dX12_letsDay_148 : decode cX12_letsDay 148 = .ok (.ireturn, 1) := by decide +kernel
theorem dX12_letsMinute_0 : decode cX12_letsMinute 0 = .ok (.aload_n 0, 1) := by decide +kernel
theorem dX12_letsMinute_1 : decode cX12_letsMinute 1 = .ok (.getfield 92, 3) := by decide +kernel
theorem dX12_letsMinute_4 : decode cX12_letsMinute 4 = .ok (.iload_n 1, 1) := by decide +kernel
theorem dX12_letsMinute_5 : decode cX12_letsMinute 5 = .ok (.iaload, 1) := by decide +kernel
theorem dX12_letsMinute_6 : decode cX12_letsMinute 6 = .ok (.iconst 5, 1) := by decide +kernel
theorem dX12_letsMinute_7 : decode cX12_letsMinute 7 = .ok (.if_icmp .ne 51, 3) := by decide +kernel
theorem dX12_letsMinute_10 : decode cX12_letsMinute 10 = .ok (.iconst 4, 1) := by decide +kernel
theorem dX12_letsMinute_11 : decode cX12_letsMinute 11 = .ok (.aload_n 0, 1) := by decide +kernel
theorem dX12_letsMinute_12 : decode cX12_letsMinute 12 = .ok (.getfield 312, 3) := by decide +kernel
theorem dX12_letsMinute_15 : decode cX12_letsMinute 15 = .ok (.imul, 1) := by decide +kernel
theorem dX12_letsMinute_16 : decode cX12_letsMinute 16 = .ok (.aload_n 0, 1) := by decide +kernel
theorem dX12_letsMinute_17 : decode cX12_letsMinute 17 = .ok (.getfield 95, 3) := by decide +kernel
theorem dX12_letsMinute_20 : decode cX12_letsMinute 20 = .ok (.iload_n 1, 1) := by decide +kernel
theorem dX12_letsMinute_21 : decode cX12_letsMinute 21 = .ok (.iaload, 1) := by decide +kernel
theorem dX12_letsMinute_22 : decode cX12_letsMinute 22 = .ok (.iadd, 1) := by decide +kernel
theorem dX12_letsMinute_23 : decode cX12_letsMinute 23 = .ok (.istore 4, 2) := by decide +kernel
theorem dX12_letsMinute_25 : decode cX12_letsMinute 25 = .ok (.iload_n 3, 1) := by decide +kernel
theorem dX12_letsMinute_26 : decode cX12_letsMinute 26 = .ok (.aload_n 0, 1) := by decide +kernel
theorem dX12_letsMinute_27 : decode cX12_letsMinute 27 = .ok (.getfield 98, 3) := by decide +kernel
theorem dX12_letsMinute_30 : decode cX12_letsMinute 30 = .ok (.iload_n 1, 1) := by decide +kernel
theorem dX12_letsMinute_31 : decode cX12_letsMinute 31 = .ok (.iaload, 1) := by decide +kernel
theorem dX12_letsMinute_32 : decode cX12_letsMinute 32 = .ok (.aload_n 0, 1) := by decide +kernel
theorem dX12_letsMinute_33 : decode cX12_letsMinute 33 = .ok (.getfield 71, 3) := by decide +kernel
theorem dX12_letsMinute_36 : decode cX12_letsMinute 36 = .ok (.iload 4, 2) := by decide +kernel
theorem dX12_letsMinute_38 : decode cX12_letsMinute 38 = .ok (.iaload, 1) := by decide +kernel
theorem dX12_letsMinute_39 : decode cX12_letsMinute 39 = .ok (.isub, 1) := by decide +kernel
theorem dX12_letsMinute_40 : decode cX12_letsMinute 40 = .ok (.aload_n 0, 1) := by decide +kernel
theorem dX12_letsMinute_41 : decode cX12_letsMinute 41 = .ok (.getfield 98, 3) := by decide +kernel
theorem dX12_letsMinute_44 : decode cX12_letsMinute 44 = .ok (.iload_n 1, 1) := by decide +kernel
theorem dX12_letsMinute_45 : decode cX12_letsMinute 45 = .ok (.iaload, 1) := by decide +kernel
theorem dX12_letsMinute_46 : decode cX12_letsMinute 46 = .ok (.aload_n 0, 1) := by decide +kernel
theorem dX12_letsMinute_47 : decode cX12_letsMinute 47 = .ok (.getfield 68, 3) := by decide +kernel
theorem dX12_letsMinute_50 : decode cX12_letsMinute 50 = .ok (.iload 4, 2) := by decide +kernel
theorem dX12_letsMinute_52 : decode cX12_letsMinute 52 = .ok (.iaload, 1) := by decide +kernel
theorem dX12_letsMinute_53 : decode cX12_letsMinute 53 = .ok (.iadd, 1) := by decide +kernel
theorem dX12_letsMinute_54 : decode cX12_letsMinute 54 = .ok (.invokestatic 189, 3) := by decide +kernel
theorem dX12_letsMinute_57 : decode cX12_letsMinute 57 = .ok (.ireturn, 1) := by decide +kernel
theorem dX12_letsMinute_58 : decode cX12_letsMinute 58 = .ok (.aload_n 0, 1) := by decide +kernel
theorem dX12_letsMinute_59 : decode cX12_letsMinute 59 = .ok (.getfield 92, 3) := by decide +kernel
theorem dX12_letsMinute_62 : decode cX12_letsMinute 62 = .ok (.iload_n 1, 1) := by decide +kernel
theorem dX12_letsMinute_63 : decode cX12_letsMinute 63 = .ok (.iaload, 1) := by decide +kernel
theorem dX12_letsMinute_64 : decode cX12_letsMinute 64 = .ok (.iconst 4, 1) := by decide +kernel
theorem dX12_letsMinute_65 : decode cX12_letsMinute 65 = .ok (.if_icmp .ne 11, 3) := by decide +kernel
theorem dX12_letsMinute_68 : decode cX12_letsMinute 68 = .ok (.aload_n 0, 1) := by decide +kernel
theorem dX12_letsMinute_69 : decode cX12_letsMinute 69 = .ok (.iload_n 2, 1) := by decide +kernel
theorem dX12_letsMinute_70 : decode cX12_letsMinute 70 = .ok (.invokevirtual 389, 3) := by decide +kernel
theorem dX12_letsMinute_73 : decode cX12_letsMinute 73 = .ok (.ifCond .ne 5, 3) := by decide +kernel
theorem dX12_letsMinute_76 : decode cX12_letsMinute 76 = .ok (.iconst 1, 1) := by decide +kernel
theorem dX12_letsMinute_77 : decode cX12_letsMinute 77 = .ok (.ireturn, 1) := by decide +kernel
theorem dX12_letsMinute_78 : decode cX12_letsMinute 78 = .ok (.aload_n 0, 1) := by decide +kernel
theorem dX12_letsMinute_79 : decode cX12_letsMinute 79 = .ok (.iload_n 2, 1) := by decide +kernel
theorem dX12_letsMinute_80 : decode cX12_letsMinute 80 = .ok (.iload_n 3, 1) := by decide +kernel
theorem dX12_letsMinute_81 : decode cX12_letsMinute 81 = .ok (.invokevirtual 364, 3) := by decide +kernel
theorem dX12_letsMinute_84 : decode cX12_letsMinute 84 = .ok (.ifCond .eq 15, 3) := by decide +kernel
theorem dX12_letsMinute_87 : decode cX12_letsMinute 87 = .ok (.aload_n 0, 1) := by decide +kernel
theorem dX12_letsMinute_88 : decode cX12_letsMinute 88 = .ok (.iload_n 1, 1) := by decide +kernel
theorem dX12_letsMinute_89 : decode cX12_letsMinute 89 = .ok (.invokevirtual 392, 3) := by decide +kernel
theorem dX12_letsMinute_92 : decode cX12_letsMinute 92 = .ok (.ifCond .eq 7, 3) := by decide +kernel
theorem dX12_letsMinute_95 : decode cX12_letsMinute 95 = .ok (.iconst 1, 1) := by decide +kernel
theorem dX12_letsMinute_96 : decode cX12_letsMinute 96 = .ok (.goto 4, 3) := by decide +kernel
theorem dX12_letsMinute_99 : decode cX12_letsMinute 99 = .ok (.iconst 0, 1) := by decide +kernel
theorem dX12_letsMinute_100 : decode cX12_letsMinute 100 = .ok (.ireturn, 1) := by decide +kernel
theorem dX12_lets_0 : decode cX12_lets 0 = .ok (.aload_n 0, 1) := by decide +kernel
theorem dX12_lets_1 : decode cX12_lets 1 = .ok (.iload_n 1, 1) := by decide +kernel
theorem dX12_lets_2 : decode cX12_lets 2 = .ok (.iload_n 2, 1) := by decide +kernel
theorem dX12_lets_3 : decode cX12_lets 3 = .ok (.invokevirtual 351, 3) := by decide +kernel
theorem dX12_lets_6 : decode cX12_lets 6 = .ok (.ifCond .eq 26, 3) := by decide +kernel
theorem dX12_lets_9 : decode cX12_lets 9 = .ok (.iload_n 3, 1) := by decide +kernel
theorem dX12_lets_10 : decode cX12_lets 10 = .ok (.iconst 0, 1) := by decide +kernel
theorem dX12_lets_11 : decode cX12_lets 11 = .ok (.sipush 3599, 3) := by decide +kernel
theorem dX12_lets_14 : decode cX12_lets 14 = .ok (.invokestatic 189, 3) := by decide +kernel
theorem dX12_lets_17 : decode cX12_lets 17 = .ok (.ifCond .eq 15, 3) := by decide +kernel
theorem dX12_lets_20 : decode cX12_lets 20 = .ok (.iload 4, 2) := by decide +kernel
theorem dX12_lets_22 : decode cX12_lets 22 = .ok (.iconst 0, 1) := by decide +kernel
theorem dX12_lets_23 : decode cX12_lets 23 = .ok (.sipush 719, 3) := by decide +kernel
theorem dX12_lets_26 : decode cX12_lets 26 = .ok (.invokestatic 189, 3) := by decide +kernel
theorem dX12_lets_29 : decode cX12_lets 29 = .ok (.ifCond .ne 5, 3) := by decide +kernel
theorem dX12_lets_32 : decode cX12_lets 32 = .ok (.iconst (-1), 1) := by decide +kernel
theorem dX12_lets_33 : decode cX12_lets 33 = .ok (.ireturn, 1) := by decide +kernel
theorem dX12_lets_34 : decode cX12_lets 34 = .ok (.bipush 12, 2) := by decide +kernel
theorem dX12_lets_36 : decode cX12_lets 36 = .ok (.iload_n 1, 1) := by decide +kernel
theorem dX12_lets_37 : decode cX12_lets 37 = .ok (.imul, 1) := by decide +kernel
theorem dX12_lets_38 : decode cX12_lets 38 = .ok (.iload_n 2, 1) := by decide +kernel
theorem dX12_lets_39 : decode cX12_lets 39 = .ok (.iadd, 1) := by decide +kernel
theorem dX12_lets_40 : decode cX12_lets 40 = .ok (.istore 5, 2) := by decide +kernel
theorem dX12_lets_42 : decode cX12_lets 42 = .ok (.aload_n 0, 1) := by decide +kernel
theorem dX12_lets_43 : decode cX12_lets 43 = .ok (.iload 5, 2) := by decide +kernel
theorem dX12_lets_45 : decode cX12_lets 45 = .ok (.iload_n 3, 1) := by decide +kernel
theorem dX12_lets_46 : decode cX12_lets 46 = .ok (.invokevirtual 395, 3) := by decide +kernel
theorem dX12_lets_49 : decode cX12_lets 49 = .ok (.ifCond .eq 26, 3) := by decide +kernel
theorem dX12_lets_52 : decode cX12_lets 52 = .ok (.aload_n 0, 1) := by decide +kernel
theorem dX12_lets_53 : decode cX12_lets 53 = .ok (.iload 5, 2) := by decide +kernel
theorem dX12_lets_55 : decode cX12_lets 55 = .ok (.iload_n 3, 1) := by decide +kernel
theorem dX12_lets_56 : decode cX12_lets 56 = .ok (.sipush 360, 3) := by decide +kernel
theorem dX12_lets_59 : decode cX12_lets 59 = .ok (.irem, 1) := by decide +kernel
theorem dX12_lets_60 : decode cX12_lets 60 = .ok (.bipush 30, 2) := by decide +kernel
theorem dX12_lets_62 : decode cX12_lets 62 = .ok (.idiv, 1) := by decide +kernel
theorem dX12_lets_63 : decode cX12_lets 63 = .ok (.iload 4, 2) := by decide +kernel
theorem dX12_lets_65 : decode cX12_lets 65 = .ok (.invokevirtual 398, 3) := by decide +kernel
theorem dX12_lets_68 : decode cX12_lets 68 = .ok (.ifCond .eq 7, 3) := by decide +kernel
theorem dX12_lets_71 : decode cX12_lets 71 = .ok (.iconst 1, 1) := by decide +kernel
theorem dX12_lets_72 : decode cX12_lets 72 = .ok (.goto 4, 3) := by decide +kernel
theorem dX12_lets_75 : decode cX12_lets 75 = .ok (.iconst 0, 1) := by decide +kernel
theorem dX12_lets_76 : decode cX12_lets 76 = .ok (.ireturn, 1) := by decide +kernel
theorem dX12_judge_0 : decode cX12_judge 0 = .ok (.aload_n 0, 1) := by decide +kernel
theorem dX12_judge_1 : decode cX12_judge 1 = .ok (.iload_n 1, 1) := by decide +kernel
theorem dX12_judge_2 : decode cX12_judge 2 = .ok (.invokevirtual 347, 3) := by decide +kernel
theorem dX12_judge_5 : decode cX12_judge 5 = .ok (.ifCond .eq 25, 3) := by decide +kernel
theorem dX12_judge_8 : decode cX12_judge 8 = .ok (.iload_n 2, 1) := by decide +kernel
theorem dX12_judge_9 : decode cX12_judge 9 = .ok (.iconst 0, 1) := by decide +kernel
theorem dX12_judge_10 : decode cX12_judge 10 = .ok (.sipush 3599, 3) := by decide +kernel
theorem dX12_judge_13 : decode cX12_judge 13 = .ok (.invokestatic 189, 3) := by decide +kernel
theorem dX12_judge_16 : decode cX12_judge 16 = .ok (.ifCond .eq 14, 3) := by decide +kernel
theorem dX12_judge_19 : decode cX12_judge 19 = .ok (.iload_n 3, 1) := by decide +kernel
theorem dX12_judge_20 : decode cX12_judge 20 = .ok (.iconst 0, 1) := by decide +kernel
theorem dX12_judge_21 : decode cX12_judge 21 = .ok (.sipush 719, 3) := by decide +kernel
theorem dX12_judge_24 : decode cX12_judge 24 = .ok (.invokestatic 189, 3) := by decide +kernel
theorem dX12_judge_27 : decode cX12_judge 27 = .ok (.ifCond .ne 6, 3) := by decide +kernel
theorem dX12_judge_30 : decode cX12_judge 30 = .ok (.bipush (-2), 2) := by decide +kernel
theorem dX12_judge_32 : decode cX12_judge 32 = .ok (.ireturn, 1) := by decide +kernel
theorem dX12_judge_33 : decode cX12_judge 33 = .ok (.iconst 0, 1) := by decide +kernel
theorem dX12_judge_34 : decode cX12_judge 34 = .ok (.istore 4, 2) := by decide +kernel
theorem dX12_judge_36 : decode cX12_judge 36 = .ok (.iload 4, 2) := by decide +kernel
theorem dX12_judge_38 : decode cX12_judge 38 = .ok (.aload_n 0, 1) := by decide +kernel
theorem dX12_judge_39 : decode cX12_judge 39 = .ok (.getfield 89, 3) := by decide +kernel
theorem dX12_judge_42 : decode cX12_judge 42 = .ok (.iload_n 1, 1) := by decide +kernel
theorem dX12_judge_43 : decode cX12_judge 43 = .ok (.iaload, 1) := by decide +kernel
theorem dX12_judge_44 : decode cX12_judge 44 = .ok (.if_icmp .ge 24, 3) := by decide +kernel
theorem dX12_judge_47 : decode cX12_judge 47 = .ok (.aload_n 0, 1) := by decide +kernel
theorem dX12_judge_48 : decode cX12_judge 48 = .ok (.iload_n 1, 1) := by decide +kernel
theorem dX12_judge_49 : decode cX12_judge 49 = .ok (.iload 4, 2) := by decide +kernel
theorem dX12_judge_51 : decode cX12_judge 51 = .ok (.iload_n 2, 1) := by decide +kernel
theorem dX12_judge_52 : decode cX12_judge 52 = .ok (.iload_n 3, 1) := by decide +kernel
theorem dX12_judge_53 : decode cX12_judge 53 = .ok (.invokevirtual 401, 3) := by decide +kernel
theorem dX12_judge_56 : decode cX12_judge 56 = .ok (.ifCond .ne 6, 3) := by decide +kernel
theorem dX12_judge_59 : decode cX12_judge 59 = .ok (.iload 4, 2) := by decide +kernel
theorem dX12_judge_61 : decode cX12_judge 61 = .ok (.ireturn, 1) := by decide +kernel
theorem dX12_judge_62 : decode cX12_judge 62 = .ok (.iinc 4 1, 3) := by decide +kernel
theorem dX12_judge_65 : decode cX12_judge 65 = .ok (.goto (-29), 3) := by decide +kernel
theorem dX12_judge_68 : decode cX12_judge 68 = .ok (.iconst (-1), 1) := by decide +kernel
theorem dX12_judge_69 : decode cX12_judge 69 = .ok (.ireturn, 1) := by decide +kernel
theorem dX12_findDays_0 : decode cX12_findDays 0 = .ok (.iconst 0, 1) := by decide +kernel
theorem dX12_findDays_1 : decode cX12_findDays 1 = .ok (.istore_n 2, 1) := by decide +kernel
theorem dX12_findDays_2 : decode cX12_findDays 2 = .ok (.iload_n 2, 1) := by decide +kernel
theorem dX12_findDays_3 : decode cX12_findDays 3 = .ok (.sipush 3600, 3) := by decide +kernel
theorem dX12_findDays_6 : decode cX12_findDays 6 = .ok (.if_icmp .ge 58, 3) := by decide +kernel
theorem dX12_findDays_9 : decode cX12_findDays 9 = .ok (.iconst 1, 1) := by decide +kernel
theorem dX12_findDays_10 : decode cX12_findDays 10 = .ok (.istore_n 3, 1) := by decide +kernel
theorem dX12_findDays_11 : decode cX12_findDays 11 = .ok (.bipush 12, 2) := by decide +kernel
theorem dX12_findDays_13 : decode cX12_findDays 13 = .ok (.iload_n 1, 1) := by decide +kernel
theorem dX12_findDays_14 : decode cX12_findDays 14 = .ok (.imul, 1) := by decide +kernel
theorem dX12_findDays_15 : decode cX12_findDays 15 = .ok (.istore 4, 2) := by decide +kernel
theorem dX12_findDays_17 : decode cX12_findDays 17 = .ok (.iload 4, 2) := by decide +kernel
theorem dX12_findDays_19 : decode cX12_findDays 19 = .ok (.bipush 12, 2) := by decide +kernel
theorem dX12_findDays_21 : decode cX12_findDays 21 = .ok (.iload_n 1, 1) := by decide +kernel
theorem dX12_findDays_22 : decode cX12_findDays 22 = .ok (.imul, 1) := by decide +kernel
theorem dX12_findDays_23 : decode cX12_findDays 23 = .ok (.aload_n 0, 1) := by decide +kernel
theorem dX12_findDays_24 : decode cX12_findDays 24 = .ok (.getfield 89, 3) := by decide +kernel
theorem dX12_findDays_27 : decode cX12_findDays 27 = .ok (.iload_n 1, 1) := by decide +kernel
theorem dX12_findDays_28 : decode cX12_findDays 28 = .ok (.iaload, 1) := by decide +kernel
theorem dX12_findDays_29 : decode cX12_findDays 29 = .ok (.iadd, 1) := by decide +kernel
theorem dX12_findDays_30 : decode cX12_findDays 30 = .ok (.if_icmp .ge 21, 3) := by decide +kernel
theorem dX12_findDays_33 : decode cX12_findDays 33 = .ok (.iload_n 3, 1) := by decide +kernel
theorem dX12_findDays_34 : decode cX12_findDays 34 = .ok (.ifCond .eq 17, 3) := by decide +kernel
theorem dX12_findDays_37 : decode cX12_findDays 37 = .ok (.aload_n 0, 1) := by decide +kernel
theorem dX12_findDays_38 : decode cX12_findDays 38 = .ok (.iload 4, 2) := by decide +kernel
theorem dX12_findDays_40 : decode cX12_findDays 40 = .ok (.iload_n 2, 1) := by decide +kernel
theorem dX12_findDays_41 : decode cX12_findDays 41 = .ok (.invokevirtual 395, 3) := by decide +kernel
theorem dX12_findDays_44 : decode cX12_findDays 44 = .ok (.istore_n 3, 1) := by decide +kernel
theorem dX12_findDays_45 : decode cX12_findDays 45 = .ok (.iinc 4 1, 3) := by decide +kernel
theorem dX12_findDays_48 : decode cX12_findDays 48 = .ok (.goto (-31), 3) := by decide +kernel
theorem dX12_findDays_51 : decode cX12_findDays 51 = .ok (.aload_n 0, 1) := by decide +kernel
theorem dX12_findDays_52 : decode cX12_findDays 52 = .ok (.getfield 121, 3) := by decide +kernel
theorem dX12_findDays_55 : decode cX12_findDays 55 = .ok (.iload_n 2, 1) := by decide +kernel
theorem dX12_findDays_56 : decode cX12_findDays 56 = .ok (.iload_n 3, 1) := by decide +kernel
theorem dX12_findDays_57 : decode cX12_findDays 57 = .ok (.bastore, 1) := by decide +kernel
theorem dX12_findDays_58 : decode cX12_findDays 58 = .ok (.iinc 2 1, 3) := by decide +kernel
theorem dX12_findDays_61 : decode cX12_findDays 61 = .ok (.goto (-59), 3) := by decide +kernel
theorem dX12_findDays_64 : decode cX12_findDays 64 = .ok (.return_, 1) := by decide +kernel
theorem dX12_findMinutes_0 : decode cX12_findMinutes 0 = .ok (.iconst 0, 1) := by decide +kernel
theorem dX12_findMinutes_1 : decode cX12_findMinutes 1 = .ok (.istore_n 2, 1) := by decide +kernel
theorem dX12_findMinutes_2 : decode cX12_findMinutes 2 = .ok (.iload_n 2, 1) := by decide +kernel
theorem dX12_findMinutes_3 : decode cX12_findMinutes 3 = .ok (.bipush 12, 2) := by decide +kernel
theorem dX12_findMinutes_5 : decode cX12_findMinutes 5 = .ok (.if_icmp .ge 110, 3) := by decide +kernel
theorem dX12_findMinutes_8 : decode cX12_findMinutes 8 = .ok (.aload_n 0, 1) := by decide +kernel
theorem dX12_findMinutes_9 : decode cX12_findMinutes 9 = .ok (.getfield 128, 3) := by decide +kernel
theorem dX12_findMinutes_12 : decode cX12_findMinutes 12 = .ok (.iload_n 2, 1) := by decide +kernel
theorem dX12_findMinutes_13 : decode cX12_findMinutes 13 = .ok (.iconst 0, 1) := by decide +kernel
theorem dX12_findMinutes_14 : decode cX12_findMinutes 14 = .ok (.iastore, 1) := by decide +kernel
theorem dX12_findMinutes_15 : decode cX12_findMinutes 15 = .ok (.iconst 0, 1) := by decide +kernel
theorem dX12_findMinutes_16 : decode cX12_findMinutes 16 = .ok (.istore_n 3, 1) := by decide +kernel
theorem dX12_findMinutes_17 : decode cX12_findMinutes 17 = .ok (.iload_n 3, 1) := by decide +kernel
theorem dX12_findMinutes_18 : decode cX12_findMinutes 18 = .ok (.sipush 720, 3) := by decide +kernel
theorem dX12_findMinutes_21 : decode cX12_findMinutes 21 = .ok (.if_icmp .ge 88, 3) := by decide +kernel
theorem dX12_findMinutes_24 : decode cX12_findMinutes 24 = .ok (.iconst 1, 1) := by decide +kernel
theorem dX12_findMinutes_25 : decode cX12_findMinutes 25 = .ok (.istore 4, 2) := by decide +kernel
theorem dX12_findMinutes_27 : decode cX12_findMinutes 27 = .ok (.bipush 12, 2) := by decide +kernel
theorem dX12_findMinutes_29 : decode cX12_findMinutes 29 = .ok (.iload_n 1, 1) := by decide +kernel
theorem dX12_findMinutes_30 : decode cX12_findMinutes 30 = .ok (.imul, 1) := by decide +kernel
theorem dX12_findMinutes_31 : decode cX12_findMinutes 31 = .ok (.istore 5, 2) := by decide +kernel
theorem dX12_findMinutes_33 : decode cX12_findMinutes 33 = .ok (.iload 5, 2) := by decide +kernel
theorem dX12_findMinutes_35 : decode cX12_findMinutes 35 = .ok (.bipush 12, 2) := by decide +kernel
theorem dX12_findMinutes_37 : decode cX12_findMinutes 37 = .ok (.iload_n 1, 1) := by decide +kernel
theorem dX12_findMinutes_38 : decode cX12_findMinutes 38 = .ok (.imul, 1) := by decide +kernel
theorem dX12_findMinutes_39 : decode cX12_findMinutes 39 = .ok (.aload_n 0, 1) := by decide +kernel
theorem dX12_findMinutes_40 : decode cX12_findMinutes 40 = .ok (.getfield 89, 3) := by decide +kernel
theorem dX12_findMinutes_43 : decode cX12_findMinutes 43 = .ok (.iload_n 1, 1) := by decide +kernel
theorem dX12_findMinutes_44 : decode cX12_findMinutes 44 = .ok (.iaload, 1) := by decide +kernel
theorem dX12_findMinutes_45 : decode cX12_findMinutes 45 = .ok (.iadd, 1) := by decide +kernel
theorem dX12_findMinutes_46 : decode cX12_findMinutes 46 = .ok (.if_icmp .ge 24, 3) := by decide +kernel
theorem dX12_findMinutes_49 : decode cX12_findMinutes 49 = .ok (.iload 4, 2) := by decide +kernel
theorem dX12_findMinutes_51 : decode cX12_findMinutes 51 = .ok (.ifCond .eq 19, 3) := by decide +kernel
theorem dX12_findMinutes_54 : decode cX12_findMinutes 54 = .ok (.aload_n 0, 1) := by decide +kernel
theorem dX12_findMinutes_55 : decode cX12_findMinutes 55 = .ok (.iload 5, 2) := by decide +kernel
theorem dX12_findMinutes_57 : decode cX12_findMinutes 57 = .ok (.iload_n 2, 1) := by decide +kernel
theorem dX12_findMinutes_58 : decode cX12_findMinutes 58 = .ok (.iload_n 3, 1) := by decide +kernel
theorem dX12_findMinutes_59 : decode cX12_findMinutes 59 = .ok (.invokevirtual 398, 3) := by decide +kernel
theorem dX12_findMinutes_62 : decode cX12_findMinutes 62 = .ok (.istore 4, 2) := by decide +kernel
theorem dX12_findMinutes_64 : decode cX12_findMinutes 64 = .ok (.iinc 5 1, 3) := by decide +kernel
theorem dX12_findMinutes_67 : decode cX12_findMinutes 67 = .ok (.goto (-34), 3) := by decide +kernel
theorem dX12_findMinutes_70 : decode cX12_findMinutes 70 = .ok (.aload_n 0, 1) := by decide +kernel
theorem dX12_findMinutes_71 : decode cX12_findMinutes 71 = .ok (.getfield 125, 3) := by decide +kernel
theorem dX12_findMinutes_74 : decode cX12_findMinutes 74 = .ok (.sipush 720, 3) := by decide +kernel
theorem dX12_findMinutes_77 : decode cX12_findMinutes 77 = .ok (.iload_n 2, 1) := by decide +kernel
theorem dX12_findMinutes_78 : decode cX12_findMinutes 78 = .ok (.imul, 1) := by decide +kernel
theorem dX12_findMinutes_79 : decode cX12_findMinutes 79 = .ok (.iload_n 3, 1) := by decide +kernel
theorem dX12_findMinutes_80 : decode cX12_findMinutes 80 = .ok (.iadd, 1) := by decide +kernel
theorem dX12_findMinutes_81 : decode cX12_findMinutes 81 = .ok (.iload 4, 2) := by decide +kernel
theorem dX12_findMinutes_83 : decode cX12_findMinutes 83 = .ok (.bastore, 1) := by decide +kernel
theorem dX12_findMinutes_84 : decode cX12_findMinutes 84 = .ok (.aload_n 0, 1) := by decide +kernel
theorem dX12_findMinutes_85 : decode cX12_findMinutes 85 = .ok (.getfield 128, 3) := by decide +kernel
theorem dX12_findMinutes_88 : decode cX12_findMinutes 88 = .ok (.iload_n 2, 1) := by decide +kernel
theorem dX12_findMinutes_89 : decode cX12_findMinutes 89 = .ok (.dup2, 1) := by decide +kernel
theorem dX12_findMinutes_90 : decode cX12_findMinutes 90 = .ok (.iaload, 1) := by decide +kernel
theorem dX12_findMinutes_91 : decode cX12_findMinutes 91 = .ok (.iload 4, 2) := by decide +kernel
theorem dX12_findMinutes_93 : decode cX12_findMinutes 93 = .ok (.ifCond .eq 7, 3) := by decide +kernel
theorem dX12_findMinutes_96 : decode cX12_findMinutes 96 = .ok (.iconst 1, 1) := by decide +kernel
theorem dX12_findMinutes_97 : decode cX12_findMinutes 97 = .ok (.goto 4, 3) := by decide +kernel
theorem dX12_findMinutes_100 : decode cX12_findMinutes 100 = .ok (.iconst 0, 1) := by decide +kernel
theorem dX12_findMinutes_101 : decode cX12_findMinutes 101 = .ok (.iadd, 1) := by decide +kernel
theorem dX12_findMinutes_102 : decode cX12_findMinutes 102 = .ok (.iastore, 1) := by decide +kernel
theorem dX12_findMinutes_103 : decode cX12_findMinutes 103 = .ok (.iinc 3 1, 3) := by decide +kernel
theorem dX12_findMinutes_106 : decode cX12_findMinutes 106 = .ok (.goto (-89), 3) := by decide +kernel
theorem dX12_findMinutes_109 : decode cX12_findMinutes 109 = .ok (.iinc 2 1, 3) := by decide +kernel
theorem dX12_findMinutes_112 : decode cX12_findMinutes 112 = .ok (.goto (-110), 3) := by decide +kernel
theorem dX12_findMinutes_115 : decode cX12_findMinutes 115 = .ok (.return_, 1) := by decide +kernel
theorem dX12_minutesOn_0 : decode cX12_minutesOn 0 = .ok (.aload_n 0, 1) := by decide +kernel
theorem dX12_minutesOn_1 : decode cX12_minutesOn 1 = .ok (.getfield 121, 3) := by decide +kernel
theorem dX12_minutesOn_4 : decode cX12_minutesOn 4 = .ok (.iload_n 1, 1) := by decide +kernel
theorem dX12_minutesOn_5 : decode cX12_minutesOn 5 = .ok (.baload, 1) := by decide +kernel
theorem dX12_minutesOn_6 : decode cX12_minutesOn 6 = .ok (.ifCond .eq 19, 3) := by decide +kernel
theorem dX12_minutesOn_9 : decode cX12_minutesOn 9 = .ok (.aload_n 0, 1) := by decide +kernel
theorem dX12_minutesOn_10 : decode cX12_minutesOn 10 = .ok (.getfield 128, 3) := by decide +kernel
theorem dX12_minutesOn_13 : decode cX12_minutesOn 13 = .ok (.iload_n 1, 1) := by decide +kernel
theorem dX12_minutesOn_14 : decode cX12_minutesOn 14 = .ok (.sipush 360, 3) := by decide +kernel
theorem dX12_minutesOn_17 : decode cX12_minutesOn 17 = .ok (.irem, 1) := by decide +kernel
theorem dX12_minutesOn_18 : decode cX12_minutesOn 18 = .ok (.bipush 30, 2) := by decide +kernel
theorem dX12_minutesOn_20 : decode cX12_minutesOn 20 = .ok (.idiv, 1) := by decide +kernel
theorem dX12_minutesOn_21 : decode cX12_minutesOn 21 = .ok (.iaload, 1) := by decide +kernel
theorem dX12_minutesOn_22 : decode cX12_minutesOn 22 = .ok (.goto 4, 3) := by decide +kernel
theorem dX12_minutesOn_25 : decode cX12_minutesOn 25 = .ok (.iconst 0, 1) := by decide +kernel
theorem dX12_minutesOn_26 : decode cX12_minutesOn 26 = .ok (.ireturn, 1) := by decide +kernel
theorem dX12_moments_0 : decode cX12_moments 0 = .ok (.iconst 0, 1) := by decide +kernel
theorem dX12_moments_1 : decode cX12_moments 1 = .ok (.istore_n 1, 1) := by decide +kernel
theorem dX12_moments_2 : decode cX12_moments 2 = .ok (.iconst 0, 1) := by decide +kernel
theorem dX12_moments_3 : decode cX12_moments 3 = .ok (.istore_n 2, 1) := by decide +kernel
theorem dX12_moments_4 : decode cX12_moments 4 = .ok (.iload_n 2, 1) := by decide +kernel
theorem dX12_moments_5 : decode cX12_moments 5 = .ok (.sipush 3600, 3) := by decide +kernel
theorem dX12_moments_8 : decode cX12_moments 8 = .ok (.if_icmp .ge 17, 3) := by decide +kernel
theorem dX12_moments_11 : decode cX12_moments 11 = .ok (.iload_n 1, 1) := by decide +kernel
theorem dX12_moments_12 : decode cX12_moments 12 = .ok (.aload_n 0, 1) := by decide +kernel
theorem dX12_moments_13 : decode cX12_moments 13 = .ok (.iload_n 2, 1) := by decide +kernel
theorem dX12_moments_14 : decode cX12_moments 14 = .ok (.invokevirtual 405, 3) := by decide +kernel
theorem dX12_moments_17 : decode cX12_moments 17 = .ok (.iadd, 1) := by decide +kernel
theorem dX12_moments_18 : decode cX12_moments 18 = .ok (.istore_n 1, 1) := by decide +kernel
theorem dX12_moments_19 : decode cX12_moments 19 = .ok (.iinc 2 1, 3) := by decide +kernel
theorem dX12_moments_22 : decode cX12_moments 22 = .ok (.goto (-18), 3) := by decide +kernel
theorem dX12_moments_25 : decode cX12_moments 25 = .ok (.iload_n 1, 1) := by decide +kernel
theorem dX12_moments_26 : decode cX12_moments 26 = .ok (.ireturn, 1) := by decide +kernel
theorem dX12_finds_0 : decode cX12_finds 0 = .ok (.aload_n 0, 1) := by decide +kernel
theorem dX12_finds_1 : decode cX12_finds 1 = .ok (.iload_n 1, 1) := by decide +kernel
theorem dX12_finds_2 : decode cX12_finds 2 = .ok (.invokevirtual 408, 3) := by decide +kernel
theorem dX12_finds_5 : decode cX12_finds 5 = .ok (.aload_n 0, 1) := by decide +kernel
theorem dX12_finds_6 : decode cX12_finds 6 = .ok (.iload_n 1, 1) := by decide +kernel
theorem dX12_finds_7 : decode cX12_finds 7 = .ok (.invokevirtual 411, 3) := by decide +kernel
theorem dX12_finds_10 : decode cX12_finds 10 = .ok (.return_, 1) := by decide +kernel
theorem dX12_all_0 : decode cX12_all 0 = .ok (.aload_n 0, 1) := by decide +kernel
theorem dX12_all_1 : decode cX12_all 1 = .ok (.iload_n 1, 1) := by decide +kernel
theorem dX12_all_2 : decode cX12_all 2 = .ok (.invokevirtual 347, 3) := by decide +kernel
theorem dX12_all_5 : decode cX12_all 5 = .ok (.ifCond .ne 5, 3) := by decide +kernel
theorem dX12_all_8 : decode cX12_all 8 = .ok (.iconst (-1), 1) := by decide +kernel
theorem dX12_all_9 : decode cX12_all 9 = .ok (.ireturn, 1) := by decide +kernel
theorem dX12_all_10 : decode cX12_all 10 = .ok (.aload_n 0, 1) := by decide +kernel
theorem dX12_all_11 : decode cX12_all 11 = .ok (.iload_n 1, 1) := by decide +kernel
theorem dX12_all_12 : decode cX12_all 12 = .ok (.invokevirtual 414, 3) := by decide +kernel
theorem dX12_all_15 : decode cX12_all 15 = .ok (.aload_n 0, 1) := by decide +kernel
theorem dX12_all_16 : decode cX12_all 16 = .ok (.invokevirtual 417, 3) := by decide +kernel
theorem dX12_all_19 : decode cX12_all 19 = .ok (.ireturn, 1) := by decide +kernel
theorem dX12_days_0 : decode cX12_days 0 = .ok (.aload_n 0, 1) := by decide +kernel
theorem dX12_days_1 : decode cX12_days 1 = .ok (.iload_n 1, 1) := by decide +kernel
theorem dX12_days_2 : decode cX12_days 2 = .ok (.invokevirtual 347, 3) := by decide +kernel
theorem dX12_days_5 : decode cX12_days 5 = .ok (.ifCond .eq 8, 3) := by decide +kernel
theorem dX12_days_8 : decode cX12_days 8 = .ok (.iload_n 2, 1) := by decide +kernel
theorem dX12_days_9 : decode cX12_days 9 = .ok (.iconst (-1), 1) := by decide +kernel
theorem dX12_days_10 : decode cX12_days 10 = .ok (.if_icmp .ge 5, 3) := by decide +kernel
theorem dX12_days_13 : decode cX12_days 13 = .ok (.iconst (-1), 1) := by decide +kernel
theorem dX12_days_14 : decode cX12_days 14 = .ok (.ireturn, 1) := by decide +kernel
theorem dX12_days_15 : decode cX12_days 15 = .ok (.aload_n 0, 1) := by decide +kernel
theorem dX12_days_16 : decode cX12_days 16 = .ok (.iload_n 1, 1) := by decide +kernel
theorem dX12_days_17 : decode cX12_days 17 = .ok (.invokevirtual 414, 3) := by decide +kernel
theorem dX12_days_20 : decode cX12_days 20 = .ok (.iconst 0, 1) := by decide +kernel
theorem dX12_days_21 : decode cX12_days 21 = .ok (.istore_n 3, 1) := by decide +kernel
theorem dX12_days_22 : decode cX12_days 22 = .ok (.iconst 0, 1) := by decide +kernel
theorem dX12_days_23 : decode cX12_days 23 = .ok (.istore 4, 2) := by decide +kernel
theorem dX12_days_25 : decode cX12_days 25 = .ok (.iload 4, 2) := by decide +kernel
theorem dX12_days_27 : decode cX12_days 27 = .ok (.sipush 3600, 3) := by decide +kernel
theorem dX12_days_30 : decode cX12_days 30 = .ok (.if_icmp .ge 32, 3) := by decide +kernel
theorem dX12_days_33 : decode cX12_days 33 = .ok (.aload_n 0, 1) := by decide +kernel
theorem dX12_days_34 : decode cX12_days 34 = .ok (.iload 4, 2) := by decide +kernel
theorem dX12_days_36 : decode cX12_days 36 = .ok (.invokevirtual 405, 3) := by decide +kernel
theorem dX12_days_39 : decode cX12_days 39 = .ok (.ifCond .ne 6, 3) := by decide +kernel
theorem dX12_days_42 : decode cX12_days 42 = .ok (.goto 14, 3) := by decide +kernel
theorem dX12_days_45 : decode cX12_days 45 = .ok (.iload_n 3, 1) := by decide +kernel
theorem dX12_days_46 : decode cX12_days 46 = .ok (.iload_n 2, 1) := by decide +kernel
theorem dX12_days_47 : decode cX12_days 47 = .ok (.if_icmp .ne 6, 3) := by decide +kernel
theorem dX12_days_50 : decode cX12_days 50 = .ok (.iload 4, 2) := by decide +kernel
theorem dX12_days_52 : decode cX12_days 52 = .ok (.ireturn, 1) := by decide +kernel
theorem dX12_days_53 : decode cX12_days 53 = .ok (.iinc 3 1, 3) := by decide +kernel
theorem dX12_days_56 : decode cX12_days 56 = .ok (.iinc 4 1, 3) := by decide +kernel
theorem dX12_days_59 : decode cX12_days 59 = .ok (.goto (-34), 3) := by decide +kernel
theorem dX12_days_62 : decode cX12_days 62 = .ok (.iload_n 2, 1) := by decide +kernel
theorem dX12_days_63 : decode cX12_days 63 = .ok (.iconst (-1), 1) := by decide +kernel
theorem dX12_days_64 : decode cX12_days 64 = .ok (.if_icmp .ne 7, 3) := by decide +kernel
theorem dX12_days_67 : decode cX12_days 67 = .ok (.iload_n 3, 1) := by decide +kernel
theorem dX12_days_68 : decode cX12_days 68 = .ok (.goto 4, 3) := by decide +kernel
theorem dX12_days_71 : decode cX12_days 71 = .ok (.iconst (-1), 1) := by decide +kernel
theorem dX12_days_72 : decode cX12_days 72 = .ok (.ireturn, 1) := by decide +kernel
theorem dX12_beginsRun_0 : decode cX12_beginsRun 0 = .ok (.aload_n 0, 1) := by decide +kernel
theorem dX12_beginsRun_1 : decode cX12_beginsRun 1 = .ok (.getfield 125, 3) := by decide +kernel
theorem dX12_beginsRun_4 : decode cX12_beginsRun 4 = .ok (.sipush 720, 3) := by decide +kernel
theorem dX12_beginsRun_7 : decode cX12_beginsRun 7 = .ok (.iload_n 1, 1) := by decide +kernel
theorem dX12_beginsRun_8 : decode cX12_beginsRun 8 = .ok (.imul, 1) := by decide +kernel
theorem dX12_beginsRun_9 : decode cX12_beginsRun 9 = .ok (.iload_n 2, 1) := by decide +kernel
theorem dX12_beginsRun_10 : decode cX12_beginsRun 10 = .ok (.iadd, 1) := by decide +kernel
theorem dX12_beginsRun_11 : decode cX12_beginsRun 11 = .ok (.baload, 1) := by decide +kernel
theorem dX12_beginsRun_12 : decode cX12_beginsRun 12 = .ok (.ifCond .eq 28, 3) := by decide +kernel
theorem dX12_beginsRun_15 : decode cX12_beginsRun 15 = .ok (.iload_n 2, 1) := by decide +kernel
theorem dX12_beginsRun_16 : decode cX12_beginsRun 16 = .ok (.ifCond .eq 20, 3) := by decide +kernel
theorem dX12_beginsRun_19 : decode cX12_beginsRun 19 = .ok (.aload_n 0, 1) := by decide +kernel
theorem dX12_beginsRun_20 : decode cX12_beginsRun 20 = .ok (.getfield 125, 3) := by decide +kernel
theorem dX12_beginsRun_23 : decode cX12_beginsRun 23 = .ok (.sipush 720, 3) := by decide +kernel
theorem dX12_beginsRun_26 : decode cX12_beginsRun 26 = .ok (.iload_n 1, 1) := by decide +kernel
theorem dX12_beginsRun_27 : decode cX12_beginsRun 27 = .ok (.imul, 1) := by decide +kernel
theorem dX12_beginsRun_28 : decode cX12_beginsRun 28 = .ok (.iload_n 2, 1) := by decide +kernel
theorem dX12_beginsRun_29 : decode cX12_beginsRun 29 = .ok (.iadd, 1) := by decide +kernel
theorem dX12_beginsRun_30 : decode cX12_beginsRun 30 = .ok (.iconst 1, 1) := by decide +kernel
theorem dX12_beginsRun_31 : decode cX12_beginsRun 31 = .ok (.isub, 1) := by decide +kernel
theorem dX12_beginsRun_32 : decode cX12_beginsRun 32 = .ok (.baload, 1) := by decide +kernel
theorem dX12_beginsRun_33 : decode cX12_beginsRun 33 = .ok (.ifCond .ne 7, 3) := by decide +kernel
theorem dX12_beginsRun_36 : decode cX12_beginsRun 36 = .ok (.iconst 1, 1) := by decide +kernel
theorem dX12_beginsRun_37 : decode cX12_beginsRun 37 = .ok (.goto 4, 3) := by decide +kernel
theorem dX12_beginsRun_40 : decode cX12_beginsRun 40 = .ok (.iconst 0, 1) := by decide +kernel
theorem dX12_beginsRun_41 : decode cX12_beginsRun 41 = .ok (.ireturn, 1) := by decide +kernel
theorem dX12_runsOf_0 : decode cX12_runsOf 0 = .ok (.iconst 0, 1) := by decide +kernel
theorem dX12_runsOf_1 : decode cX12_runsOf 1 = .ok (.istore_n 2, 1) := by decide +kernel
theorem dX12_runsOf_2 : decode cX12_runsOf 2 = .ok (.iconst 0, 1) := by decide +kernel
theorem dX12_runsOf_3 : decode cX12_runsOf 3 = .ok (.istore_n 3, 1) := by decide +kernel
theorem dX12_runsOf_4 : decode cX12_runsOf 4 = .ok (.iload_n 3, 1) := by decide +kernel
theorem dX12_runsOf_5 : decode cX12_runsOf 5 = .ok (.sipush 720, 3) := by decide +kernel
theorem dX12_runsOf_8 : decode cX12_runsOf 8 = .ok (.if_icmp .ge 26, 3) := by decide +kernel
theorem dX12_runsOf_11 : decode cX12_runsOf 11 = .ok (.iload_n 2, 1) := by decide +kernel
theorem dX12_runsOf_12 : decode cX12_runsOf 12 = .ok (.aload_n 0, 1) := by decide +kernel
theorem dX12_runsOf_13 : decode cX12_runsOf 13 = .ok (.iload_n 1, 1) := by decide +kernel
theorem dX12_runsOf_14 : decode cX12_runsOf 14 = .ok (.iload_n 3, 1) := by decide +kernel
theorem dX12_runsOf_15 : decode cX12_runsOf 15 = .ok (.invokevirtual 420, 3) := by decide +kernel
theorem dX12_runsOf_18 : decode cX12_runsOf 18 = .ok (.ifCond .eq 7, 3) := by decide +kernel
theorem dX12_runsOf_21 : decode cX12_runsOf 21 = .ok (.iconst 1, 1) := by decide +kernel
theorem dX12_runsOf_22 : decode cX12_runsOf 22 = .ok (.goto 4, 3) := by decide +kernel
theorem dX12_runsOf_25 : decode cX12_runsOf 25 = .ok (.iconst 0, 1) := by decide +kernel
theorem dX12_runsOf_26 : decode cX12_runsOf 26 = .ok (.iadd, 1) := by decide +kernel
theorem dX12_runsOf_27 : decode cX12_runsOf 27 = .ok (.istore_n 2, 1) := by decide +kernel
theorem dX12_runsOf_28 : decode cX12_runsOf 28 = .ok (.iinc 3 1, 3) := by decide +kernel
theorem dX12_runsOf_31 : decode cX12_runsOf 31 = .ok (.goto (-27), 3) := by decide +kernel
theorem dX12_runsOf_34 : decode cX12_runsOf 34 = .ok (.iload_n 2, 1) := by decide +kernel
theorem dX12_runsOf_35 : decode cX12_runsOf 35 = .ok (.ireturn, 1) := by decide +kernel
theorem dX12_runMinute_0 : decode cX12_runMinute 0 = .ok (.iload_n 2, 1) := by decide +kernel
theorem dX12_runMinute_1 : decode cX12_runMinute 1 = .ok (.istore 4, 2) := by decide +kernel
theorem dX12_runMinute_3 : decode cX12_runMinute 3 = .ok (.iconst 0, 1) := by decide +kernel
theorem dX12_runMinute_4 : decode cX12_runMinute 4 = .ok (.istore 5, 2) := by decide +kernel
theorem dX12_runMinute_6 : decode cX12_runMinute 6 = .ok (.aload_n 0, 1) := by decide +kernel
theorem dX12_runMinute_7 : decode cX12_runMinute 7 = .ok (.iload_n 1, 1) := by decide +kernel
theorem dX12_runMinute_8 : decode cX12_runMinute 8 = .ok (.iload 5, 2) := by decide +kernel
theorem dX12_runMinute_10 : decode cX12_runMinute 10 = .ok (.invokevirtual 420, 3) := by decide +kernel
theorem dX12_runMinute_13 : decode cX12_runMinute 13 = .ok (.ifCond .eq 8, 3) := by decide +kernel
theorem dX12_runMinute_16 : decode cX12_runMinute 16 = .ok (.iload 4, 2) := by decide +kernel
theorem dX12_runMinute_18 : decode cX12_runMinute 18 = .ok (.ifCond .le 29, 3) := by decide +kernel
theorem dX12_runMinute_21 : decode cX12_runMinute 21 = .ok (.iload 4, 2) := by decide +kernel
theorem dX12_runMinute_23 : decode cX12_runMinute 23 = .ok (.aload_n 0, 1) := by decide +kernel
theorem dX12_runMinute_24 : decode cX12_runMinute 24 = .ok (.iload_n 1, 1) := by decide +kernel
theorem dX12_runMinute_25 : decode cX12_runMinute 25 = .ok (.iload 5, 2) := by decide +kernel
theorem dX12_runMinute_27 : decode cX12_runMinute 27 = .ok (.invokevirtual 420, 3) := by decide +kernel
theorem dX12_runMinute_30 : decode cX12_runMinute 30 = .ok (.ifCond .eq 7, 3) := by decide +kernel
theorem dX12_runMinute_33 : decode cX12_runMinute 33 = .ok (.iconst 1, 1) := by decide +kernel
theorem dX12_runMinute_34 : decode cX12_runMinute 34 = .ok (.goto 4, 3) := by decide +kernel
theorem dX12_runMinute_37 : decode cX12_runMinute 37 = .ok (.iconst 0, 1) := by decide +kernel
theorem dX12_runMinute_38 : decode cX12_runMinute 38 = .ok (.isub, 1) := by decide +kernel
theorem dX12_runMinute_39 : decode cX12_runMinute 39 = .ok (.istore 4, 2) := by decide +kernel
theorem dX12_runMinute_41 : decode cX12_runMinute 41 = .ok (.iinc 5 1, 3) := by decide +kernel
theorem dX12_runMinute_44 : decode cX12_runMinute 44 = .ok (.goto (-38), 3) := by decide +kernel
theorem dX12_runMinute_47 : decode cX12_runMinute 47 = .ok (.iload_n 3, 1) := by decide +kernel
theorem dX12_runMinute_48 : decode cX12_runMinute 48 = .ok (.ifCond .eq 37, 3) := by decide +kernel
theorem dX12_runMinute_51 : decode cX12_runMinute 51 = .ok (.iload 5, 2) := by decide +kernel
theorem dX12_runMinute_53 : decode cX12_runMinute 53 = .ok (.iconst 1, 1) := by decide +kernel
theorem dX12_runMinute_54 : decode cX12_runMinute 54 = .ok (.iadd, 1) := by decide +kernel
theorem dX12_runMinute_55 : decode cX12_runMinute 55 = .ok (.sipush 720, 3) := by decide +kernel
theorem dX12_runMinute_58 : decode cX12_runMinute 58 = .ok (.if_icmp .ge 27, 3) := by decide +kernel
theorem dX12_runMinute_61 : decode cX12_runMinute 61 = .ok (.aload_n 0, 1) := by decide +kernel
theorem dX12_runMinute_62 : decode cX12_runMinute 62 = .ok (.getfield 125, 3) := by decide +kernel
theorem dX12_runMinute_65 : decode cX12_runMinute 65 = .ok (.sipush 720, 3) := by decide +kernel
theorem dX12_runMinute_68 : decode cX12_runMinute 68 = .ok (.iload_n 1, 1) := by decide +kernel
theorem dX12_runMinute_69 : decode cX12_runMinute 69 = .ok (.imul, 1) := by decide +kernel
theorem dX12_runMinute_70 : decode cX12_runMinute 70 = .ok (.iload 5, 2) := by decide +kernel
theorem dX12_runMinute_72 : decode cX12_runMinute 72 = .ok (.iadd, 1) := by decide +kernel
theorem dX12_runMinute_73 : decode cX12_runMinute 73 = .ok (.iconst 1, 1) := by decide +kernel
theorem dX12_runMinute_74 : decode cX12_runMinute 74 = .ok (.iadd, 1) := by decide +kernel
theorem dX12_runMinute_75 : decode cX12_runMinute 75 = .ok (.baload, 1) := by decide +kernel
theorem dX12_runMinute_76 : decode cX12_runMinute 76 = .ok (.ifCond .eq 9, 3) := by decide +kernel
theorem dX12_runMinute_79 : decode cX12_runMinute 79 = .ok (.iinc 5 1, 3) := by decide +kernel
theorem dX12_runMinute_82 : decode cX12_runMinute 82 = .ok (.goto (-35), 3) := by decide +kernel
theorem dX12_runMinute_85 : decode cX12_runMinute 85 = .ok (.iload 5, 2) := by decide +kernel
theorem dX12_runMinute_87 : decode cX12_runMinute 87 = .ok (.ireturn, 1) := by decide +kernel
theorem dX12_runs_0 : decode cX12_runs 0 = .ok (.aload_n 0, 1) := by decide +kernel
theorem dX12_runs_1 : decode cX12_runs 1 = .ok (.iload_n 1, 1) := by decide +kernel
theorem dX12_runs_2 : decode cX12_runs 2 = .ok (.invokevirtual 347, 3) := by decide +kernel
theorem dX12_runs_5 : decode cX12_runs 5 = .ok (.ifCond .eq 26, 3) := by decide +kernel
theorem dX12_runs_8 : decode cX12_runs 8 = .ok (.iload_n 2, 1) := by decide +kernel
theorem dX12_runs_9 : decode cX12_runs 9 = .ok (.iconst (-1), 1) := by decide +kernel
theorem dX12_runs_10 : decode cX12_runs 10 = .ok (.if_icmp .lt 21, 3) := by decide +kernel
theorem dX12_runs_13 : decode cX12_runs 13 = .ok (.iload_n 3, 1) := by decide +kernel
theorem dX12_runs_14 : decode cX12_runs 14 = .ok (.iconst 0, 1) := by decide +kernel
theorem dX12_runs_15 : decode cX12_runs 15 = .ok (.iload_n 2, 1) := by decide +kernel
theorem dX12_runs_16 : decode cX12_runs 16 = .ok (.iconst (-1), 1) := by decide +kernel
theorem dX12_runs_17 : decode cX12_runs 17 = .ok (.if_icmp .ne 7, 3) := by decide +kernel
theorem dX12_runs_20 : decode cX12_runs 20 = .ok (.iconst 0, 1) := by decide +kernel
theorem dX12_runs_21 : decode cX12_runs 21 = .ok (.goto 4, 3) := by decide +kernel
theorem dX12_runs_24 : decode cX12_runs 24 = .ok (.iconst 2, 1) := by decide +kernel
theorem dX12_runs_25 : decode cX12_runs 25 = .ok (.invokestatic 189, 3) := by decide +kernel
theorem dX12_runs_28 : decode cX12_runs 28 = .ok (.ifCond .ne 5, 3) := by decide +kernel
theorem dX12_runs_31 : decode cX12_runs 31 = .ok (.iconst (-1), 1) := by decide +kernel
theorem dX12_runs_32 : decode cX12_runs 32 = .ok (.ireturn, 1) := by decide +kernel
theorem dX12_runs_33 : decode cX12_runs 33 = .ok (.aload_n 0, 1) := by decide +kernel
theorem dX12_runs_34 : decode cX12_runs 34 = .ok (.iload_n 1, 1) := by decide +kernel
theorem dX12_runs_35 : decode cX12_runs 35 = .ok (.invokevirtual 414, 3) := by decide +kernel
theorem dX12_runs_38 : decode cX12_runs 38 = .ok (.iconst 0, 1) := by decide +kernel
theorem dX12_runs_39 : decode cX12_runs 39 = .ok (.istore 4, 2) := by decide +kernel
theorem dX12_runs_41 : decode cX12_runs 41 = .ok (.iload 4, 2) := by decide +kernel
theorem dX12_runs_43 : decode cX12_runs 43 = .ok (.bipush 12, 2) := by decide +kernel
theorem dX12_runs_45 : decode cX12_runs 45 = .ok (.if_icmp .ge 22, 3) := by decide +kernel
theorem dX12_runs_48 : decode cX12_runs 48 = .ok (.aload_n 0, 1) := by decide +kernel
theorem dX12_runs_49 : decode cX12_runs 49 = .ok (.getfield 131, 3) := by decide +kernel
theorem dX12_runs_52 : decode cX12_runs 52 = .ok (.iload 4, 2) := by decide +kernel
theorem dX12_runs_54 : decode cX12_runs 54 = .ok (.aload_n 0, 1) := by decide +kernel
theorem dX12_runs_55 : decode cX12_runs 55 = .ok (.iload 4, 2) := by decide +kernel
theorem dX12_runs_57 : decode cX12_runs 57 = .ok (.invokevirtual 423, 3) := by decide +kernel
theorem dX12_runs_60 : decode cX12_runs 60 = .ok (.iastore, 1) := by decide +kernel
theorem dX12_runs_61 : decode cX12_runs 61 = .ok (.iinc 4 1, 3) := by decide +kernel
theorem dX12_runs_64 : decode cX12_runs 64 = .ok (.goto (-23), 3) := by decide +kernel
theorem dX12_runs_67 : decode cX12_runs 67 = .ok (.iconst 0, 1) := by decide +kernel
theorem dX12_runs_68 : decode cX12_runs 68 = .ok (.istore 4, 2) := by decide +kernel
theorem dX12_runs_70 : decode cX12_runs 70 = .ok (.iconst 0, 1) := by decide +kernel
theorem dX12_runs_71 : decode cX12_runs 71 = .ok (.istore 5, 2) := by decide +kernel
theorem dX12_runs_73 : decode cX12_runs 73 = .ok (.iload 5, 2) := by decide +kernel
theorem dX12_runs_75 : decode cX12_runs 75 = .ok (.sipush 3600, 3) := by decide +kernel
theorem dX12_runs_78 : decode cX12_runs 78 = .ok (.if_icmp .ge 93, 3) := by decide +kernel
theorem dX12_runs_81 : decode cX12_runs 81 = .ok (.aload_n 0, 1) := by decide +kernel
theorem dX12_runs_82 : decode cX12_runs 82 = .ok (.getfield 121, 3) := by decide +kernel
theorem dX12_runs_85 : decode cX12_runs 85 = .ok (.iload 5, 2) := by decide +kernel
theorem dX12_runs_87 : decode cX12_runs 87 = .ok (.baload, 1) := by decide +kernel
theorem dX12_runs_88 : decode cX12_runs 88 = .ok (.ifCond .ne 6, 3) := by decide +kernel
theorem dX12_runs_91 : decode cX12_runs 91 = .ok (.goto 74, 3) := by decide +kernel
theorem dX12_runs_94 : decode cX12_runs 94 = .ok (.iload 5, 2) := by decide +kernel
theorem dX12_runs_96 : decode cX12_runs 96 = .ok (.sipush 360, 3) := by decide +kernel
theorem dX12_runs_99 : decode cX12_runs 99 = .ok (.irem, 1) := by decide +kernel
theorem dX12_runs_100 : decode cX12_runs 100 = .ok (.bipush 30, 2) := by decide +kernel
theorem dX12_runs_102 : decode cX12_runs 102 = .ok (.idiv, 1) := by decide +kernel
theorem dX12_runs_103 : decode cX12_runs 103 = .ok (.istore 6, 2) := by decide +kernel
theorem dX12_runs_105 : decode cX12_runs 105 = .ok (.iload_n 2, 1) := by decide +kernel
theorem dX12_runs_106 : decode cX12_runs 106 = .ok (.ifCond .lt 47, 3) := by decide +kernel
theorem dX12_runs_109 : decode cX12_runs 109 = .ok (.iload_n 2, 1) := by decide +kernel
theorem dX12_runs_110 : decode cX12_runs 110 = .ok (.iload 4, 2) := by decide +kernel
theorem dX12_runs_112 : decode cX12_runs 112 = .ok (.aload_n 0, 1) := by decide +kernel
theorem dX12_runs_113 : decode cX12_runs 113 = .ok (.getfield 131, 3) := by decide +kernel
theorem dX12_runs_116 : decode cX12_runs 116 = .ok (.iload 6, 2) := by decide +kernel
theorem dX12_runs_118 : decode cX12_runs 118 = .ok (.iaload, 1) := by decide +kernel
theorem dX12_runs_119 : decode cX12_runs 119 = .ok (.iadd, 1) := by decide +kernel
theorem dX12_runs_120 : decode cX12_runs 120 = .ok (.if_icmp .ge 33, 3) := by decide +kernel
theorem dX12_runs_123 : decode cX12_runs 123 = .ok (.iload_n 3, 1) := by decide +kernel
theorem dX12_runs_124 : decode cX12_runs 124 = .ok (.ifCond .ne 8, 3) := by decide +kernel
theorem dX12_runs_127 : decode cX12_runs 127 = .ok (.iload 5, 2) := by decide +kernel
theorem dX12_runs_129 : decode cX12_runs 129 = .ok (.goto 23, 3) := by decide +kernel
theorem dX12_runs_132 : decode cX12_runs 132 = .ok (.aload_n 0, 1) := by decide +kernel
theorem dX12_runs_133 : decode cX12_runs 133 = .ok (.iload 6, 2) := by decide +kernel
theorem dX12_runs_135 : decode cX12_runs 135 = .ok (.iload_n 2, 1) := by decide +kernel
theorem dX12_runs_136 : decode cX12_runs 136 = .ok (.iload 4, 2) := by decide +kernel
theorem dX12_runs_138 : decode cX12_runs 138 = .ok (.isub, 1) := by decide +kernel
theorem dX12_runs_139 : decode cX12_runs 139 = .ok (.iload_n 3, 1) := by decide +kernel
theorem dX12_runs_140 : decode cX12_runs 140 = .ok (.iconst 2, 1) := by decide +kernel
theorem dX12_runs_141 : decode cX12_runs 141 = .ok (.if_icmp .ne 7, 3) := by decide +kernel
theorem dX12_runs_144 : decode cX12_runs 144 = .ok (.iconst 1, 1) := by decide +kernel
theorem dX12_runs_145 : decode cX12_runs 145 = .ok (.goto 4, 3) := by decide +kernel
theorem dX12_runs_148 : decode cX12_runs 148 = .ok (.iconst 0, 1) := by decide +kernel
theorem dX12_runs_149 : decode cX12_runs 149 = .ok (.invokevirtual 426, 3) := by decide +kernel
theorem dX12_runs_152 : decode cX12_runs 152 = .ok (.ireturn, 1) := by decide +kernel
theorem dX12_runs_153 : decode cX12_runs 153 = .ok (.iload 4, 2) := by decide +kernel
theorem dX12_runs_155 : decode cX12_runs 155 = .ok (.aload_n 0, 1) := by decide +kernel
theorem dX12_runs_156 : decode cX12_runs 156 = .ok (.getfield 131, 3) := by decide +kernel
theorem dX12_runs_159 : decode cX12_runs 159 = .ok (.iload 6, 2) := by decide +kernel
theorem dX12_runs_161 : decode cX12_runs 161 = .ok (.iaload, 1) := by decide +kernel
theorem dX12_runs_162 : decode cX12_runs 162 = .ok (.iadd, 1) := by decide +kernel
theorem dX12_runs_163 : decode cX12_runs 163 = .ok (.istore 4, 2) := by decide +kernel
theorem dX12_runs_165 : decode cX12_runs 165 = .ok (.iinc 5 1, 3) := by decide +kernel
theorem dX12_runs_168 : decode cX12_runs 168 = .ok (.goto (-95), 3) := by decide +kernel
theorem dX12_runs_171 : decode cX12_runs 171 = .ok (.iload_n 2, 1) := by decide +kernel
theorem dX12_runs_172 : decode cX12_runs 172 = .ok (.iconst (-1), 1) := by decide +kernel
theorem dX12_runs_173 : decode cX12_runs 173 = .ok (.if_icmp .ne 8, 3) := by decide +kernel
theorem dX12_runs_176 : decode cX12_runs 176 = .ok (.iload 4, 2) := by decide +kernel
theorem dX12_runs_178 : decode cX12_runs 178 = .ok (.goto 4, 3) := by decide +kernel
theorem dX12_runs_181 : decode cX12_runs 181 = .ok (.iconst (-1), 1) := by decide +kernel
theorem dX12_runs_182 : decode cX12_runs 182 = .ok (.ireturn, 1) := by decide +kernel
theorem dX12_dayBits_0 : decode cX12_dayBits 0 = .ok (.iconst 0, 1) := by decide +kernel
theorem dX12_dayBits_1 : decode cX12_dayBits 1 = .ok (.istore_n 3, 1) := by decide +kernel
theorem dX12_dayBits_2 : decode cX12_dayBits 2 = .ok (.iconst 0, 1) := by decide +kernel
theorem dX12_dayBits_3 : decode cX12_dayBits 3 = .ok (.istore 4, 2) := by decide +kernel
theorem dX12_dayBits_5 : decode cX12_dayBits 5 = .ok (.iload 4, 2) := by decide +kernel
theorem dX12_dayBits_7 : decode cX12_dayBits 7 = .ok (.aload_n 0, 1) := by decide +kernel
theorem dX12_dayBits_8 : decode cX12_dayBits 8 = .ok (.getfield 89, 3) := by decide +kernel
theorem dX12_dayBits_11 : decode cX12_dayBits 11 = .ok (.iload_n 1, 1) := by decide +kernel
theorem dX12_dayBits_12 : decode cX12_dayBits 12 = .ok (.iaload, 1) := by decide +kernel
theorem dX12_dayBits_13 : decode cX12_dayBits 13 = .ok (.if_icmp .ge 35, 3) := by decide +kernel
theorem dX12_dayBits_16 : decode cX12_dayBits 16 = .ok (.iload_n 3, 1) := by decide +kernel
theorem dX12_dayBits_17 : decode cX12_dayBits 17 = .ok (.aload_n 0, 1) := by decide +kernel
theorem dX12_dayBits_18 : decode cX12_dayBits 18 = .ok (.bipush 12, 2) := by decide +kernel
theorem dX12_dayBits_20 : decode cX12_dayBits 20 = .ok (.iload_n 1, 1) := by decide +kernel
theorem dX12_dayBits_21 : decode cX12_dayBits 21 = .ok (.imul, 1) := by decide +kernel
theorem dX12_dayBits_22 : decode cX12_dayBits 22 = .ok (.iload 4, 2) := by decide +kernel
theorem dX12_dayBits_24 : decode cX12_dayBits 24 = .ok (.iadd, 1) := by decide +kernel
theorem dX12_dayBits_25 : decode cX12_dayBits 25 = .ok (.iload_n 2, 1) := by decide +kernel
theorem dX12_dayBits_26 : decode cX12_dayBits 26 = .ok (.invokevirtual 395, 3) := by decide +kernel
theorem dX12_dayBits_29 : decode cX12_dayBits 29 = .ok (.ifCond .eq 10, 3) := by decide +kernel
theorem dX12_dayBits_32 : decode cX12_dayBits 32 = .ok (.iconst 1, 1) := by decide +kernel
theorem dX12_dayBits_33 : decode cX12_dayBits 33 = .ok (.iload 4, 2) := by decide +kernel
theorem dX12_dayBits_35 : decode cX12_dayBits 35 = .ok (.ishl, 1) := by decide +kernel
theorem dX12_dayBits_36 : decode cX12_dayBits 36 = .ok (.goto 4, 3) := by decide +kernel
theorem dX12_dayBits_39 : decode cX12_dayBits 39 = .ok (.iconst 0, 1) := by decide +kernel
theorem dX12_dayBits_40 : decode cX12_dayBits 40 = .ok (.ior, 1) := by decide +kernel
theorem dX12_dayBits_41 : decode cX12_dayBits 41 = .ok (.istore_n 3, 1) := by decide +kernel
theorem dX12_dayBits_42 : decode cX12_dayBits 42 = .ok (.iinc 4 1, 3) := by decide +kernel
theorem dX12_dayBits_45 : decode cX12_dayBits 45 = .ok (.goto (-40), 3) := by decide +kernel
theorem dX12_dayBits_48 : decode cX12_dayBits 48 = .ok (.iload_n 3, 1) := by decide +kernel
theorem dX12_dayBits_49 : decode cX12_dayBits 49 = .ok (.ireturn, 1) := by decide +kernel
theorem dX12_minuteBits_0 : decode cX12_minuteBits 0 = .ok (.iconst 0, 1) := by decide +kernel
theorem dX12_minuteBits_1 : decode cX12_minuteBits 1 = .ok (.istore 4, 2) := by decide +kernel
theorem dX12_minuteBits_3 : decode cX12_minuteBits 3 = .ok (.iconst 0, 1) := by decide +kernel
theorem dX12_minuteBits_4 : decode cX12_minuteBits 4 = .ok (.istore 5, 2) := by decide +kernel
theorem dX12_minuteBits_6 : decode cX12_minuteBits 6 = .ok (.iload 5, 2) := by decide +kernel
theorem dX12_minuteBits_8 : decode cX12_minuteBits 8 = .ok (.aload_n 0, 1) := by decide +kernel
theorem dX12_minuteBits_9 : decode cX12_minuteBits 9 = .ok (.getfield 89, 3) := by decide +kernel
theorem dX12_minuteBits_12 : decode cX12_minuteBits 12 = .ok (.iload_n 1, 1) := by decide +kernel
theorem dX12_minuteBits_13 : decode cX12_minuteBits 13 = .ok (.iaload, 1) := by decide +kernel
theorem dX12_minuteBits_14 : decode cX12_minuteBits 14 = .ok (.if_icmp .ge 38, 3) := by decide +kernel
theorem dX12_minuteBits_17 : decode cX12_minuteBits 17 = .ok (.iload 4, 2) := by decide +kernel
theorem dX12_minuteBits_19 : decode cX12_minuteBits 19 = .ok (.aload_n 0, 1) := by decide +kernel
theorem dX12_minuteBits_20 : decode cX12_minuteBits 20 = .ok (.bipush 12, 2) := by decide +kernel
theorem dX12_minuteBits_22 : decode cX12_minuteBits 22 = .ok (.iload_n 1, 1) := by decide +kernel
theorem dX12_minuteBits_23 : decode cX12_minuteBits 23 = .ok (.imul, 1) := by decide +kernel
theorem dX12_minuteBits_24 : decode cX12_minuteBits 24 = .ok (.iload 5, 2) := by decide +kernel
theorem dX12_minuteBits_26 : decode cX12_minuteBits 26 = .ok (.iadd, 1) := by decide +kernel
theorem dX12_minuteBits_27 : decode cX12_minuteBits 27 = .ok (.iload_n 2, 1) := by decide +kernel
theorem dX12_minuteBits_28 : decode cX12_minuteBits 28 = .ok (.iload_n 3, 1) := by decide +kernel
theorem dX12_minuteBits_29 : decode cX12_minuteBits 29 = .ok (.invokevirtual 398, 3) := by decide +kernel
theorem dX12_minuteBits_32 : decode cX12_minuteBits 32 = .ok (.ifCond .eq 10, 3) := by decide +kernel
theorem dX12_minuteBits_35 : decode cX12_minuteBits 35 = .ok (.iconst 1, 1) := by decide +kernel
theorem dX12_minuteBits_36 : decode cX12_minuteBits 36 = .ok (.iload 5, 2) := by decide +kernel
theorem dX12_minuteBits_38 : decode cX12_minuteBits 38 = .ok (.ishl, 1) := by decide +kernel
theorem dX12_minuteBits_39 : decode cX12_minuteBits 39 = .ok (.goto 4, 3) := by decide +kernel
theorem dX12_minuteBits_42 : decode cX12_minuteBits 42 = .ok (.iconst 0, 1) := by decide +kernel
theorem dX12_minuteBits_43 : decode cX12_minuteBits 43 = .ok (.ior, 1) := by decide +kernel
theorem dX12_minuteBits_44 : decode cX12_minuteBits 44 = .ok (.istore 4, 2) := by decide +kernel
theorem dX12_minuteBits_46 : decode cX12_minuteBits 46 = .ok (.iinc 5 1, 3) := by decide +kernel
theorem dX12_minuteBits_49 : decode cX12_minuteBits 49 = .ok (.goto (-43), 3) := by decide +kernel
theorem dX12_minuteBits_52 : decode cX12_minuteBits 52 = .ok (.iload 4, 2) := by decide +kernel
theorem dX12_minuteBits_54 : decode cX12_minuteBits 54 = .ok (.ireturn, 1) := by decide +kernel
theorem dX12_findSets_0 : decode cX12_findSets 0 = .ok (.iconst 1, 1) := by decide +kernel
theorem dX12_findSets_1 : decode cX12_findSets 1 = .ok (.aload_n 0, 1) := by decide +kernel
theorem dX12_findSets_2 : decode cX12_findSets 2 = .ok (.getfield 89, 3) := by decide +kernel
theorem dX12_findSets_5 : decode cX12_findSets 5 = .ok (.iload_n 1, 1) := by decide +kernel
theorem dX12_findSets_6 : decode cX12_findSets 6 = .ok (.iaload, 1) := by decide +kernel
theorem dX12_findSets_7 : decode cX12_findSets 7 = .ok (.ishl, 1) := by decide +kernel
theorem dX12_findSets_8 : decode cX12_findSets 8 = .ok (.istore_n 2, 1) := by decide +kernel
theorem dX12_findSets_9 : decode cX12_findSets 9 = .ok (.iconst 0, 1) := by decide +kernel
theorem dX12_findSets_10 : decode cX12_findSets 10 = .ok (.istore_n 3, 1) := by decide +kernel
theorem dX12_findSets_11 : decode cX12_findSets 11 = .ok (.iload_n 3, 1) := by decide +kernel
theorem dX12_findSets_12 : decode cX12_findSets 12 = .ok (.iload_n 2, 1) := by decide +kernel
theorem dX12_findSets_13 : decode cX12_findSets 13 = .ok (.if_icmp .ge 16, 3) := by decide +kernel
theorem dX12_findSets_16 : decode cX12_findSets 16 = .ok (.aload_n 0, 1) := by decide +kernel
theorem dX12_findSets_17 : decode cX12_findSets 17 = .ok (.getfield 134, 3) := by decide +kernel
theorem dX12_findSets_20 : decode cX12_findSets 20 = .ok (.iload_n 3, 1) := by decide +kernel
theorem dX12_findSets_21 : decode cX12_findSets 21 = .ok (.iconst 0, 1) := by decide +kernel
theorem dX12_findSets_22 : decode cX12_findSets 22 = .ok (.bastore, 1) := by decide +kernel
theorem dX12_findSets_23 : decode cX12_findSets 23 = .ok (.iinc 3 1, 3) := by decide +kernel
theorem dX12_findSets_26 : decode cX12_findSets 26 = .ok (.goto (-15), 3) := by decide +kernel
theorem dX12_findSets_29 : decode cX12_findSets 29 = .ok (.iconst 0, 1) := by decide +kernel
theorem dX12_findSets_30 : decode cX12_findSets 30 = .ok (.istore_n 3, 1) := by decide +kernel
theorem dX12_findSets_31 : decode cX12_findSets 31 = .ok (.iload_n 3, 1) := by decide +kernel
theorem dX12_findSets_32 : decode cX12_findSets 32 = .ok (.bipush 12, 2) := by decide +kernel
theorem dX12_findSets_34 : decode cX12_findSets 34 = .ok (.if_icmp .ge 178, 3) := by decide +kernel
theorem dX12_findSets_37 : decode cX12_findSets 37 = .ok (.iconst 0, 1) := by decide +kernel
theorem dX12_findSets_38 : decode cX12_findSets 38 = .ok (.istore 4, 2) := by decide +kernel
theorem dX12_findSets_40 : decode cX12_findSets 40 = .ok (.iload 4, 2) := by decide +kernel
theorem dX12_findSets_42 : decode cX12_findSets 42 = .ok (.iload_n 2, 1) := by decide +kernel
theorem dX12_findSets_43 : decode cX12_findSets 43 = .ok (.if_icmp .ge 25, 3) := by decide +kernel
theorem dX12_findSets_46 : decode cX12_findSets 46 = .ok (.aload_n 0, 1) := by decide +kernel
theorem dX12_findSets_47 : decode cX12_findSets 47 = .ok (.getfield 137, 3) := by decide +kernel
theorem dX12_findSets_50 : decode cX12_findSets 50 = .ok (.iload 4, 2) := by decide +kernel
theorem dX12_findSets_52 : decode cX12_findSets 52 = .ok (.iconst 0, 1) := by decide +kernel
theorem dX12_findSets_53 : decode cX12_findSets 53 = .ok (.bastore, 1) := by decide +kernel
theorem dX12_findSets_54 : decode cX12_findSets 54 = .ok (.aload_n 0, 1) := by decide +kernel
theorem dX12_findSets_55 : decode cX12_findSets 55 = .ok (.getfield 140, 3) := by decide +kernel
theorem dX12_findSets_58 : decode cX12_findSets 58 = .ok (.iload 4, 2) := by decide +kernel
theorem dX12_findSets_60 : decode cX12_findSets 60 = .ok (.iconst 0, 1) := by decide +kernel
theorem dX12_findSets_61 : decode cX12_findSets 61 = .ok (.bastore, 1) := by decide +kernel
theorem dX12_findSets_62 : decode cX12_findSets 62 = .ok (.iinc 4 1, 3) := by decide +kernel
theorem dX12_findSets_65 : decode cX12_findSets 65 = .ok (.goto (-25), 3) := by decide +kernel
theorem dX12_findSets_68 : decode cX12_findSets 68 = .ok (.bipush 30, 2) := by decide +kernel
theorem dX12_findSets_70 : decode cX12_findSets 70 = .ok (.iload_n 3, 1) := by decide +kernel
theorem dX12_findSets_71 : decode cX12_findSets 71 = .ok (.imul, 1) := by decide +kernel
theorem dX12_findSets_72 : decode cX12_findSets 72 = .ok (.istore 4, 2) := by decide +kernel
theorem dX12_findSets_74 : decode cX12_findSets 74 = .ok (.iload 4, 2) := by decide +kernel
theorem dX12_findSets_76 : decode cX12_findSets 76 = .ok (.sipush 3600, 3) := by decide +kernel
theorem dX12_findSets_79 : decode cX12_findSets 79 = .ok (.if_icmp .ge 35, 3) := by decide +kernel
theorem dX12_findSets_82 : decode cX12_findSets 82 = .ok (.iload 4, 2) := by decide +kernel
theorem dX12_findSets_84 : decode cX12_findSets 84 = .ok (.sipush 360, 3) := by decide +kernel
