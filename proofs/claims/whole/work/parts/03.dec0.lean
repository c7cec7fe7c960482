theorem dX0_init_0 : decode cX0_init 0 = .ok (.aload_n 0, 1) := by decide +kernel
theorem dX0_init_1 : decode cX0_init 1 = .ok (.invokespecial 3, 3) := by decide +kernel
theorem dX0_init_4 : decode cX0_init 4 = .ok (.aload_n 0, 1) := by decide +kernel
theorem dX0_init_5 : decode cX0_init 5 = .ok (.bipush 8, 2) := by decide +kernel
theorem dX0_init_7 : decode cX0_init 7 = .ok (.anewarray 9, 3) := by decide +kernel
theorem dX0_init_10 : decode cX0_init 10 = .ok (.putfield 11, 3) := by decide +kernel
theorem dX0_init_13 : decode cX0_init 13 = .ok (.aload_n 0, 1) := by decide +kernel
theorem dX0_init_14 : decode cX0_init 14 = .ok (.bipush 12, 2) := by decide +kernel
theorem dX0_init_16 : decode cX0_init 16 = .ok (.newarray .int, 2) := by decide +kernel
theorem dX0_init_18 : decode cX0_init 18 = .ok (.putfield 17, 3) := by decide +kernel
theorem dX0_init_21 : decode cX0_init 21 = .ok (.iconst 0, 1) := by decide +kernel
theorem dX0_init_22 : decode cX0_init 22 = .ok (.istore_n 1, 1) := by decide +kernel
theorem dX0_init_23 : decode cX0_init 23 = .ok (.iload_n 1, 1) := by decide +kernel
theorem dX0_init_24 : decode cX0_init 24 = .ok (.aload_n 0, 1) := by decide +kernel
theorem dX0_init_25 : decode cX0_init 25 = .ok (.getfield 11, 3) := by decide +kernel
theorem dX0_init_28 : decode cX0_init 28 = .ok (.arraylength, 1) := by decide +kernel
theorem dX0_init_29 : decode cX0_init 29 = .ok (.if_icmp .ge 22, 3) := by decide +kernel
theorem dX0_init_32 : decode cX0_init 32 = .ok (.aload_n 0, 1) := by decide +kernel
theorem dX0_init_33 : decode cX0_init 33 = .ok (.getfield 11, 3) := by decide +kernel
theorem dX0_init_36 : decode cX0_init 36 = .ok (.iload_n 1, 1) := by decide +kernel
theorem dX0_init_37 : decode cX0_init 37 = .ok (.new 9, 3) := by decide +kernel
theorem dX0_init_40 : decode cX0_init 40 = .ok (.dup, 1) := by decide +kernel
theorem dX0_init_41 : decode cX0_init 41 = .ok (.invokespecial 21, 3) := by decide +kernel
theorem dX0_init_44 : decode cX0_init 44 = .ok (.aastore, 1) := by decide +kernel
theorem dX0_init_45 : decode cX0_init 45 = .ok (.iinc 1 1, 3) := by decide +kernel
theorem dX0_init_48 : decode cX0_init 48 = .ok (.goto (-25), 3) := by decide +kernel
theorem dX0_init_51 : decode cX0_init 51 = .ok (.aload_n 0, 1) := by decide +kernel
theorem dX0_init_52 : decode cX0_init 52 = .ok (.getfield 17, 3) := by decide +kernel
theorem dX0_init_55 : decode cX0_init 55 = .ok (.iconst 1, 1) := by decide +kernel
theorem dX0_init_56 : decode cX0_init 56 = .ok (.invokestatic 22, 3) := by decide +kernel
theorem dX0_init_59 : decode cX0_init 59 = .ok (.return_, 1) := by decide +kernel
theorem dX0_clear_0 : decode cX0_clear 0 = .ok (.aload_n 0, 1) := by decide +kernel
theorem dX0_clear_1 : decode cX0_clear 1 = .ok (.iconst 0, 1) := by decide +kernel
theorem dX0_clear_2 : decode cX0_clear 2 = .ok (.putfield 28, 3) := by decide +kernel
theorem dX0_clear_5 : decode cX0_clear 5 = .ok (.aload_n 0, 1) := by decide +kernel
theorem dX0_clear_6 : decode cX0_clear 6 = .ok (.getfield 17, 3) := by decide +kernel
theorem dX0_clear_9 : decode cX0_clear 9 = .ok (.iconst 1, 1) := by decide +kernel
theorem dX0_clear_10 : decode cX0_clear 10 = .ok (.invokestatic 22, 3) := by decide +kernel
theorem dX0_clear_13 : decode cX0_clear 13 = .ok (.return_, 1) := by decide +kernel
theorem dX0_copyFrom_0 : decode cX0_copyFrom 0 = .ok (.iconst 0, 1) := by decide +kernel
theorem dX0_copyFrom_1 : decode cX0_copyFrom 1 = .ok (.istore_n 2, 1) := by decide +kernel
theorem dX0_copyFrom_2 : decode cX0_copyFrom 2 = .ok (.iload_n 2, 1) := by decide +kernel
theorem dX0_copyFrom_3 : decode cX0_copyFrom 3 = .ok (.aload_n 1, 1) := by decide +kernel
theorem dX0_copyFrom_4 : decode cX0_copyFrom 4 = .ok (.getfield 28, 3) := by decide +kernel
theorem dX0_copyFrom_7 : decode cX0_copyFrom 7 = .ok (.if_icmp .ge 30, 3) := by decide +kernel
theorem dX0_copyFrom_10 : decode cX0_copyFrom 10 = .ok (.iload_n 2, 1) := by decide +kernel
theorem dX0_copyFrom_11 : decode cX0_copyFrom 11 = .ok (.bipush 8, 2) := by decide +kernel
theorem dX0_copyFrom_13 : decode cX0_copyFrom 13 = .ok (.if_icmp .ge 24, 3) := by decide +kernel
theorem dX0_copyFrom_16 : decode cX0_copyFrom 16 = .ok (.aload_n 0, 1) := by decide +kernel
theorem dX0_copyFrom_17 : decode cX0_copyFrom 17 = .ok (.getfield 11, 3) := by decide +kernel
theorem dX0_copyFrom_20 : decode cX0_copyFrom 20 = .ok (.iload_n 2, 1) := by decide +kernel
theorem dX0_copyFrom_21 : decode cX0_copyFrom 21 = .ok (.aaload, 1) := by decide +kernel
theorem dX0_copyFrom_22 : decode cX0_copyFrom 22 = .ok (.aload_n 1, 1) := by decide +kernel
theorem dX0_copyFrom_23 : decode cX0_copyFrom 23 = .ok (.getfield 11, 3) := by decide +kernel
theorem dX0_copyFrom_26 : decode cX0_copyFrom 26 = .ok (.iload_n 2, 1) := by decide +kernel
theorem dX0_copyFrom_27 : decode cX0_copyFrom 27 = .ok (.aaload, 1) := by decide +kernel
theorem dX0_copyFrom_28 : decode cX0_copyFrom 28 = .ok (.invokevirtual 32, 3) := by decide +kernel
theorem dX0_copyFrom_31 : decode cX0_copyFrom 31 = .ok (.iinc 2 1, 3) := by decide +kernel
theorem dX0_copyFrom_34 : decode cX0_copyFrom 34 = .ok (.goto (-32), 3) := by decide +kernel
theorem dX0_copyFrom_37 : decode cX0_copyFrom 37 = .ok (.aload_n 1, 1) := by decide +kernel
theorem dX0_copyFrom_38 : decode cX0_copyFrom 38 = .ok (.getfield 17, 3) := by decide +kernel
theorem dX0_copyFrom_41 : decode cX0_copyFrom 41 = .ok (.iconst 0, 1) := by decide +kernel
theorem dX0_copyFrom_42 : decode cX0_copyFrom 42 = .ok (.aload_n 0, 1) := by decide +kernel
theorem dX0_copyFrom_43 : decode cX0_copyFrom 43 = .ok (.getfield 17, 3) := by decide +kernel
theorem dX0_copyFrom_46 : decode cX0_copyFrom 46 = .ok (.iconst 0, 1) := by decide +kernel
theorem dX0_copyFrom_47 : decode cX0_copyFrom 47 = .ok (.aload_n 0, 1) := by decide +kernel
theorem dX0_copyFrom_48 : decode cX0_copyFrom 48 = .ok (.getfield 17, 3) := by decide +kernel
theorem dX0_copyFrom_51 : decode cX0_copyFrom 51 = .ok (.arraylength, 1) := by decide +kernel
theorem dX0_copyFrom_52 : decode cX0_copyFrom 52 = .ok (.invokestatic 36, 3) := by decide +kernel
theorem dX0_copyFrom_55 : decode cX0_copyFrom 55 = .ok (.aload_n 0, 1) := by decide +kernel
theorem dX0_copyFrom_56 : decode cX0_copyFrom 56 = .ok (.aload_n 1, 1) := by decide +kernel
theorem dX0_copyFrom_57 : decode cX0_copyFrom 57 = .ok (.getfield 28, 3) := by decide +kernel
theorem dX0_copyFrom_60 : decode cX0_copyFrom 60 = .ok (.putfield 28, 3) := by decide +kernel
theorem dX0_copyFrom_63 : decode cX0_copyFrom 63 = .ok (.return_, 1) := by decide +kernel
theorem dX0_size_0 : decode cX0_size 0 = .ok (.aload_n 0, 1) := by decide +kernel
theorem dX0_size_1 : decode cX0_size 1 = .ok (.getfield 28, 3) := by decide +kernel
theorem dX0_size_4 : decode cX0_size 4 = .ok (.ireturn, 1) := by decide +kernel
theorem dX0_get_0 : decode cX0_get 0 = .ok (.iload_n 1, 1) := by decide +kernel
theorem dX0_get_1 : decode cX0_get 1 = .ok (.ifCond .lt 20, 3) := by decide +kernel
theorem dX0_get_4 : decode cX0_get 4 = .ok (.iload_n 1, 1) := by decide +kernel
theorem dX0_get_5 : decode cX0_get 5 = .ok (.aload_n 0, 1) := by decide +kernel
theorem dX0_get_6 : decode cX0_get 6 = .ok (.getfield 28, 3) := by decide +kernel
theorem dX0_get_9 : decode cX0_get 9 = .ok (.if_icmp .ge 12, 3) := by decide +kernel
theorem dX0_get_12 : decode cX0_get 12 = .ok (.iload_n 1, 1) := by decide +kernel
theorem dX0_get_13 : decode cX0_get 13 = .ok (.aload_n 0, 1) := by decide +kernel
theorem dX0_get_14 : decode cX0_get 14 = .ok (.getfield 11, 3) := by decide +kernel
theorem dX0_get_17 : decode cX0_get 17 = .ok (.arraylength, 1) := by decide +kernel
theorem dX0_get_18 : decode cX0_get 18 = .ok (.if_icmp .lt 7, 3) := by decide +kernel
theorem dX0_get_21 : decode cX0_get 21 = .ok (.aconst_null, 1) := by decide +kernel
theorem dX0_get_22 : decode cX0_get 22 = .ok (.goto 9, 3) := by decide +kernel
theorem dX0_get_25 : decode cX0_get 25 = .ok (.aload_n 0, 1) := by decide +kernel
theorem dX0_get_26 : decode cX0_get 26 = .ok (.getfield 11, 3) := by decide +kernel
theorem dX0_get_29 : decode cX0_get 29 = .ok (.iload_n 1, 1) := by decide +kernel
theorem dX0_get_30 : decode cX0_get 30 = .ok (.aaload, 1) := by decide +kernel
theorem dX0_get_31 : decode cX0_get 31 = .ok (.areturn, 1) := by decide +kernel
theorem dX0_add_0 : decode cX0_add 0 = .ok (.aload_n 0, 1) := by decide +kernel
theorem dX0_add_1 : decode cX0_add 1 = .ok (.getfield 28, 3) := by decide +kernel
theorem dX0_add_4 : decode cX0_add 4 = .ok (.ifCond .lt 15, 3) := by decide +kernel
theorem dX0_add_7 : decode cX0_add 7 = .ok (.aload_n 0, 1) := by decide +kernel
theorem dX0_add_8 : decode cX0_add 8 = .ok (.getfield 28, 3) := by decide +kernel
theorem dX0_add_11 : decode cX0_add 11 = .ok (.aload_n 0, 1) := by decide +kernel
theorem dX0_add_12 : decode cX0_add 12 = .ok (.getfield 11, 3) := by decide +kernel
theorem dX0_add_15 : decode cX0_add 15 = .ok (.arraylength, 1) := by decide +kernel
theorem dX0_add_16 : decode cX0_add 16 = .ok (.if_icmp .lt 5, 3) := by decide +kernel
theorem dX0_add_19 : decode cX0_add 19 = .ok (.iconst (-1), 1) := by decide +kernel
theorem dX0_add_20 : decode cX0_add 20 = .ok (.ireturn, 1) := by decide +kernel
theorem dX0_add_21 : decode cX0_add 21 = .ok (.aload_n 0, 1) := by decide +kernel
theorem dX0_add_22 : decode cX0_add 22 = .ok (.getfield 11, 3) := by decide +kernel
theorem dX0_add_25 : decode cX0_add 25 = .ok (.aload_n 0, 1) := by decide +kernel
theorem dX0_add_26 : decode cX0_add 26 = .ok (.getfield 28, 3) := by decide +kernel
theorem dX0_add_29 : decode cX0_add 29 = .ok (.aaload, 1) := by decide +kernel
theorem dX0_add_30 : decode cX0_add 30 = .ok (.aload_n 1, 1) := by decide +kernel
theorem dX0_add_31 : decode cX0_add 31 = .ok (.invokevirtual 32, 3) := by decide +kernel
theorem dX0_add_34 : decode cX0_add 34 = .ok (.aload_n 0, 1) := by decide +kernel
theorem dX0_add_35 : decode cX0_add 35 = .ok (.dup, 1) := by decide +kernel
theorem dX0_add_36 : decode cX0_add 36 = .ok (.getfield 28, 3) := by decide +kernel
theorem dX0_add_39 : decode cX0_add 39 = .ok (.iconst 1, 1) := by decide +kernel
theorem dX0_add_40 : decode cX0_add 40 = .ok (.iadd, 1) := by decide +kernel
theorem dX0_add_41 : decode cX0_add 41 = .ok (.putfield 28, 3) := by decide +kernel
theorem dX0_add_44 : decode cX0_add 44 = .ok (.aload_n 0, 1) := by decide +kernel
theorem dX0_add_45 : decode cX0_add 45 = .ok (.getfield 28, 3) := by decide +kernel
theorem dX0_add_48 : decode cX0_add 48 = .ok (.iconst 1, 1) := by decide +kernel
theorem dX0_add_49 : decode cX0_add 49 = .ok (.isub, 1) := by decide +kernel
theorem dX0_add_50 : decode cX0_add 50 = .ok (.ireturn, 1) := by decide +kernel
theorem dX0_signCount_0 : decode cX0_signCount 0 = .ok (.iconst 0, 1) := by decide +kernel
theorem dX0_signCount_1 : decode cX0_signCount 1 = .ok (.istore_n 1, 1) := by decide +kernel
theorem dX0_signCount_2 : decode cX0_signCount 2 = .ok (.iconst 0, 1) := by decide +kernel
theorem dX0_signCount_3 : decode cX0_signCount 3 = .ok (.istore_n 2, 1) := by decide +kernel
theorem dX0_signCount_4 : decode cX0_signCount 4 = .ok (.iload_n 2, 1) := by decide +kernel
theorem dX0_signCount_5 : decode cX0_signCount 5 = .ok (.aload_n 0, 1) := by decide +kernel
theorem dX0_signCount_6 : decode cX0_signCount 6 = .ok (.getfield 28, 3) := by decide +kernel
theorem dX0_signCount_9 : decode cX0_signCount 9 = .ok (.if_icmp .ge 30, 3) := by decide +kernel
theorem dX0_signCount_12 : decode cX0_signCount 12 = .ok (.iload_n 2, 1) := by decide +kernel
theorem dX0_signCount_13 : decode cX0_signCount 13 = .ok (.aload_n 0, 1) := by decide +kernel
theorem dX0_signCount_14 : decode cX0_signCount 14 = .ok (.getfield 11, 3) := by decide +kernel
theorem dX0_signCount_17 : decode cX0_signCount 17 = .ok (.arraylength, 1) := by decide +kernel
theorem dX0_signCount_18 : decode cX0_signCount 18 = .ok (.if_icmp .ge 21, 3) := by decide +kernel
theorem dX0_signCount_21 : decode cX0_signCount 21 = .ok (.iload_n 1, 1) := by decide +kernel
theorem dX0_signCount_22 : decode cX0_signCount 22 = .ok (.aload_n 0, 1) := by decide +kernel
theorem dX0_signCount_23 : decode cX0_signCount 23 = .ok (.getfield 11, 3) := by decide +kernel
theorem dX0_signCount_26 : decode cX0_signCount 26 = .ok (.iload_n 2, 1) := by decide +kernel
theorem dX0_signCount_27 : decode cX0_signCount 27 = .ok (.aaload, 1) := by decide +kernel
theorem dX0_signCount_28 : decode cX0_signCount 28 = .ok (.invokevirtual 42, 3) := by decide +kernel
theorem dX0_signCount_31 : decode cX0_signCount 31 = .ok (.iadd, 1) := by decide +kernel
theorem dX0_signCount_32 : decode cX0_signCount 32 = .ok (.istore_n 1, 1) := by decide +kernel
theorem dX0_signCount_33 : decode cX0_signCount 33 = .ok (.iinc 2 1, 3) := by decide +kernel
theorem dX0_signCount_36 : decode cX0_signCount 36 = .ok (.goto (-32), 3) := by decide +kernel
theorem dX0_signCount_39 : decode cX0_signCount 39 = .ok (.iload_n 1, 1) := by decide +kernel
theorem dX0_signCount_40 : decode cX0_signCount 40 = .ok (.ireturn, 1) := by decide +kernel
theorem dX0_setWeight_0 : decode cX0_setWeight 0 = .ok (.iload_n 1, 1) := by decide +kernel
theorem dX0_setWeight_1 : decode cX0_setWeight 1 = .ok (.ifCond .lt 12, 3) := by decide +kernel
theorem dX0_setWeight_4 : decode cX0_setWeight 4 = .ok (.iload_n 1, 1) := by decide +kernel
theorem dX0_setWeight_5 : decode cX0_setWeight 5 = .ok (.aload_n 0, 1) := by decide +kernel
theorem dX0_setWeight_6 : decode cX0_setWeight 6 = .ok (.getfield 17, 3) := by decide +kernel
theorem dX0_setWeight_9 : decode cX0_setWeight 9 = .ok (.arraylength, 1) := by decide +kernel
theorem dX0_setWeight_10 : decode cX0_setWeight 10 = .ok (.if_icmp .lt 5, 3) := by decide +kernel
theorem dX0_setWeight_13 : decode cX0_setWeight 13 = .ok (.iconst 0, 1) := by decide +kernel
theorem dX0_setWeight_14 : decode cX0_setWeight 14 = .ok (.ireturn, 1) := by decide +kernel
theorem dX0_setWeight_15 : decode cX0_setWeight 15 = .ok (.aload_n 0, 1) := by decide +kernel
theorem dX0_setWeight_16 : decode cX0_setWeight 16 = .ok (.getfield 17, 3) := by decide +kernel
theorem dX0_setWeight_19 : decode cX0_setWeight 19 = .ok (.iload_n 1, 1) := by decide +kernel
theorem dX0_setWeight_20 : decode cX0_setWeight 20 = .ok (.iload_n 2, 1) := by decide +kernel
theorem dX0_setWeight_21 : decode cX0_setWeight 21 = .ok (.iastore, 1) := by decide +kernel
theorem dX0_setWeight_22 : decode cX0_setWeight 22 = .ok (.iconst 1, 1) := by decide +kernel
theorem dX0_setWeight_23 : decode cX0_setWeight 23 = .ok (.ireturn, 1) := by decide +kernel
theorem dX0_weightOf_0 : decode cX0_weightOf 0 = .ok (.iload_n 1, 1) := by decide +kernel
theorem dX0_weightOf_1 : decode cX0_weightOf 1 = .ok (.ifCond .lt 12, 3) := by decide +kernel
theorem dX0_weightOf_4 : decode cX0_weightOf 4 = .ok (.iload_n 1, 1) := by decide +kernel
theorem dX0_weightOf_5 : decode cX0_weightOf 5 = .ok (.aload_n 0, 1) := by decide +kernel
theorem dX0_weightOf_6 : decode cX0_weightOf 6 = .ok (.getfield 17, 3) := by decide +kernel
theorem dX0_weightOf_9 : decode cX0_weightOf 9 = .ok (.arraylength, 1) := by decide +kernel
theorem dX0_weightOf_10 : decode cX0_weightOf 10 = .ok (.if_icmp .lt 7, 3) := by decide +kernel
theorem dX0_weightOf_13 : decode cX0_weightOf 13 = .ok (.iconst (-1), 1) := by decide +kernel
theorem dX0_weightOf_14 : decode cX0_weightOf 14 = .ok (.goto 9, 3) := by decide +kernel
theorem dX0_weightOf_17 : decode cX0_weightOf 17 = .ok (.aload_n 0, 1) := by decide +kernel
theorem dX0_weightOf_18 : decode cX0_weightOf 18 = .ok (.getfield 17, 3) := by decide +kernel
theorem dX0_weightOf_21 : decode cX0_weightOf 21 = .ok (.iload_n 1, 1) := by decide +kernel
theorem dX0_weightOf_22 : decode cX0_weightOf 22 = .ok (.iaload, 1) := by decide +kernel
theorem dX0_weightOf_23 : decode cX0_weightOf 23 = .ok (.ireturn, 1) := by decide +kernel
theorem dX0_commonCount_0 : decode cX0_commonCount 0 = .ok (.iconst 0, 1) := by decide +kernel
theorem dX0_commonCount_1 : decode cX0_commonCount 1 = .ok (.istore_n 2, 1) := by decide +kernel
theorem dX0_commonCount_2 : decode cX0_commonCount 2 = .ok (.iconst 0, 1) := by decide +kernel
theorem dX0_commonCount_3 : decode cX0_commonCount 3 = .ok (.istore_n 3, 1) := by decide +kernel
theorem dX0_commonCount_4 : decode cX0_commonCount 4 = .ok (.iload_n 3, 1) := by decide +kernel
theorem dX0_commonCount_5 : decode cX0_commonCount 5 = .ok (.bipush 12, 2) := by decide +kernel
theorem dX0_commonCount_7 : decode cX0_commonCount 7 = .ok (.if_icmp .ge 81, 3) := by decide +kernel
theorem dX0_commonCount_10 : decode cX0_commonCount 10 = .ok (.iconst 0, 1) := by decide +kernel
theorem dX0_commonCount_11 : decode cX0_commonCount 11 = .ok (.istore 4, 2) := by decide +kernel
theorem dX0_commonCount_13 : decode cX0_commonCount 13 = .ok (.iconst 0, 1) := by decide +kernel
theorem dX0_commonCount_14 : decode cX0_commonCount 14 = .ok (.istore 5, 2) := by decide +kernel
theorem dX0_commonCount_16 : decode cX0_commonCount 16 = .ok (.iload 5, 2) := by decide +kernel
theorem dX0_commonCount_18 : decode cX0_commonCount 18 = .ok (.bipush 24, 2) := by decide +kernel
theorem dX0_commonCount_20 : decode cX0_commonCount 20 = .ok (.if_icmp .ge 25, 3) := by decide +kernel
theorem dX0_commonCount_23 : decode cX0_commonCount 23 = .ok (.iload 4, 2) := by decide +kernel
theorem dX0_commonCount_25 : decode cX0_commonCount 25 = .ok (.aload_n 0, 1) := by decide +kernel
theorem dX0_commonCount_26 : decode cX0_commonCount 26 = .ok (.iload_n 1, 1) := by decide +kernel
theorem dX0_commonCount_27 : decode cX0_commonCount 27 = .ok (.iload_n 3, 1) := by decide +kernel
theorem dX0_commonCount_28 : decode cX0_commonCount 28 = .ok (.iload 5, 2) := by decide +kernel
theorem dX0_commonCount_30 : decode cX0_commonCount 30 = .ok (.invokevirtual 46, 3) := by decide +kernel
theorem dX0_commonCount_33 : decode cX0_commonCount 33 = .ok (.invokestatic 50, 3) := by decide +kernel
theorem dX0_commonCount_36 : decode cX0_commonCount 36 = .ok (.iadd, 1) := by decide +kernel
theorem dX0_commonCount_37 : decode cX0_commonCount 37 = .ok (.istore 4, 2) := by decide +kernel
theorem dX0_commonCount_39 : decode cX0_commonCount 39 = .ok (.iinc 5 1, 3) := by decide +kernel
theorem dX0_commonCount_42 : decode cX0_commonCount 42 = .ok (.goto (-26), 3) := by decide +kernel
theorem dX0_commonCount_45 : decode cX0_commonCount 45 = .ok (.iload_n 3, 1) := by decide +kernel
theorem dX0_commonCount_46 : decode cX0_commonCount 46 = .ok (.istore 5, 2) := by decide +kernel
theorem dX0_commonCount_48 : decode cX0_commonCount 48 = .ok (.iload 5, 2) := by decide +kernel
theorem dX0_commonCount_50 : decode cX0_commonCount 50 = .ok (.bipush 120, 2) := by decide +kernel
theorem dX0_commonCount_52 : decode cX0_commonCount 52 = .ok (.if_icmp .ge 30, 3) := by decide +kernel
theorem dX0_commonCount_55 : decode cX0_commonCount 55 = .ok (.iload 4, 2) := by decide +kernel
theorem dX0_commonCount_57 : decode cX0_commonCount 57 = .ok (.ifCond .le 25, 3) := by decide +kernel
theorem dX0_commonCount_60 : decode cX0_commonCount 60 = .ok (.iload_n 2, 1) := by decide +kernel
theorem dX0_commonCount_61 : decode cX0_commonCount 61 = .ok (.aload_n 0, 1) := by decide +kernel
theorem dX0_commonCount_62 : decode cX0_commonCount 62 = .ok (.iload_n 1, 1) := by decide +kernel
theorem dX0_commonCount_63 : decode cX0_commonCount 63 = .ok (.iload 5, 2) := by decide +kernel
theorem dX0_commonCount_65 : decode cX0_commonCount 65 = .ok (.invokevirtual 56, 3) := by decide +kernel
theorem dX0_commonCount_68 : decode cX0_commonCount 68 = .ok (.invokestatic 50, 3) := by decide +kernel
theorem dX0_commonCount_71 : decode cX0_commonCount 71 = .ok (.iload 4, 2) := by decide +kernel
theorem dX0_commonCount_73 : decode cX0_commonCount 73 = .ok (.imul, 1) := by decide +kernel
theorem dX0_commonCount_74 : decode cX0_commonCount 74 = .ok (.iadd, 1) := by decide +kernel
theorem dX0_commonCount_75 : decode cX0_commonCount 75 = .ok (.istore_n 2, 1) := by decide +kernel
theorem dX0_commonCount_76 : decode cX0_commonCount 76 = .ok (.iinc 5 12, 3) := by decide +kernel
theorem dX0_commonCount_79 : decode cX0_commonCount 79 = .ok (.goto (-31), 3) := by decide +kernel
theorem dX0_commonCount_82 : decode cX0_commonCount 82 = .ok (.iinc 3 1, 3) := by decide +kernel
theorem dX0_commonCount_85 : decode cX0_commonCount 85 = .ok (.goto (-81), 3) := by decide +kernel
theorem dX0_commonCount_88 : decode cX0_commonCount 88 = .ok (.iload_n 2, 1) := by decide +kernel
theorem dX0_commonCount_89 : decode cX0_commonCount 89 = .ok (.ireturn, 1) := by decide +kernel
theorem dX0_firstCommon_0 : decode cX0_firstCommon 0 = .ok (.iconst 0, 1) := by decide +kernel
theorem dX0_firstCommon_1 : decode cX0_firstCommon 1 = .ok (.istore_n 2, 1) := by decide +kernel
theorem dX0_firstCommon_2 : decode cX0_firstCommon 2 = .ok (.iload_n 2, 1) := by decide +kernel
theorem dX0_firstCommon_3 : decode cX0_firstCommon 3 = .ok (.bipush 120, 2) := by decide +kernel
theorem dX0_firstCommon_5 : decode cX0_firstCommon 5 = .ok (.if_icmp .ge 58, 3) := by decide +kernel
theorem dX0_firstCommon_8 : decode cX0_firstCommon 8 = .ok (.aload_n 0, 1) := by decide +kernel
theorem dX0_firstCommon_9 : decode cX0_firstCommon 9 = .ok (.iload_n 1, 1) := by decide +kernel
theorem dX0_firstCommon_10 : decode cX0_firstCommon 10 = .ok (.iload_n 2, 1) := by decide +kernel
theorem dX0_firstCommon_11 : decode cX0_firstCommon 11 = .ok (.invokevirtual 56, 3) := by decide +kernel
theorem dX0_firstCommon_14 : decode cX0_firstCommon 14 = .ok (.istore_n 3, 1) := by decide +kernel
theorem dX0_firstCommon_15 : decode cX0_firstCommon 15 = .ok (.iload_n 3, 1) := by decide +kernel
theorem dX0_firstCommon_16 : decode cX0_firstCommon 16 = .ok (.ifCond .ne 7, 3) := by decide +kernel
theorem dX0_firstCommon_19 : decode cX0_firstCommon 19 = .ok (.iconst (-1), 1) := by decide +kernel
theorem dX0_firstCommon_20 : decode cX0_firstCommon 20 = .ok (.goto 12, 3) := by decide +kernel
theorem dX0_firstCommon_23 : decode cX0_firstCommon 23 = .ok (.aload_n 0, 1) := by decide +kernel
theorem dX0_firstCommon_24 : decode cX0_firstCommon 24 = .ok (.iload_n 1, 1) := by decide +kernel
theorem dX0_firstCommon_25 : decode cX0_firstCommon 25 = .ok (.iload_n 2, 1) := by decide +kernel
theorem dX0_firstCommon_26 : decode cX0_firstCommon 26 = .ok (.bipush 12, 2) := by decide +kernel
theorem dX0_firstCommon_28 : decode cX0_firstCommon 28 = .ok (.irem, 1) := by decide +kernel
theorem dX0_firstCommon_29 : decode cX0_firstCommon 29 = .ok (.invokevirtual 60, 3) := by decide +kernel
theorem dX0_firstCommon_32 : decode cX0_firstCommon 32 = .ok (.istore 4, 2) := by decide +kernel
theorem dX0_firstCommon_34 : decode cX0_firstCommon 34 = .ok (.iload 4, 2) := by decide +kernel
theorem dX0_firstCommon_36 : decode cX0_firstCommon 36 = .ok (.iconst (-1), 1) := by decide +kernel
theorem dX0_firstCommon_37 : decode cX0_firstCommon 37 = .ok (.if_icmp .eq 20, 3) := by decide +kernel
theorem dX0_firstCommon_40 : decode cX0_firstCommon 40 = .ok (.iload_n 2, 1) := by decide +kernel
theorem dX0_firstCommon_41 : decode cX0_firstCommon 41 = .ok (.bipush 30, 2) := by decide +kernel
theorem dX0_firstCommon_43 : decode cX0_firstCommon 43 = .ok (.imul, 1) := by decide +kernel
theorem dX0_firstCommon_44 : decode cX0_firstCommon 44 = .ok (.iload_n 3, 1) := by decide +kernel
theorem dX0_firstCommon_45 : decode cX0_firstCommon 45 = .ok (.invokestatic 63, 3) := by decide +kernel
theorem dX0_firstCommon_48 : decode cX0_firstCommon 48 = .ok (.iadd, 1) := by decide +kernel
theorem dX0_firstCommon_49 : decode cX0_firstCommon 49 = .ok (.sipush 720, 3) := by decide +kernel
theorem dX0_firstCommon_52 : decode cX0_firstCommon 52 = .ok (.imul, 1) := by decide +kernel
theorem dX0_firstCommon_53 : decode cX0_firstCommon 53 = .ok (.iload 4, 2) := by decide +kernel
theorem dX0_firstCommon_55 : decode cX0_firstCommon 55 = .ok (.iadd, 1) := by decide +kernel
theorem dX0_firstCommon_56 : decode cX0_firstCommon 56 = .ok (.ireturn, 1) := by decide +kernel
theorem dX0_firstCommon_57 : decode cX0_firstCommon 57 = .ok (.iinc 2 1, 3) := by decide +kernel
theorem dX0_firstCommon_60 : decode cX0_firstCommon 60 = .ok (.goto (-58), 3) := by decide +kernel
theorem dX0_firstCommon_63 : decode cX0_firstCommon 63 = .ok (.iconst (-1), 1) := by decide +kernel
theorem dX0_firstCommon_64 : decode cX0_firstCommon 64 = .ok (.ireturn, 1) := by decide +kernel
theorem dX0_mostMeeting_0 : decode cX0_mostMeeting 0 = .ok (.iconst 0, 1) := by decide +kernel
theorem dX0_mostMeeting_1 : decode cX0_mostMeeting 1 = .ok (.istore_n 2, 1) := by decide +kernel
theorem dX0_mostMeeting_2 : decode cX0_mostMeeting 2 = .ok (.iconst 1, 1) := by decide +kernel
theorem dX0_mostMeeting_3 : decode cX0_mostMeeting 3 = .ok (.istore_n 3, 1) := by decide +kernel
theorem dX0_mostMeeting_4 : decode cX0_mostMeeting 4 = .ok (.iload_n 3, 1) := by decide +kernel
theorem dX0_mostMeeting_5 : decode cX0_mostMeeting 5 = .ok (.iload_n 1, 1) := by decide +kernel
theorem dX0_mostMeeting_6 : decode cX0_mostMeeting 6 = .ok (.if_icmp .gt 58, 3) := by decide +kernel
theorem dX0_mostMeeting_9 : decode cX0_mostMeeting 9 = .ok (.iload_n 3, 1) := by decide +kernel
theorem dX0_mostMeeting_10 : decode cX0_mostMeeting 10 = .ok (.sipush 256, 3) := by decide +kernel
theorem dX0_mostMeeting_13 : decode cX0_mostMeeting 13 = .ok (.if_icmp .ge 51, 3) := by decide +kernel
theorem dX0_mostMeeting_16 : decode cX0_mostMeeting 16 = .ok (.iload_n 3, 1) := by decide +kernel
theorem dX0_mostMeeting_17 : decode cX0_mostMeeting 17 = .ok (.invokestatic 50, 3) := by decide +kernel
theorem dX0_mostMeeting_20 : decode cX0_mostMeeting 20 = .ok (.iload_n 2, 1) := by decide +kernel
theorem dX0_mostMeeting_21 : decode cX0_mostMeeting 21 = .ok (.invokestatic 50, 3) := by decide +kernel
theorem dX0_mostMeeting_24 : decode cX0_mostMeeting 24 = .ok (.if_icmp .le 7, 3) := by decide +kernel
theorem dX0_mostMeeting_27 : decode cX0_mostMeeting 27 = .ok (.iconst 1, 1) := by decide +kernel
theorem dX0_mostMeeting_28 : decode cX0_mostMeeting 28 = .ok (.goto 4, 3) := by decide +kernel
theorem dX0_mostMeeting_31 : decode cX0_mostMeeting 31 = .ok (.iconst 0, 1) := by decide +kernel
theorem dX0_mostMeeting_32 : decode cX0_mostMeeting 32 = .ok (.istore 4, 2) := by decide +kernel
theorem dX0_mostMeeting_34 : decode cX0_mostMeeting 34 = .ok (.iload_n 3, 1) := by decide +kernel
theorem dX0_mostMeeting_35 : decode cX0_mostMeeting 35 = .ok (.iload_n 1, 1) := by decide +kernel
theorem dX0_mostMeeting_36 : decode cX0_mostMeeting 36 = .ok (.iconst (-1), 1) := by decide +kernel
theorem dX0_mostMeeting_37 : decode cX0_mostMeeting 37 = .ok (.ixor, 1) := by decide +kernel
theorem dX0_mostMeeting_38 : decode cX0_mostMeeting 38 = .ok (.iand, 1) := by decide +kernel
theorem dX0_mostMeeting_39 : decode cX0_mostMeeting 39 = .ok (.ifCond .ne 19, 3) := by decide +kernel
theorem dX0_mostMeeting_42 : decode cX0_mostMeeting 42 = .ok (.iload 4, 2) := by decide +kernel
theorem dX0_mostMeeting_44 : decode cX0_mostMeeting 44 = .ok (.ifCond .eq 14, 3) := by decide +kernel
theorem dX0_mostMeeting_47 : decode cX0_mostMeeting 47 = .ok (.aload_n 0, 1) := by decide +kernel
theorem dX0_mostMeeting_48 : decode cX0_mostMeeting 48 = .ok (.iload_n 3, 1) := by decide +kernel
theorem dX0_mostMeeting_49 : decode cX0_mostMeeting 49 = .ok (.invokevirtual 66, 3) := by decide +kernel
theorem dX0_mostMeeting_52 : decode cX0_mostMeeting 52 = .ok (.iconst (-1), 1) := by decide +kernel
theorem dX0_mostMeeting_53 : decode cX0_mostMeeting 53 = .ok (.if_icmp .eq 5, 3) := by decide +kernel
theorem dX0_mostMeeting_56 : decode cX0_mostMeeting 56 = .ok (.iload_n 3, 1) := by decide +kernel
theorem dX0_mostMeeting_57 : decode cX0_mostMeeting 57 = .ok (.istore_n 2, 1) := by decide +kernel
theorem dX0_mostMeeting_58 : decode cX0_mostMeeting 58 = .ok (.iinc 3 1, 3) := by decide +kernel
theorem dX0_mostMeeting_61 : decode cX0_mostMeeting 61 = .ok (.goto (-57), 3) := by decide +kernel
theorem dX0_mostMeeting_64 : decode cX0_mostMeeting 64 = .ok (.iload_n 2, 1) := by decide +kernel
theorem dX0_mostMeeting_65 : decode cX0_mostMeeting 65 = .ok (.ireturn, 1) := by decide +kernel
theorem dX0_firstCommonMinute_0 : decode cX0_firstCommonMinute 0 = .ok (.iconst 0, 1) := by decide +kernel
theorem dX0_firstCommonMinute_1 : decode cX0_firstCommonMinute 1 = .ok (.istore_n 3, 1) := by decide +kernel
theorem dX0_firstCommonMinute_2 : decode cX0_firstCommonMinute 2 = .ok (.iload_n 3, 1) := by decide +kernel
theorem dX0_firstCommonMinute_3 : decode cX0_firstCommonMinute 3 = .ok (.bipush 24, 2) := by decide +kernel
theorem dX0_firstCommonMinute_5 : decode cX0_firstCommonMinute 5 = .ok (.if_icmp .ge 34, 3) := by decide +kernel
theorem dX0_firstCommonMinute_8 : decode cX0_firstCommonMinute 8 = .ok (.aload_n 0, 1) := by decide +kernel
theorem dX0_firstCommonMinute_9 : decode cX0_firstCommonMinute 9 = .ok (.iload_n 1, 1) := by decide +kernel
theorem dX0_firstCommonMinute_10 : decode cX0_firstCommonMinute 10 = .ok (.iload_n 2, 1) := by decide +kernel
theorem dX0_firstCommonMinute_11 : decode cX0_firstCommonMinute 11 = .ok (.iload_n 3, 1) := by decide +kernel
theorem dX0_firstCommonMinute_12 : decode cX0_firstCommonMinute 12 = .ok (.invokevirtual 46, 3) := by decide +kernel
theorem dX0_firstCommonMinute_15 : decode cX0_firstCommonMinute 15 = .ok (.istore 4, 2) := by decide +kernel
theorem dX0_firstCommonMinute_17 : decode cX0_firstCommonMinute 17 = .ok (.iload 4, 2) := by decide +kernel
theorem dX0_firstCommonMinute_19 : decode cX0_firstCommonMinute 19 = .ok (.ifCond .eq 14, 3) := by decide +kernel
theorem dX0_firstCommonMinute_22 : decode cX0_firstCommonMinute 22 = .ok (.iload_n 3, 1) := by decide +kernel
theorem dX0_firstCommonMinute_23 : decode cX0_firstCommonMinute 23 = .ok (.bipush 30, 2) := by decide +kernel
theorem dX0_firstCommonMinute_25 : decode cX0_firstCommonMinute 25 = .ok (.imul, 1) := by decide +kernel
theorem dX0_firstCommonMinute_26 : decode cX0_firstCommonMinute 26 = .ok (.iload 4, 2) := by decide +kernel
theorem dX0_firstCommonMinute_28 : decode cX0_firstCommonMinute 28 = .ok (.invokestatic 63, 3) := by decide +kernel
theorem dX0_firstCommonMinute_31 : decode cX0_firstCommonMinute 31 = .ok (.iadd, 1) := by decide +kernel
theorem dX0_firstCommonMinute_32 : decode cX0_firstCommonMinute 32 = .ok (.ireturn, 1) := by decide +kernel
theorem dX0_firstCommonMinute_33 : decode cX0_firstCommonMinute 33 = .ok (.iinc 3 1, 3) := by decide +kernel
theorem dX0_firstCommonMinute_36 : decode cX0_firstCommonMinute 36 = .ok (.goto (-34), 3) := by decide +kernel
theorem dX0_firstCommonMinute_39 : decode cX0_firstCommonMinute 39 = .ok (.iconst (-1), 1) := by decide +kernel
theorem dX0_firstCommonMinute_40 : decode cX0_firstCommonMinute 40 = .ok (.ireturn, 1) := by decide +kernel
theorem dX0_commonDays_0 : decode cX0_commonDays 0 = .ok (.ldc 69, 2) := by decide +kernel
theorem dX0_commonDays_2 : decode cX0_commonDays 2 = .ok (.istore_n 3, 1) := by decide +kernel
theorem dX0_commonDays_3 : decode cX0_commonDays 3 = .ok (.iconst 0, 1) := by decide +kernel
theorem dX0_commonDays_4 : decode cX0_commonDays 4 = .ok (.istore 4, 2) := by decide +kernel
theorem dX0_commonDays_6 : decode cX0_commonDays 6 = .ok (.iload 4, 2) := by decide +kernel
theorem dX0_commonDays_8 : decode cX0_commonDays 8 = .ok (.aload_n 0, 1) := by decide +kernel
theorem dX0_commonDays_9 : decode cX0_commonDays 9 = .ok (.getfield 28, 3) := by decide +kernel
theorem dX0_commonDays_12 : decode cX0_commonDays 12 = .ok (.if_icmp .ge 50, 3) := by decide +kernel
theorem dX0_commonDays_15 : decode cX0_commonDays 15 = .ok (.iload 4, 2) := by decide +kernel
theorem dX0_commonDays_17 : decode cX0_commonDays 17 = .ok (.aload_n 0, 1) := by decide +kernel
theorem dX0_commonDays_18 : decode cX0_commonDays 18 = .ok (.getfield 11, 3) := by decide +kernel
theorem dX0_commonDays_21 : decode cX0_commonDays 21 = .ok (.arraylength, 1) := by decide +kernel
theorem dX0_commonDays_22 : decode cX0_commonDays 22 = .ok (.if_icmp .ge 40, 3) := by decide +kernel
theorem dX0_commonDays_25 : decode cX0_commonDays 25 = .ok (.iload_n 3, 1) := by decide +kernel
theorem dX0_commonDays_26 : decode cX0_commonDays 26 = .ok (.ifCond .eq 36, 3) := by decide +kernel
theorem dX0_commonDays_29 : decode cX0_commonDays 29 = .ok (.iload_n 1, 1) := by decide +kernel
theorem dX0_commonDays_30 : decode cX0_commonDays 30 = .ok (.iload 4, 2) := by decide +kernel
theorem dX0_commonDays_32 : decode cX0_commonDays 32 = .ok (.ishr, 1) := by decide +kernel
theorem dX0_commonDays_33 : decode cX0_commonDays 33 = .ok (.iconst 1, 1) := by decide +kernel
theorem dX0_commonDays_34 : decode cX0_commonDays 34 = .ok (.iand, 1) := by decide +kernel
theorem dX0_commonDays_35 : decode cX0_commonDays 35 = .ok (.iconst 1, 1) := by decide +kernel
theorem dX0_commonDays_36 : decode cX0_commonDays 36 = .ok (.if_icmp .ne 20, 3) := by decide +kernel
theorem dX0_commonDays_39 : decode cX0_commonDays 39 = .ok (.iload_n 3, 1) := by decide +kernel
theorem dX0_commonDays_40 : decode cX0_commonDays 40 = .ok (.aload_n 0, 1) := by decide +kernel
theorem dX0_commonDays_41 : decode cX0_commonDays 41 = .ok (.getfield 11, 3) := by decide +kernel
theorem dX0_commonDays_44 : decode cX0_commonDays 44 = .ok (.iload 4, 2) := by decide +kernel
theorem dX0_commonDays_46 : decode cX0_commonDays 46 = .ok (.aaload, 1) := by decide +kernel
theorem dX0_commonDays_47 : decode cX0_commonDays 47 = .ok (.invokevirtual 70, 3) := by decide +kernel
theorem dX0_commonDays_50 : decode cX0_commonDays 50 = .ok (.iload_n 2, 1) := by decide +kernel
theorem dX0_commonDays_51 : decode cX0_commonDays 51 = .ok (.invokevirtual 74, 3) := by decide +kernel
theorem dX0_commonDays_54 : decode cX0_commonDays 54 = .ok (.iand, 1) := by decide +kernel
theorem dX0_commonDays_55 : decode cX0_commonDays 55 = .ok (.istore_n 3, 1) := by decide +kernel
theorem dX0_commonDays_56 : decode cX0_commonDays 56 = .ok (.iinc 4 1, 3) := by decide +kernel
theorem dX0_commonDays_59 : decode cX0_commonDays 59 = .ok (.goto (-53), 3) := by decide +kernel
theorem dX0_commonDays_62 : decode cX0_commonDays 62 = .ok (.iload_n 3, 1) := by decide +kernel
theorem dX0_commonDays_63 : decode cX0_commonDays 63 = .ok (.ireturn, 1) := by decide +kernel
theorem dX0_commonMinutes_0 : decode cX0_commonMinutes 0 = .ok (.ldc 69, 2) := by decide +kernel
theorem dX0_commonMinutes_2 : decode cX0_commonMinutes 2 = .ok (.istore 4, 2) := by decide +kernel
theorem dX0_commonMinutes_4 : decode cX0_commonMinutes 4 = .ok (.iconst 0, 1) := by decide +kernel
theorem dX0_commonMinutes_5 : decode cX0_commonMinutes 5 = .ok (.istore 5, 2) := by decide +kernel
theorem dX0_commonMinutes_7 : decode cX0_commonMinutes 7 = .ok (.iload 5, 2) := by decide +kernel
theorem dX0_commonMinutes_9 : decode cX0_commonMinutes 9 = .ok (.aload_n 0, 1) := by decide +kernel
theorem dX0_commonMinutes_10 : decode cX0_commonMinutes 10 = .ok (.getfield 28, 3) := by decide +kernel
theorem dX0_commonMinutes_13 : decode cX0_commonMinutes 13 = .ok (.if_icmp .ge 54, 3) := by decide +kernel
theorem dX0_commonMinutes_16 : decode cX0_commonMinutes 16 = .ok (.iload 5, 2) := by decide +kernel
theorem dX0_commonMinutes_18 : decode cX0_commonMinutes 18 = .ok (.aload_n 0, 1) := by decide +kernel
theorem dX0_commonMinutes_19 : decode cX0_commonMinutes 19 = .ok (.getfield 11, 3) := by decide +kernel
theorem dX0_commonMinutes_22 : decode cX0_commonMinutes 22 = .ok (.arraylength, 1) := by decide +kernel
theorem dX0_commonMinutes_23 : decode cX0_commonMinutes 23 = .ok (.if_icmp .ge 44, 3) := by decide +kernel
theorem dX0_commonMinutes_26 : decode cX0_commonMinutes 26 = .ok (.iload 4, 2) := by decide +kernel
theorem dX0_commonMinutes_28 : decode cX0_commonMinutes 28 = .ok (.ifCond .eq 39, 3) := by decide +kernel
theorem dX0_commonMinutes_31 : decode cX0_commonMinutes 31 = .ok (.iload_n 1, 1) := by decide +kernel
theorem dX0_commonMinutes_32 : decode cX0_commonMinutes 32 = .ok (.iload 5, 2) := by decide +kernel
theorem dX0_commonMinutes_34 : decode cX0_commonMinutes 34 = .ok (.ishr, 1) := by decide +kernel
theorem dX0_commonMinutes_35 : decode cX0_commonMinutes 35 = .ok (.iconst 1, 1) := by decide +kernel
theorem dX0_commonMinutes_36 : decode cX0_commonMinutes 36 = .ok (.iand, 1) := by decide +kernel
theorem dX0_commonMinutes_37 : decode cX0_commonMinutes 37 = .ok (.iconst 1, 1) := by decide +kernel
theorem dX0_commonMinutes_38 : decode cX0_commonMinutes 38 = .ok (.if_icmp .ne 23, 3) := by decide +kernel
theorem dX0_commonMinutes_41 : decode cX0_commonMinutes 41 = .ok (.iload 4, 2) := by decide +kernel
theorem dX0_commonMinutes_43 : decode cX0_commonMinutes 43 = .ok (.aload_n 0, 1) := by decide +kernel
theorem dX0_commonMinutes_44 : decode cX0_commonMinutes 44 = .ok (.getfield 11, 3) := by decide +kernel
theorem dX0_commonMinutes_47 : decode cX0_commonMinutes 47 = .ok (.iload 5, 2) := by decide +kernel
theorem dX0_commonMinutes_49 : decode cX0_commonMinutes 49 = .ok (.aaload, 1) := by decide +kernel
theorem dX0_commonMinutes_50 : decode cX0_commonMinutes 50 = .ok (.invokevirtual 70, 3) := by decide +kernel
theorem dX0_commonMinutes_53 : decode cX0_commonMinutes 53 = .ok (.iload_n 2, 1) := by decide +kernel
theorem dX0_commonMinutes_54 : decode cX0_commonMinutes 54 = .ok (.iload_n 3, 1) := by decide +kernel
theorem dX0_commonMinutes_55 : decode cX0_commonMinutes 55 = .ok (.invokevirtual 79, 3) := by decide +kernel
theorem dX0_commonMinutes_58 : decode cX0_commonMinutes 58 = .ok (.iand, 1) := by decide +kernel
theorem dX0_commonMinutes_59 : decode cX0_commonMinutes 59 = .ok (.istore 4, 2) := by decide +kernel
theorem dX0_commonMinutes_61 : decode cX0_commonMinutes 61 = .ok (.iinc 5 1, 3) := by decide +kernel
theorem dX0_commonMinutes_64 : decode cX0_commonMinutes 64 = .ok (.goto (-57), 3) := by decide +kernel
theorem dX0_commonMinutes_67 : decode cX0_commonMinutes 67 = .ok (.iload 4, 2) := by decide +kernel
theorem dX0_commonMinutes_69 : decode cX0_commonMinutes 69 = .ok (.ireturn, 1) := by decide +kernel
theorem dX1_init_0 : decode cX1_init 0 = .ok (.aload_n 0, 1) := by decide +kernel
theorem dX1_init_1 : decode cX1_init 1 = .ok (.invokespecial 3, 3) := by decide +kernel
theorem dX1_init_4 : decode cX1_init 4 = .ok (.aload_n 0, 1) := by decide +kernel
theorem dX1_init_5 : decode cX1_init 5 = .ok (.aload_n 1, 1) := by decide +kernel
theorem dX1_init_6 : decode cX1_init 6 = .ok (.putfield 9, 3) := by decide +kernel
theorem dX1_init_9 : decode cX1_init 9 = .ok (.return_, 1) := by decide +kernel
theorem dX1_seesAll_0 : decode cX1_seesAll 0 = .ok (.iconst 0, 1) := by decide +kernel
theorem dX1_seesAll_1 : decode cX1_seesAll 1 = .ok (.istore 5, 2) := by decide +kernel
theorem dX1_seesAll_3 : decode cX1_seesAll 3 = .ok (.iload 5, 2) := by decide +kernel
theorem dX1_seesAll_5 : decode cX1_seesAll 5 = .ok (.aload_n 1, 1) := by decide +kernel
theorem dX1_seesAll_6 : decode cX1_seesAll 6 = .ok (.invokevirtual 15, 3) := by decide +kernel
theorem dX1_seesAll_9 : decode cX1_seesAll 9 = .ok (.if_icmp .ge 48, 3) := by decide +kernel
theorem dX1_seesAll_12 : decode cX1_seesAll 12 = .ok (.aload_n 1, 1) := by decide +kernel
theorem dX1_seesAll_13 : decode cX1_seesAll 13 = .ok (.iload 5, 2) := by decide +kernel
theorem dX1_seesAll_15 : decode cX1_seesAll 15 = .ok (.iconst 0, 1) := by decide +kernel
theorem dX1_seesAll_16 : decode cX1_seesAll 16 = .ok (.invokevirtual 21, 3) := by decide +kernel
theorem dX1_seesAll_19 : decode cX1_seesAll 19 = .ok (.istore 6, 2) := by decide +kernel
theorem dX1_seesAll_21 : decode cX1_seesAll 21 = .ok (.iload 6, 2) := by decide +kernel
theorem dX1_seesAll_23 : decode cX1_seesAll 23 = .ok (.bipush 8, 2) := by decide +kernel
theorem dX1_seesAll_25 : decode cX1_seesAll 25 = .ok (.if_icmp .eq 10, 3) := by decide +kernel
theorem dX1_seesAll_28 : decode cX1_seesAll 28 = .ok (.iload 6, 2) := by decide +kernel
theorem dX1_seesAll_30 : decode cX1_seesAll 30 = .ok (.bipush 9, 2) := by decide +kernel
theorem dX1_seesAll_32 : decode cX1_seesAll 32 = .ok (.if_icmp .ne 19, 3) := by decide +kernel
theorem dX1_seesAll_35 : decode cX1_seesAll 35 = .ok (.aload_n 0, 1) := by decide +kernel
theorem dX1_seesAll_36 : decode cX1_seesAll 36 = .ok (.aload_n 1, 1) := by decide +kernel
theorem dX1_seesAll_37 : decode cX1_seesAll 37 = .ok (.iload 5, 2) := by decide +kernel
theorem dX1_seesAll_39 : decode cX1_seesAll 39 = .ok (.iload_n 2, 1) := by decide +kernel
theorem dX1_seesAll_40 : decode cX1_seesAll 40 = .ok (.iload_n 3, 1) := by decide +kernel
theorem dX1_seesAll_41 : decode cX1_seesAll 41 = .ok (.iload 4, 2) := by decide +kernel
theorem dX1_seesAll_43 : decode cX1_seesAll 43 = .ok (.invokevirtual 25, 3) := by decide +kernel
theorem dX1_seesAll_46 : decode cX1_seesAll 46 = .ok (.ifCond .ne 5, 3) := by decide +kernel
theorem dX1_seesAll_49 : decode cX1_seesAll 49 = .ok (.iconst 0, 1) := by decide +kernel
theorem dX1_seesAll_50 : decode cX1_seesAll 50 = .ok (.ireturn, 1) := by decide +kernel
theorem dX1_seesAll_51 : decode cX1_seesAll 51 = .ok (.iinc 5 1, 3) := by decide +kernel
theorem dX1_seesAll_54 : decode cX1_seesAll 54 = .ok (.goto (-51), 3) := by decide +kernel
theorem dX1_seesAll_57 : decode cX1_seesAll 57 = .ok (.iconst 1, 1) := by decide +kernel
theorem dX1_seesAll_58 : decode cX1_seesAll 58 = .ok (.ireturn, 1) := by decide +kernel
theorem dX1_sees_0 : decode cX1_sees 0 = .ok (.aload_n 1, 1) := by decide +kernel
theorem dX1_sees_1 : decode cX1_sees 1 = .ok (.iload_n 2, 1) := by decide +kernel
theorem dX1_sees_2 : decode cX1_sees 2 = .ok (.iconst 1, 1) := by decide +kernel
theorem dX1_sees_3 : decode cX1_sees 3 = .ok (.invokevirtual 21, 3) := by decide +kernel
theorem dX1_sees_6 : decode cX1_sees 6 = .ok (.istore 6, 2) := by decide +kernel
theorem dX1_sees_8 : decode cX1_sees 8 = .ok (.aload_n 1, 1) := by decide +kernel
theorem dX1_sees_9 : decode cX1_sees 9 = .ok (.iload_n 2, 1) := by decide +kernel
theorem dX1_sees_10 : decode cX1_sees 10 = .ok (.iconst 2, 1) := by decide +kernel
theorem dX1_sees_11 : decode cX1_sees 11 = .ok (.invokevirtual 21, 3) := by decide +kernel
theorem dX1_sees_14 : decode cX1_sees 14 = .ok (.istore 7, 2) := by decide +kernel
theorem dX1_sees_16 : decode cX1_sees 16 = .ok (.aload_n 0, 1) := by decide +kernel
theorem dX1_sees_17 : decode cX1_sees 17 = .ok (.getfield 9, 3) := by decide +kernel
theorem dX1_sees_20 : decode cX1_sees 20 = .ok (.iconst 2, 1) := by decide +kernel
theorem dX1_sees_21 : decode cX1_sees 21 = .ok (.iload 6, 2) := by decide +kernel
theorem dX1_sees_23 : decode cX1_sees 23 = .ok (.iconst 0, 1) := by decide +kernel
theorem dX1_sees_24 : decode cX1_sees 24 = .ok (.invokevirtual 29, 3) := by decide +kernel
theorem dX1_sees_27 : decode cX1_sees 27 = .ok (.iload 4, 2) := by decide +kernel
theorem dX1_sees_29 : decode cX1_sees 29 = .ok (.isub, 1) := by decide +kernel
theorem dX1_sees_30 : decode cX1_sees 30 = .ok (.istore 8, 2) := by decide +kernel
theorem dX1_sees_32 : decode cX1_sees 32 = .ok (.aload_n 0, 1) := by decide +kernel
theorem dX1_sees_33 : decode cX1_sees 33 = .ok (.getfield 9, 3) := by decide +kernel
theorem dX1_sees_36 : decode cX1_sees 36 = .ok (.iconst 2, 1) := by decide +kernel
theorem dX1_sees_37 : decode cX1_sees 37 = .ok (.iload 6, 2) := by decide +kernel
theorem dX1_sees_39 : decode cX1_sees 39 = .ok (.iconst 1, 1) := by decide +kernel
theorem dX1_sees_40 : decode cX1_sees 40 = .ok (.invokevirtual 29, 3) := by decide +kernel
theorem dX1_sees_43 : decode cX1_sees 43 = .ok (.iload 5, 2) := by decide +kernel
theorem dX1_sees_45 : decode cX1_sees 45 = .ok (.isub, 1) := by decide +kernel
theorem dX1_sees_46 : decode cX1_sees 46 = .ok (.istore 9, 2) := by decide +kernel
theorem dX1_sees_48 : decode cX1_sees 48 = .ok (.aload_n 0, 1) := by decide +kernel
theorem dX1_sees_49 : decode cX1_sees 49 = .ok (.getfield 9, 3) := by decide +kernel
theorem dX1_sees_52 : decode cX1_sees 52 = .ok (.iconst 2, 1) := by decide +kernel
theorem dX1_sees_53 : decode cX1_sees 53 = .ok (.iload 7, 2) := by decide +kernel
theorem dX1_sees_55 : decode cX1_sees 55 = .ok (.iconst 0, 1) := by decide +kernel
theorem dX1_sees_56 : decode cX1_sees 56 = .ok (.invokevirtual 29, 3) := by decide +kernel
theorem dX1_sees_59 : decode cX1_sees 59 = .ok (.iload 4, 2) := by decide +kernel
theorem dX1_sees_61 : decode cX1_sees 61 = .ok (.isub, 1) := by decide +kernel
theorem dX1_sees_62 : decode cX1_sees 62 = .ok (.istore 10, 2) := by decide +kernel
theorem dX1_sees_64 : decode cX1_sees 64 = .ok (.aload_n 0, 1) := by decide +kernel
theorem dX1_sees_65 : decode cX1_sees 65 = .ok (.getfield 9, 3) := by decide +kernel
theorem dX1_sees_68 : decode cX1_sees 68 = .ok (.iconst 2, 1) := by decide +kernel
theorem dX1_sees_69 : decode cX1_sees 69 = .ok (.iload 7, 2) := by decide +kernel
theorem dX1_sees_71 : decode cX1_sees 71 = .ok (.iconst 1, 1) := by decide +kernel
theorem dX1_sees_72 : decode cX1_sees 72 = .ok (.invokevirtual 29, 3) := by decide +kernel
theorem dX1_sees_75 : decode cX1_sees 75 = .ok (.iload 5, 2) := by decide +kernel
theorem dX1_sees_77 : decode cX1_sees 77 = .ok (.isub, 1) := by decide +kernel
theorem dX1_sees_78 : decode cX1_sees 78 = .ok (.istore 11, 2) := by decide +kernel
theorem dX1_sees_80 : decode cX1_sees 80 = .ok (.iload 8, 2) := by decide +kernel
theorem dX1_sees_82 : decode cX1_sees 82 = .ok (.iload 8, 2) := by decide +kernel
theorem dX1_sees_84 : decode cX1_sees 84 = .ok (.imul, 1) := by decide +kernel
theorem dX1_sees_85 : decode cX1_sees 85 = .ok (.iload 9, 2) := by decide +kernel
theorem dX1_sees_87 : decode cX1_sees 87 = .ok (.iload 9, 2) := by decide +kernel
theorem dX1_sees_89 : decode cX1_sees 89 = .ok (.imul, 1) := by decide +kernel
theorem dX1_sees_90 : decode cX1_sees 90 = .ok (.iadd, 1) := by decide +kernel
theorem dX1_sees_91 : decode cX1_sees 91 = .ok (.istore 12, 2) := by decide +kernel
theorem dX1_sees_93 : decode cX1_sees 93 = .ok (.iload 10, 2) := by decide +kernel
theorem dX1_sees_95 : decode cX1_sees 95 = .ok (.iload 10, 2) := by decide +kernel
theorem dX1_sees_97 : decode cX1_sees 97 = .ok (.imul, 1) := by decide +kernel
theorem dX1_sees_98 : decode cX1_sees 98 = .ok (.iload 11, 2) := by decide +kernel
theorem dX1_sees_100 : decode cX1_sees 100 = .ok (.iload 11, 2) := by decide +kernel
theorem dX1_sees_102 : decode cX1_sees 102 = .ok (.imul, 1) := by decide +kernel
theorem dX1_sees_103 : decode cX1_sees 103 = .ok (.iadd, 1) := by decide +kernel
theorem dX1_sees_104 : decode cX1_sees 104 = .ok (.istore 13, 2) := by decide +kernel
theorem dX1_sees_106 : decode cX1_sees 106 = .ok (.iload 12, 2) := by decide +kernel
theorem dX1_sees_108 : decode cX1_sees 108 = .ok (.ifCond .eq 8, 3) := by decide +kernel
theorem dX1_sees_111 : decode cX1_sees 111 = .ok (.iload 13, 2) := by decide +kernel
theorem dX1_sees_113 : decode cX1_sees 113 = .ok (.ifCond .ne 5, 3) := by decide +kernel
theorem dX1_sees_116 : decode cX1_sees 116 = .ok (.iconst 0, 1) := by decide +kernel
theorem dX1_sees_117 : decode cX1_sees 117 = .ok (.ireturn, 1) := by decide +kernel
theorem dX1_sees_118 : decode cX1_sees 118 = .ok (.iload 8, 2) := by decide +kernel
theorem dX1_sees_120 : decode cX1_sees 120 = .ok (.iload 11, 2) := by decide +kernel
theorem dX1_sees_122 : decode cX1_sees 122 = .ok (.imul, 1) := by decide +kernel
theorem dX1_sees_123 : decode cX1_sees 123 = .ok (.iload 9, 2) := by decide +kernel
theorem dX1_sees_125 : decode cX1_sees 125 = .ok (.iload 10, 2) := by decide +kernel
theorem dX1_sees_127 : decode cX1_sees 127 = .ok (.imul, 1) := by decide +kernel
theorem dX1_sees_128 : decode cX1_sees 128 = .ok (.isub, 1) := by decide +kernel
theorem dX1_sees_129 : decode cX1_sees 129 = .ok (.istore 14, 2) := by decide +kernel
theorem dX1_sees_131 : decode cX1_sees 131 = .ok (.aload_n 1, 1) := by decide +kernel
theorem dX1_sees_132 : decode cX1_sees 132 = .ok (.iload_n 2, 1) := by decide +kernel
theorem dX1_sees_133 : decode cX1_sees 133 = .ok (.iconst 0, 1) := by decide +kernel
theorem dX1_sees_134 : decode cX1_sees 134 = .ok (.invokevirtual 21, 3) := by decide +kernel
theorem dX1_sees_137 : decode cX1_sees 137 = .ok (.bipush 9, 2) := by decide +kernel
theorem dX1_sees_139 : decode cX1_sees 139 = .ok (.if_icmp .ne 31, 3) := by decide +kernel
theorem dX1_sees_142 : decode cX1_sees 142 = .ok (.iload_n 3, 1) := by decide +kernel
theorem dX1_sees_143 : decode cX1_sees 143 = .ok (.ifCond .eq 16, 3) := by decide +kernel
theorem dX1_sees_146 : decode cX1_sees 146 = .ok (.iload 14, 2) := by decide +kernel
theorem dX1_sees_148 : decode cX1_sees 148 = .ok (.ifCond .le 7, 3) := by decide +kernel
theorem dX1_sees_151 : decode cX1_sees 151 = .ok (.iconst 1, 1) := by decide +kernel
theorem dX1_sees_152 : decode cX1_sees 152 = .ok (.goto 17, 3) := by decide +kernel
theorem dX1_sees_155 : decode cX1_sees 155 = .ok (.iconst 0, 1) := by decide +kernel
theorem dX1_sees_156 : decode cX1_sees 156 = .ok (.goto 13, 3) := by decide +kernel
theorem dX1_sees_159 : decode cX1_sees 159 = .ok (.iload 14, 2) := by decide +kernel
theorem dX1_sees_161 : decode cX1_sees 161 = .ok (.ifCond .ge 7, 3) := by decide +kernel
theorem dX1_sees_164 : decode cX1_sees 164 = .ok (.iconst 1, 1) := by decide +kernel
theorem dX1_sees_165 : decode cX1_sees 165 = .ok (.goto 4, 3) := by decide +kernel
theorem dX1_sees_168 : decode cX1_sees 168 = .ok (.iconst 0, 1) := by decide +kernel
theorem dX1_sees_169 : decode cX1_sees 169 = .ok (.ireturn, 1) := by decide +kernel
theorem dX1_sees_170 : decode cX1_sees 170 = .ok (.iload 14, 2) := by decide +kernel
theorem dX1_sees_172 : decode cX1_sees 172 = .ok (.ifCond .ne 28, 3) := by decide +kernel
theorem dX1_sees_175 : decode cX1_sees 175 = .ok (.iload 8, 2) := by decide +kernel
theorem dX1_sees_177 : decode cX1_sees 177 = .ok (.iload 10, 2) := by decide +kernel
theorem dX1_sees_179 : decode cX1_sees 179 = .ok (.imul, 1) := by decide +kernel
theorem dX1_sees_180 : decode cX1_sees 180 = .ok (.iload 9, 2) := by decide +kernel
theorem dX1_sees_182 : decode cX1_sees 182 = .ok (.iload 11, 2) := by decide +kernel
theorem dX1_sees_184 : decode cX1_sees 184 = .ok (.imul, 1) := by decide +kernel
theorem dX1_sees_185 : decode cX1_sees 185 = .ok (.iadd, 1) := by decide +kernel
theorem dX1_sees_186 : decode cX1_sees 186 = .ok (.ifCond .le 14, 3) := by decide +kernel
theorem dX1_sees_189 : decode cX1_sees 189 = .ok (.iload 12, 2) := by decide +kernel
theorem dX1_sees_191 : decode cX1_sees 191 = .ok (.iload 13, 2) := by decide +kernel
theorem dX1_sees_193 : decode cX1_sees 193 = .ok (.if_icmp .ge 7, 3) := by decide +kernel
theorem dX1_sees_196 : decode cX1_sees 196 = .ok (.iconst 1, 1) := by decide +kernel
theorem dX1_sees_197 : decode cX1_sees 197 = .ok (.goto 4, 3) := by decide +kernel
theorem dX1_sees_200 : decode cX1_sees 200 = .ok (.iconst 0, 1) := by decide +kernel
theorem dX1_sees_201 : decode cX1_sees 201 = .ok (.ireturn, 1) := by decide +kernel
theorem dX2_init_0 : decode cX2_init 0 = .ok (.aload_n 0, 1) := by decide +kernel
theorem dX2_init_1 : decode cX2_init 1 = .ok (.invokespecial 3, 3) := by decide +kernel
theorem dX2_init_4 : decode cX2_init 4 = .ok (.aload_n 0, 1) := by decide +kernel
theorem dX2_init_5 : decode cX2_init 5 = .ok (.aload_n 1, 1) := by decide +kernel
theorem dX2_init_6 : decode cX2_init 6 = .ok (.putfield 9, 3) := by decide +kernel
theorem dX2_init_9 : decode cX2_init 9 = .ok (.aload_n 0, 1) := by decide +kernel
theorem dX2_init_10 : decode cX2_init 10 = .ok (.aload_n 2, 1) := by decide +kernel
theorem dX2_init_11 : decode cX2_init 11 = .ok (.putfield 15, 3) := by decide +kernel
theorem dX2_init_14 : decode cX2_init 14 = .ok (.return_, 1) := by decide +kernel
theorem dX2_allows_0 : decode cX2_allows 0 = .ok (.aload_n 0, 1) := by decide +kernel
theorem dX2_allows_1 : decode cX2_allows 1 = .ok (.aload_n 1, 1) := by decide +kernel
theorem dX2_allows_2 : decode cX2_allows 2 = .ok (.iload_n 2, 1) := by decide +kernel
theorem dX2_allows_3 : decode cX2_allows 3 = .ok (.iload_n 3, 1) := by decide +kernel
theorem dX2_allows_4 : decode cX2_allows 4 = .ok (.bipush 30, 2) := by decide +kernel
theorem dX2_allows_6 : decode cX2_allows 6 = .ok (.idiv, 1) := by decide +kernel
theorem dX2_allows_7 : decode cX2_allows 7 = .ok (.iconst 0, 1) := by decide +kernel
theorem dX2_allows_8 : decode cX2_allows 8 = .ok (.invokevirtual 19, 3) := by decide +kernel
theorem dX2_allows_11 : decode cX2_allows 11 = .ok (.istore 5, 2) := by decide +kernel
theorem dX2_allows_13 : decode cX2_allows 13 = .ok (.aload_n 0, 1) := by decide +kernel
theorem dX2_allows_14 : decode cX2_allows 14 = .ok (.aload_n 1, 1) := by decide +kernel
theorem dX2_allows_15 : decode cX2_allows 15 = .ok (.iload_n 2, 1) := by decide +kernel
theorem dX2_allows_16 : decode cX2_allows 16 = .ok (.iload_n 3, 1) := by decide +kernel
theorem dX2_allows_17 : decode cX2_allows 17 = .ok (.bipush 30, 2) := by decide +kernel
theorem dX2_allows_19 : decode cX2_allows 19 = .ok (.idiv, 1) := by decide +kernel
theorem dX2_allows_20 : decode cX2_allows 20 = .ok (.bipush 12, 2) := by decide +kernel
theorem dX2_allows_22 : decode cX2_allows 22 = .ok (.irem, 1) := by decide +kernel
theorem dX2_allows_23 : decode cX2_allows 23 = .ok (.iload 4, 2) := by decide +kernel
theorem dX2_allows_25 : decode cX2_allows 25 = .ok (.bipush 30, 2) := by decide +kernel
theorem dX2_allows_27 : decode cX2_allows 27 = .ok (.idiv, 1) := by decide +kernel
theorem dX2_allows_28 : decode cX2_allows 28 = .ok (.invokevirtual 23, 3) := by decide +kernel
theorem dX2_allows_31 : decode cX2_allows 31 = .ok (.istore 6, 2) := by decide +kernel
theorem dX2_allows_33 : decode cX2_allows 33 = .ok (.iload 5, 2) := by decide +kernel
theorem dX2_allows_35 : decode cX2_allows 35 = .ok (.iload_n 3, 1) := by decide +kernel
theorem dX2_allows_36 : decode cX2_allows 36 = .ok (.bipush 30, 2) := by decide +kernel
theorem dX2_allows_38 : decode cX2_allows 38 = .ok (.irem, 1) := by decide +kernel
theorem dX2_allows_39 : decode cX2_allows 39 = .ok (.ishr, 1) := by decide +kernel
theorem dX2_allows_40 : decode cX2_allows 40 = .ok (.iload 6, 2) := by decide +kernel
theorem dX2_allows_42 : decode cX2_allows 42 = .ok (.iload 4, 2) := by decide +kernel
theorem dX2_allows_44 : decode cX2_allows 44 = .ok (.bipush 30, 2) := by decide +kernel
theorem dX2_allows_46 : decode cX2_allows 46 = .ok (.irem, 1) := by decide +kernel
theorem dX2_allows_47 : decode cX2_allows 47 = .ok (.ishr, 1) := by decide +kernel
theorem dX2_allows_48 : decode cX2_allows 48 = .ok (.iand, 1) := by decide +kernel
theorem dX2_allows_49 : decode cX2_allows 49 = .ok (.iconst 1, 1) := by decide +kernel
theorem dX2_allows_50 : decode cX2_allows 50 = .ok (.iand, 1) := by decide +kernel
theorem dX2_allows_51 : decode cX2_allows 51 = .ok (.iconst 1, 1) := by decide +kernel
theorem dX2_allows_52 : decode cX2_allows 52 = .ok (.if_icmp .ne 7, 3) := by decide +kernel
theorem dX2_allows_55 : decode cX2_allows 55 = .ok (.iconst 1, 1) := by decide +kernel
theorem dX2_allows_56 : decode cX2_allows 56 = .ok (.goto 4, 3) := by decide +kernel
theorem dX2_allows_59 : decode cX2_allows 59 = .ok (.iconst 0, 1) := by decide +kernel
theorem dX2_allows_60 : decode cX2_allows 60 = .ok (.ireturn, 1) := by decide +kernel
theorem dX2_daysLet_0 : decode cX2_daysLet 0 = .ok (.aload_n 1, 1) := by decide +kernel
theorem dX2_daysLet_1 : decode cX2_daysLet 1 = .ok (.iload_n 2, 1) := by decide +kernel
theorem dX2_daysLet_2 : decode cX2_daysLet 2 = .ok (.iconst 1, 1) := by decide +kernel
theorem dX2_daysLet_3 : decode cX2_daysLet 3 = .ok (.invokevirtual 26, 3) := by decide +kernel
theorem dX2_daysLet_6 : decode cX2_daysLet 6 = .ok (.istore 5, 2) := by decide +kernel
theorem dX2_daysLet_8 : decode cX2_daysLet 8 = .ok (.aload_n 1, 1) := by decide +kernel
theorem dX2_daysLet_9 : decode cX2_daysLet 9 = .ok (.iload_n 2, 1) := by decide +kernel
theorem dX2_daysLet_10 : decode cX2_daysLet 10 = .ok (.iconst 0, 1) := by decide +kernel
theorem dX2_daysLet_11 : decode cX2_daysLet 11 = .ok (.invokevirtual 26, 3) := by decide +kernel
theorem dX2_daysLet_14 : decode cX2_daysLet 14 = .ok (.tableswitch 110 0 7 #[46, 56, 66, 74, 110, 110, 87, 94], 46) := by decide +kernel
theorem dX2_daysLet_60 : decode cX2_daysLet 60 = .ok (.aload_n 0, 1) := by decide +kernel
theorem dX2_daysLet_61 : decode cX2_daysLet 61 = .ok (.iload 5, 2) := by decide +kernel
theorem dX2_daysLet_63 : decode cX2_daysLet 63 = .ok (.iload_n 3, 1) := by decide +kernel
theorem dX2_daysLet_64 : decode cX2_daysLet 64 = .ok (.iload 4, 2) := by decide +kernel
theorem dX2_daysLet_66 : decode cX2_daysLet 66 = .ok (.invokevirtual 32, 3) := by decide +kernel
theorem dX2_daysLet_69 : decode cX2_daysLet 69 = .ok (.ireturn, 1) := by decide +kernel
theorem dX2_daysLet_70 : decode cX2_daysLet 70 = .ok (.aload_n 0, 1) := by decide +kernel
theorem dX2_daysLet_71 : decode cX2_daysLet 71 = .ok (.iload 5, 2) := by decide +kernel
theorem dX2_daysLet_73 : decode cX2_daysLet 73 = .ok (.iload_n 3, 1) := by decide +kernel
theorem dX2_daysLet_74 : decode cX2_daysLet 74 = .ok (.iload 4, 2) := by decide +kernel
theorem dX2_daysLet_76 : decode cX2_daysLet 76 = .ok (.invokevirtual 36, 3) := by decide +kernel
theorem dX2_daysLet_79 : decode cX2_daysLet 79 = .ok (.ireturn, 1) := by decide +kernel
theorem dX2_daysLet_80 : decode cX2_daysLet 80 = .ok (.aload_n 0, 1) := by decide +kernel
theorem dX2_daysLet_81 : decode cX2_daysLet 81 = .ok (.iload 5, 2) := by decide +kernel
theorem dX2_daysLet_83 : decode cX2_daysLet 83 = .ok (.iload_n 3, 1) := by decide +kernel
theorem dX2_daysLet_84 : decode cX2_daysLet 84 = .ok (.invokevirtual 39, 3) := by decide +kernel
theorem dX2_daysLet_87 : decode cX2_daysLet 87 = .ok (.ireturn, 1) := by decide +kernel
theorem dX2_daysLet_88 : decode cX2_daysLet 88 = .ok (.ldc 42, 2) := by decide +kernel
theorem dX2_daysLet_90 : decode cX2_daysLet 90 = .ok (.aload_n 0, 1) := by decide +kernel
theorem dX2_daysLet_91 : decode cX2_daysLet 91 = .ok (.iload 5, 2) := by decide +kernel
theorem dX2_daysLet_93 : decode cX2_daysLet 93 = .ok (.iload_n 3, 1) := by decide +kernel
theorem dX2_daysLet_94 : decode cX2_daysLet 94 = .ok (.invokevirtual 39, 3) := by decide +kernel
theorem dX2_daysLet_97 : decode cX2_daysLet 97 = .ok (.iconst (-1), 1) := by decide +kernel
theorem dX2_daysLet_98 : decode cX2_daysLet 98 = .ok (.ixor, 1) := by decide +kernel
theorem dX2_daysLet_99 : decode cX2_daysLet 99 = .ok (.iand, 1) := by decide +kernel
theorem dX2_daysLet_100 : decode cX2_daysLet 100 = .ok (.ireturn, 1) := by decide +kernel
theorem dX2_daysLet_101 : decode cX2_daysLet 101 = .ok (.iload 5, 2) := by decide +kernel
theorem dX2_daysLet_103 : decode cX2_daysLet 103 = .ok (.iload_n 3, 1) := by decide +kernel
theorem dX2_daysLet_104 : decode cX2_daysLet 104 = .ok (.invokestatic 43, 3) := by decide +kernel
theorem dX2_daysLet_107 : decode cX2_daysLet 107 = .ok (.ireturn, 1) := by decide +kernel
theorem dX2_daysLet_108 : decode cX2_daysLet 108 = .ok (.iload_n 3, 1) := by decide +kernel
theorem dX2_daysLet_109 : decode cX2_daysLet 109 = .ok (.bipush 12, 2) := by decide +kernel
theorem dX2_daysLet_111 : decode cX2_daysLet 111 = .ok (.idiv, 1) := by decide +kernel
theorem dX2_daysLet_112 : decode cX2_daysLet 112 = .ok (.iload 5, 2) := by decide +kernel
theorem dX2_daysLet_114 : decode cX2_daysLet 114 = .ok (.if_icmp .ne 8, 3) := by decide +kernel
theorem dX2_daysLet_117 : decode cX2_daysLet 117 = .ok (.ldc 42, 2) := by decide +kernel
theorem dX2_daysLet_119 : decode cX2_daysLet 119 = .ok (.goto 4, 3) := by decide +kernel
theorem dX2_daysLet_122 : decode cX2_daysLet 122 = .ok (.iconst 0, 1) := by decide +kernel
theorem dX2_daysLet_123 : decode cX2_daysLet 123 = .ok (.ireturn, 1) := by decide +kernel
theorem dX2_daysLet_124 : decode cX2_daysLet 124 = .ok (.ldc 42, 2) := by decide +kernel
theorem dX2_daysLet_126 : decode cX2_daysLet 126 = .ok (.ireturn, 1) := by decide +kernel
theorem dX2_minutesLet_0 : decode cX2_minutesLet 0 = .ok (.aload_n 1, 1) := by decide +kernel
theorem dX2_minutesLet_1 : decode cX2_minutesLet 1 = .ok (.iload_n 2, 1) := by decide +kernel
theorem dX2_minutesLet_2 : decode cX2_minutesLet 2 = .ok (.iconst 0, 1) := by decide +kernel
theorem dX2_minutesLet_3 : decode cX2_minutesLet 3 = .ok (.invokevirtual 26, 3) := by decide +kernel
theorem dX2_minutesLet_6 : decode cX2_minutesLet 6 = .ok (.istore 5, 2) := by decide +kernel
theorem dX2_minutesLet_8 : decode cX2_minutesLet 8 = .ok (.iload 5, 2) := by decide +kernel
theorem dX2_minutesLet_10 : decode cX2_minutesLet 10 = .ok (.iconst 4, 1) := by decide +kernel
theorem dX2_minutesLet_11 : decode cX2_minutesLet 11 = .ok (.if_icmp .ne 16, 3) := by decide +kernel
theorem dX2_minutesLet_14 : decode cX2_minutesLet 14 = .ok (.aload_n 0, 1) := by decide +kernel
theorem dX2_minutesLet_15 : decode cX2_minutesLet 15 = .ok (.getfield 15, 3) := by decide +kernel
theorem dX2_minutesLet_18 : decode cX2_minutesLet 18 = .ok (.aload_n 1, 1) := by decide +kernel
theorem dX2_minutesLet_19 : decode cX2_minutesLet 19 = .ok (.iload_n 2, 1) := by decide +kernel
theorem dX2_minutesLet_20 : decode cX2_minutesLet 20 = .ok (.iload_n 3, 1) := by decide +kernel
theorem dX2_minutesLet_21 : decode cX2_minutesLet 21 = .ok (.iload 4, 2) := by decide +kernel
theorem dX2_minutesLet_23 : decode cX2_minutesLet 23 = .ok (.invokevirtual 46, 3) := by decide +kernel
theorem dX2_minutesLet_26 : decode cX2_minutesLet 26 = .ok (.ireturn, 1) := by decide +kernel
theorem dX2_minutesLet_27 : decode cX2_minutesLet 27 = .ok (.iload 5, 2) := by decide +kernel
theorem dX2_minutesLet_29 : decode cX2_minutesLet 29 = .ok (.iconst 5, 1) := by decide +kernel
theorem dX2_minutesLet_30 : decode cX2_minutesLet 30 = .ok (.if_icmp .eq 6, 3) := by decide +kernel
theorem dX2_minutesLet_33 : decode cX2_minutesLet 33 = .ok (.ldc 42, 2) := by decide +kernel
theorem dX2_minutesLet_35 : decode cX2_minutesLet 35 = .ok (.ireturn, 1) := by decide +kernel
theorem dX2_minutesLet_36 : decode cX2_minutesLet 36 = .ok (.aload_n 1, 1) := by decide +kernel
theorem dX2_minutesLet_37 : decode cX2_minutesLet 37 = .ok (.iload_n 2, 1) := by decide +kernel
theorem dX2_minutesLet_38 : decode cX2_minutesLet 38 = .ok (.iconst 1, 1) := by decide +kernel
theorem dX2_minutesLet_39 : decode cX2_minutesLet 39 = .ok (.invokevirtual 26, 3) := by decide +kernel
theorem dX2_minutesLet_42 : decode cX2_minutesLet 42 = .ok (.istore 6, 2) := by decide +kernel
theorem dX2_minutesLet_44 : decode cX2_minutesLet 44 = .ok (.aload_n 1, 1) := by decide +kernel
theorem dX2_minutesLet_45 : decode cX2_minutesLet 45 = .ok (.iload_n 2, 1) := by decide +kernel
theorem dX2_minutesLet_46 : decode cX2_minutesLet 46 = .ok (.iconst 2, 1) := by decide +kernel
theorem dX2_minutesLet_47 : decode cX2_minutesLet 47 = .ok (.invokevirtual 26, 3) := by decide +kernel
theorem dX2_minutesLet_50 : decode cX2_minutesLet 50 = .ok (.iload 4, 2) := by decide +kernel
theorem dX2_minutesLet_52 : decode cX2_minutesLet 52 = .ok (.bipush 30, 2) := by decide +kernel
theorem dX2_minutesLet_54 : decode cX2_minutesLet 54 = .ok (.imul, 1) := by decide +kernel
theorem dX2_minutesLet_55 : decode cX2_minutesLet 55 = .ok (.isub, 1) := by decide +kernel
theorem dX2_minutesLet_56 : decode cX2_minutesLet 56 = .ok (.istore 7, 2) := by decide +kernel
theorem dX2_minutesLet_58 : decode cX2_minutesLet 58 = .ok (.iload 7, 2) := by decide +kernel
theorem dX2_minutesLet_60 : decode cX2_minutesLet 60 = .ok (.aload_n 0, 1) := by decide +kernel
theorem dX2_minutesLet_61 : decode cX2_minutesLet 61 = .ok (.getfield 9, 3) := by decide +kernel
theorem dX2_minutesLet_64 : decode cX2_minutesLet 64 = .ok (.iconst 3, 1) := by decide +kernel
theorem dX2_minutesLet_65 : decode cX2_minutesLet 65 = .ok (.iload 6, 2) := by decide +kernel
theorem dX2_minutesLet_67 : decode cX2_minutesLet 67 = .ok (.iconst 1, 1) := by decide +kernel
theorem dX2_minutesLet_68 : decode cX2_minutesLet 68 = .ok (.invokevirtual 49, 3) := by decide +kernel
theorem dX2_minutesLet_71 : decode cX2_minutesLet 71 = .ok (.isub, 1) := by decide +kernel
theorem dX2_minutesLet_72 : decode cX2_minutesLet 72 = .ok (.iload 7, 2) := by decide +kernel
theorem dX2_minutesLet_74 : decode cX2_minutesLet 74 = .ok (.aload_n 0, 1) := by decide +kernel
theorem dX2_minutesLet_75 : decode cX2_minutesLet 75 = .ok (.getfield 9, 3) := by decide +kernel
theorem dX2_minutesLet_78 : decode cX2_minutesLet 78 = .ok (.iconst 3, 1) := by decide +kernel
theorem dX2_minutesLet_79 : decode cX2_minutesLet 79 = .ok (.iload 6, 2) := by decide +kernel
theorem dX2_minutesLet_81 : decode cX2_minutesLet 81 = .ok (.iconst 0, 1) := by decide +kernel
theorem dX2_minutesLet_82 : decode cX2_minutesLet 82 = .ok (.invokevirtual 49, 3) := by decide +kernel
theorem dX2_minutesLet_85 : decode cX2_minutesLet 85 = .ok (.iadd, 1) := by decide +kernel
theorem dX2_minutesLet_86 : decode cX2_minutesLet 86 = .ok (.invokestatic 54, 3) := by decide +kernel
theorem dX2_minutesLet_89 : decode cX2_minutesLet 89 = .ok (.ireturn, 1) := by decide +kernel
theorem dX2_fill_0 : decode cX2_fill 0 = .ok (.aload_n 1, 1) := by decide +kernel
theorem dX2_fill_1 : decode cX2_fill 1 = .ok (.invokevirtual 57, 3) := by decide +kernel
theorem dX2_fill_4 : decode cX2_fill 4 = .ok (.astore_n 2, 1) := by decide +kernel
theorem dX2_fill_5 : decode cX2_fill 5 = .ok (.iconst 0, 1) := by decide +kernel
theorem dX2_fill_6 : decode cX2_fill 6 = .ok (.istore_n 3, 1) := by decide +kernel
theorem dX2_fill_7 : decode cX2_fill 7 = .ok (.iload_n 3, 1) := by decide +kernel
theorem dX2_fill_8 : decode cX2_fill 8 = .ok (.bipush 12, 2) := by decide +kernel
theorem dX2_fill_10 : decode cX2_fill 10 = .ok (.if_icmp .ge 76, 3) := by decide +kernel
theorem dX2_fill_13 : decode cX2_fill 13 = .ok (.iconst 0, 1) := by decide +kernel
theorem dX2_fill_14 : decode cX2_fill 14 = .ok (.istore 4, 2) := by decide +kernel
theorem dX2_fill_16 : decode cX2_fill 16 = .ok (.iload 4, 2) := by decide +kernel
theorem dX2_fill_18 : decode cX2_fill 18 = .ok (.bipush 24, 2) := by decide +kernel
theorem dX2_fill_20 : decode cX2_fill 20 = .ok (.if_icmp .ge 60, 3) := by decide +kernel
theorem dX2_fill_23 : decode cX2_fill 23 = .ok (.ldc 42, 2) := by decide +kernel
theorem dX2_fill_25 : decode cX2_fill 25 = .ok (.istore 5, 2) := by decide +kernel
theorem dX2_fill_27 : decode cX2_fill 27 = .ok (.iconst 0, 1) := by decide +kernel
theorem dX2_fill_28 : decode cX2_fill 28 = .ok (.istore 6, 2) := by decide +kernel
theorem dX2_fill_30 : decode cX2_fill 30 = .ok (.iload 6, 2) := by decide +kernel
theorem dX2_fill_32 : decode cX2_fill 32 = .ok (.aload_n 1, 1) := by decide +kernel
theorem dX2_fill_33 : decode cX2_fill 33 = .ok (.invokevirtual 61, 3) := by decide +kernel
theorem dX2_fill_36 : decode cX2_fill 36 = .ok (.if_icmp .ge 29, 3) := by decide +kernel
theorem dX2_fill_39 : decode cX2_fill 39 = .ok (.iload 5, 2) := by decide +kernel
theorem dX2_fill_41 : decode cX2_fill 41 = .ok (.ifCond .eq 24, 3) := by decide +kernel
theorem dX2_fill_44 : decode cX2_fill 44 = .ok (.iload 5, 2) := by decide +kernel
theorem dX2_fill_46 : decode cX2_fill 46 = .ok (.aload_n 0, 1) := by decide +kernel
theorem dX2_fill_47 : decode cX2_fill 47 = .ok (.aload_n 1, 1) := by decide +kernel
theorem dX2_fill_48 : decode cX2_fill 48 = .ok (.iload 6, 2) := by decide +kernel
theorem dX2_fill_50 : decode cX2_fill 50 = .ok (.iload_n 3, 1) := by decide +kernel
theorem dX2_fill_51 : decode cX2_fill 51 = .ok (.iload 4, 2) := by decide +kernel
theorem dX2_fill_53 : decode cX2_fill 53 = .ok (.invokevirtual 23, 3) := by decide +kernel
theorem dX2_fill_56 : decode cX2_fill 56 = .ok (.iand, 1) := by decide +kernel
theorem dX2_fill_57 : decode cX2_fill 57 = .ok (.istore 5, 2) := by decide +kernel
theorem dX2_fill_59 : decode cX2_fill 59 = .ok (.iinc 6 1, 3) := by decide +kernel
theorem dX2_fill_62 : decode cX2_fill 62 = .ok (.goto (-32), 3) := by decide +kernel
theorem dX2_fill_65 : decode cX2_fill 65 = .ok (.aload_n 2, 1) := by decide +kernel
theorem dX2_fill_66 : decode cX2_fill 66 = .ok (.iload_n 3, 1) := by decide +kernel
theorem dX2_fill_67 : decode cX2_fill 67 = .ok (.iload 4, 2) := by decide +kernel
theorem dX2_fill_69 : decode cX2_fill 69 = .ok (.iload 5, 2) := by decide +kernel
theorem dX2_fill_71 : decode cX2_fill 71 = .ok (.invokevirtual 65, 3) := by decide +kernel
theorem dX2_fill_74 : decode cX2_fill 74 = .ok (.iinc 4 1, 3) := by decide +kernel
theorem dX2_fill_77 : decode cX2_fill 77 = .ok (.goto (-61), 3) := by decide +kernel
theorem dX2_fill_80 : decode cX2_fill 80 = .ok (.iinc 3 1, 3) := by decide +kernel
theorem dX2_fill_83 : decode cX2_fill 83 = .ok (.goto (-76), 3) := by decide +kernel
theorem dX2_fill_86 : decode cX2_fill 86 = .ok (.iconst 0, 1) := by decide +kernel
theorem dX2_fill_87 : decode cX2_fill 87 = .ok (.istore_n 3, 1) := by decide +kernel
theorem dX2_fill_88 : decode cX2_fill 88 = .ok (.iload_n 3, 1) := by decide +kernel
theorem dX2_fill_89 : decode cX2_fill 89 = .ok (.bipush 120, 2) := by decide +kernel
theorem dX2_fill_91 : decode cX2_fill 91 = .ok (.if_icmp .ge 21, 3) := by decide +kernel
theorem dX2_fill_94 : decode cX2_fill 94 = .ok (.aload_n 2, 1) := by decide +kernel
theorem dX2_fill_95 : decode cX2_fill 95 = .ok (.iload_n 3, 1) := by decide +kernel
theorem dX2_fill_96 : decode cX2_fill 96 = .ok (.aload_n 0, 1) := by decide +kernel
theorem dX2_fill_97 : decode cX2_fill 97 = .ok (.aload_n 1, 1) := by decide +kernel
theorem dX2_fill_98 : decode cX2_fill 98 = .ok (.iload_n 3, 1) := by decide +kernel
theorem dX2_fill_99 : decode cX2_fill 99 = .ok (.iconst 0, 1) := by decide +kernel
theorem dX2_fill_100 : decode cX2_fill 100 = .ok (.invokevirtual 71, 3) := by decide +kernel
theorem dX2_fill_103 : decode cX2_fill 103 = .ok (.invokevirtual 75, 3) := by decide +kernel
theorem dX2_fill_106 : decode cX2_fill 106 = .ok (.iinc 3 1, 3) := by decide +kernel
theorem dX2_fill_109 : decode cX2_fill 109 = .ok (.goto (-21), 3) := by decide +kernel
theorem dX2_fill_112 : decode cX2_fill 112 = .ok (.aload_n 2, 1) := by decide +kernel
theorem dX2_fill_113 : decode cX2_fill 113 = .ok (.invokevirtual 79, 3) := by decide +kernel
theorem dX2_fill_116 : decode cX2_fill 116 = .ok (.return_, 1) := by decide +kernel
theorem dX2_countLater_0 : decode cX2_countLater 0 = .ok (.iconst 0, 1) := by decide +kernel
theorem dX2_countLater_1 : decode cX2_countLater 1 = .ok (.istore_n 3, 1) := by decide +kernel
theorem dX2_countLater_2 : decode cX2_countLater 2 = .ok (.iconst 0, 1) := by decide +kernel
theorem dX2_countLater_3 : decode cX2_countLater 3 = .ok (.istore 4, 2) := by decide +kernel
theorem dX2_countLater_5 : decode cX2_countLater 5 = .ok (.iload 4, 2) := by decide +kernel
theorem dX2_countLater_7 : decode cX2_countLater 7 = .ok (.bipush 120, 2) := by decide +kernel
theorem dX2_countLater_9 : decode cX2_countLater 9 = .ok (.if_icmp .ge 45, 3) := by decide +kernel
theorem dX2_countLater_12 : decode cX2_countLater 12 = .ok (.aload_n 1, 1) := by decide +kernel
theorem dX2_countLater_13 : decode cX2_countLater 13 = .ok (.invokevirtual 57, 3) := by decide +kernel
theorem dX2_countLater_16 : decode cX2_countLater 16 = .ok (.iload 4, 2) := by decide +kernel
theorem dX2_countLater_18 : decode cX2_countLater 18 = .ok (.bipush 12, 2) := by decide +kernel
theorem dX2_countLater_20 : decode cX2_countLater 20 = .ok (.irem, 1) := by decide +kernel
theorem dX2_countLater_21 : decode cX2_countLater 21 = .ok (.invokevirtual 82, 3) := by decide +kernel
theorem dX2_countLater_24 : decode cX2_countLater 24 = .ok (.istore 5, 2) := by decide +kernel
theorem dX2_countLater_26 : decode cX2_countLater 26 = .ok (.iload 5, 2) := by decide +kernel
theorem dX2_countLater_28 : decode cX2_countLater 28 = .ok (.ifCond .le 20, 3) := by decide +kernel
theorem dX2_countLater_31 : decode cX2_countLater 31 = .ok (.iload_n 3, 1) := by decide +kernel
theorem dX2_countLater_32 : decode cX2_countLater 32 = .ok (.aload_n 0, 1) := by decide +kernel
theorem dX2_countLater_33 : decode cX2_countLater 33 = .ok (.aload_n 1, 1) := by decide +kernel
theorem dX2_countLater_34 : decode cX2_countLater 34 = .ok (.iload 4, 2) := by decide +kernel
theorem dX2_countLater_36 : decode cX2_countLater 36 = .ok (.iload_n 2, 1) := by decide +kernel
theorem dX2_countLater_37 : decode cX2_countLater 37 = .ok (.invokevirtual 71, 3) := by decide +kernel
theorem dX2_countLater_40 : decode cX2_countLater 40 = .ok (.invokestatic 86, 3) := by decide +kernel
theorem dX2_countLater_43 : decode cX2_countLater 43 = .ok (.iload 5, 2) := by decide +kernel
theorem dX2_countLater_45 : decode cX2_countLater 45 = .ok (.imul, 1) := by decide +kernel
theorem dX2_countLater_46 : decode cX2_countLater 46 = .ok (.iadd, 1) := by decide +kernel
theorem dX2_countLater_47 : decode cX2_countLater 47 = .ok (.istore_n 3, 1) := by decide +kernel
theorem dX2_countLater_48 : decode cX2_countLater 48 = .ok (.iinc 4 1, 3) := by decide +kernel
theorem dX2_countLater_51 : decode cX2_countLater 51 = .ok (.goto (-46), 3) := by decide +kernel
theorem dX2_countLater_54 : decode cX2_countLater 54 = .ok (.iload_n 3, 1) := by decide +kernel
theorem dX2_countLater_55 : decode cX2_countLater 55 = .ok (.ireturn, 1) := by decide +kernel
theorem dX2_daysLater_0 : decode cX2_daysLater 0 = .ok (.ldc 42, 2) := by decide +kernel
theorem dX2_daysLater_2 : decode cX2_daysLater 2 = .ok (.istore 4, 2) := by decide +kernel
theorem dX2_daysLater_4 : decode cX2_daysLater 4 = .ok (.iconst 0, 1) := by decide +kernel
theorem dX2_daysLater_5 : decode cX2_daysLater 5 = .ok (.istore 5, 2) := by decide +kernel
theorem dX2_daysLater_7 : decode cX2_daysLater 7 = .ok (.iload 5, 2) := by decide +kernel
theorem dX2_daysLater_9 : decode cX2_daysLater 9 = .ok (.aload_n 1, 1) := by decide +kernel
theorem dX2_daysLater_10 : decode cX2_daysLater 10 = .ok (.invokevirtual 61, 3) := by decide +kernel
theorem dX2_daysLater_13 : decode cX2_daysLater 13 = .ok (.if_icmp .ge 28, 3) := by decide +kernel
theorem dX2_daysLater_16 : decode cX2_daysLater 16 = .ok (.iload 4, 2) := by decide +kernel
theorem dX2_daysLater_18 : decode cX2_daysLater 18 = .ok (.ifCond .eq 23, 3) := by decide +kernel
theorem dX2_daysLater_21 : decode cX2_daysLater 21 = .ok (.iload 4, 2) := by decide +kernel
theorem dX2_daysLater_23 : decode cX2_daysLater 23 = .ok (.aload_n 0, 1) := by decide +kernel
theorem dX2_daysLater_24 : decode cX2_daysLater 24 = .ok (.aload_n 1, 1) := by decide +kernel
theorem dX2_daysLater_25 : decode cX2_daysLater 25 = .ok (.iload 5, 2) := by decide +kernel
theorem dX2_daysLater_27 : decode cX2_daysLater 27 = .ok (.iload_n 2, 1) := by decide +kernel
theorem dX2_daysLater_28 : decode cX2_daysLater 28 = .ok (.iload_n 3, 1) := by decide +kernel
theorem dX2_daysLater_29 : decode cX2_daysLater 29 = .ok (.invokevirtual 19, 3) := by decide +kernel
theorem dX2_daysLater_32 : decode cX2_daysLater 32 = .ok (.iand, 1) := by decide +kernel
theorem dX2_daysLater_33 : decode cX2_daysLater 33 = .ok (.istore 4, 2) := by decide +kernel
theorem dX2_daysLater_35 : decode cX2_daysLater 35 = .ok (.iinc 5 1, 3) := by decide +kernel
theorem dX2_daysLater_38 : decode cX2_daysLater 38 = .ok (.goto (-31), 3) := by decide +kernel
theorem dX2_daysLater_41 : decode cX2_daysLater 41 = .ok (.iload 4, 2) := by decide +kernel
theorem dX2_daysLater_43 : decode cX2_daysLater 43 = .ok (.ireturn, 1) := by decide +kernel
theorem dX2_daysStood_0 : decode cX2_daysStood 0 = .ok (.aload_n 0, 1) := by decide +kernel
theorem dX2_daysStood_1 : decode cX2_daysStood 1 = .ok (.getfield 9, 3) := by decide +kernel
theorem dX2_daysStood_4 : decode cX2_daysStood 4 = .ok (.iconst 0, 1) := by decide +kernel
theorem dX2_daysStood_5 : decode cX2_daysStood 5 = .ok (.iload_n 1, 1) := by decide +kernel
theorem dX2_daysStood_6 : decode cX2_daysStood 6 = .ok (.iconst 2, 1) := by decide +kernel
theorem dX2_daysStood_7 : decode cX2_daysStood 7 = .ok (.invokevirtual 49, 3) := by decide +kernel
theorem dX2_daysStood_10 : decode cX2_daysStood 10 = .ok (.istore 4, 2) := by decide +kernel
theorem dX2_daysStood_12 : decode cX2_daysStood 12 = .ok (.aload_n 0, 1) := by decide +kernel
theorem dX2_daysStood_13 : decode cX2_daysStood 13 = .ok (.getfield 9, 3) := by decide +kernel
theorem dX2_daysStood_16 : decode cX2_daysStood 16 = .ok (.iconst 0, 1) := by decide +kernel
theorem dX2_daysStood_17 : decode cX2_daysStood 17 = .ok (.iload_n 1, 1) := by decide +kernel
theorem dX2_daysStood_18 : decode cX2_daysStood 18 = .ok (.iconst 0, 1) := by decide +kernel
theorem dX2_daysStood_19 : decode cX2_daysStood 19 = .ok (.invokevirtual 49, 3) := by decide +kernel
theorem dX2_daysStood_22 : decode cX2_daysStood 22 = .ok (.aload_n 0, 1) := by decide +kernel
theorem dX2_daysStood_23 : decode cX2_daysStood 23 = .ok (.getfield 9, 3) := by decide +kernel
theorem dX2_daysStood_26 : decode cX2_daysStood 26 = .ok (.iconst 0, 1) := by decide +kernel
theorem dX2_daysStood_27 : decode cX2_daysStood 27 = .ok (.iload_n 1, 1) := by decide +kernel
theorem dX2_daysStood_28 : decode cX2_daysStood 28 = .ok (.iconst 1, 1) := by decide +kernel
theorem dX2_daysStood_29 : decode cX2_daysStood 29 = .ok (.invokevirtual 49, 3) := by decide +kernel
theorem dX2_daysStood_32 : decode cX2_daysStood 32 = .ok (.isub, 1) := by decide +kernel
theorem dX2_daysStood_33 : decode cX2_daysStood 33 = .ok (.istore 5, 2) := by decide +kernel
theorem dX2_daysStood_35 : decode cX2_daysStood 35 = .ok (.iload 4, 2) := by decide +kernel
theorem dX2_daysStood_37 : decode cX2_daysStood 37 = .ok (.iconst (-1), 1) := by decide +kernel
theorem dX2_daysStood_38 : decode cX2_daysStood 38 = .ok (.if_icmp .ne 9, 3) := by decide +kernel
theorem dX2_daysStood_41 : decode cX2_daysStood 41 = .ok (.sipush 3599, 3) := by decide +kernel
theorem dX2_daysStood_44 : decode cX2_daysStood 44 = .ok (.goto 18, 3) := by decide +kernel
theorem dX2_daysStood_47 : decode cX2_daysStood 47 = .ok (.iload 4, 2) := by decide +kernel
theorem dX2_daysStood_49 : decode cX2_daysStood 49 = .ok (.iload_n 3, 1) := by decide +kernel
theorem dX2_daysStood_50 : decode cX2_daysStood 50 = .ok (.iadd, 1) := by decide +kernel
theorem dX2_daysStood_51 : decode cX2_daysStood 51 = .ok (.aload_n 0, 1) := by decide +kernel
theorem dX2_daysStood_52 : decode cX2_daysStood 52 = .ok (.getfield 9, 3) := by decide +kernel
theorem dX2_daysStood_55 : decode cX2_daysStood 55 = .ok (.iconst 0, 1) := by decide +kernel
theorem dX2_daysStood_56 : decode cX2_daysStood 56 = .ok (.iload_n 1, 1) := by decide +kernel
theorem dX2_daysStood_57 : decode cX2_daysStood 57 = .ok (.iconst 3, 1) := by decide +kernel
theorem dX2_daysStood_58 : decode cX2_daysStood 58 = .ok (.invokevirtual 49, 3) := by decide +kernel
theorem dX2_daysStood_61 : decode cX2_daysStood 61 = .ok (.iadd, 1) := by decide +kernel
theorem dX2_daysStood_62 : decode cX2_daysStood 62 = .ok (.istore 6, 2) := by decide +kernel
theorem dX2_daysStood_64 : decode cX2_daysStood 64 = .ok (.iload 5, 2) := by decide +kernel
theorem dX2_daysStood_66 : decode cX2_daysStood 66 = .ok (.iload_n 2, 1) := by decide +kernel
theorem dX2_daysStood_67 : decode cX2_daysStood 67 = .ok (.bipush 30, 2) := by decide +kernel
theorem dX2_daysStood_69 : decode cX2_daysStood 69 = .ok (.imul, 1) := by decide +kernel
theorem dX2_daysStood_70 : decode cX2_daysStood 70 = .ok (.isub, 1) := by decide +kernel
theorem dX2_daysStood_71 : decode cX2_daysStood 71 = .ok (.iload 6, 2) := by decide +kernel
theorem dX2_daysStood_73 : decode cX2_daysStood 73 = .ok (.iload_n 2, 1) := by decide +kernel
theorem dX2_daysStood_74 : decode cX2_daysStood 74 = .ok (.bipush 30, 2) := by decide +kernel
theorem dX2_daysStood_76 : decode cX2_daysStood 76 = .ok (.imul, 1) := by decide +kernel
theorem dX2_daysStood_77 : decode cX2_daysStood 77 = .ok (.isub, 1) := by decide +kernel
theorem dX2_daysStood_78 : decode cX2_daysStood 78 = .ok (.invokestatic 54, 3) := by decide +kernel
theorem dX2_daysStood_81 : decode cX2_daysStood 81 = .ok (.ireturn, 1) := by decide +kernel
theorem dX2_daysLacked_0 : decode cX2_daysLacked 0 = .ok (.aload_n 0, 1) := by decide +kernel
theorem dX2_daysLacked_1 : decode cX2_daysLacked 1 = .ok (.getfield 9, 3) := by decide +kernel
theorem dX2_daysLacked_4 : decode cX2_daysLacked 4 = .ok (.iconst 0, 1) := by decide +kernel
theorem dX2_daysLacked_5 : decode cX2_daysLacked 5 = .ok (.iload_n 1, 1) := by decide +kernel
theorem dX2_daysLacked_6 : decode cX2_daysLacked 6 = .ok (.iconst 2, 1) := by decide +kernel
theorem dX2_daysLacked_7 : decode cX2_daysLacked 7 = .ok (.invokevirtual 49, 3) := by decide +kernel
theorem dX2_daysLacked_10 : decode cX2_daysLacked 10 = .ok (.istore 4, 2) := by decide +kernel
theorem dX2_daysLacked_12 : decode cX2_daysLacked 12 = .ok (.aload_n 0, 1) := by decide +kernel
theorem dX2_daysLacked_13 : decode cX2_daysLacked 13 = .ok (.getfield 9, 3) := by decide +kernel
theorem dX2_daysLacked_16 : decode cX2_daysLacked 16 = .ok (.iconst 0, 1) := by decide +kernel
theorem dX2_daysLacked_17 : decode cX2_daysLacked 17 = .ok (.iload_n 1, 1) := by decide +kernel
theorem dX2_daysLacked_18 : decode cX2_daysLacked 18 = .ok (.iconst 0, 1) := by decide +kernel
theorem dX2_daysLacked_19 : decode cX2_daysLacked 19 = .ok (.invokevirtual 49, 3) := by decide +kernel
theorem dX2_daysLacked_22 : decode cX2_daysLacked 22 = .ok (.aload_n 0, 1) := by decide +kernel
theorem dX2_daysLacked_23 : decode cX2_daysLacked 23 = .ok (.getfield 9, 3) := by decide +kernel
theorem dX2_daysLacked_26 : decode cX2_daysLacked 26 = .ok (.iconst 0, 1) := by decide +kernel
theorem dX2_daysLacked_27 : decode cX2_daysLacked 27 = .ok (.iload_n 1, 1) := by decide +kernel
theorem dX2_daysLacked_28 : decode cX2_daysLacked 28 = .ok (.iconst 1, 1) := by decide +kernel
theorem dX2_daysLacked_29 : decode cX2_daysLacked 29 = .ok (.invokevirtual 49, 3) := by decide +kernel
theorem dX2_daysLacked_32 : decode cX2_daysLacked 32 = .ok (.iadd, 1) := by decide +kernel
theorem dX2_daysLacked_33 : decode cX2_daysLacked 33 = .ok (.istore 5, 2) := by decide +kernel
theorem dX2_daysLacked_35 : decode cX2_daysLacked 35 = .ok (.iload 4, 2) := by decide +kernel
theorem dX2_daysLacked_37 : decode cX2_daysLacked 37 = .ok (.iconst (-1), 1) := by decide +kernel
theorem dX2_daysLacked_38 : decode cX2_daysLacked 38 = .ok (.if_icmp .ne 9, 3) := by decide +kernel
theorem dX2_daysLacked_41 : decode cX2_daysLacked 41 = .ok (.sipush 3599, 3) := by decide +kernel
theorem dX2_daysLacked_44 : decode cX2_daysLacked 44 = .ok (.goto 18, 3) := by decide +kernel
theorem dX2_daysLacked_47 : decode cX2_daysLacked 47 = .ok (.iload 4, 2) := by decide +kernel
theorem dX2_daysLacked_49 : decode cX2_daysLacked 49 = .ok (.iload_n 3, 1) := by decide +kernel
theorem dX2_daysLacked_50 : decode cX2_daysLacked 50 = .ok (.iadd, 1) := by decide +kernel
theorem dX2_daysLacked_51 : decode cX2_daysLacked 51 = .ok (.aload_n 0, 1) := by decide +kernel
theorem dX2_daysLacked_52 : decode cX2_daysLacked 52 = .ok (.getfield 9, 3) := by decide +kernel
theorem dX2_daysLacked_55 : decode cX2_daysLacked 55 = .ok (.iconst 0, 1) := by decide +kernel
theorem dX2_daysLacked_56 : decode cX2_daysLacked 56 = .ok (.iload_n 1, 1) := by decide +kernel
theorem dX2_daysLacked_57 : decode cX2_daysLacked 57 = .ok (.iconst 3, 1) := by decide +kernel
theorem dX2_daysLacked_58 : decode cX2_daysLacked 58 = .ok (.invokevirtual 49, 3) := by decide +kernel
theorem dX2_daysLacked_61 : decode cX2_daysLacked 61 = .ok (.isub, 1) := by decide +kernel
theorem dX2_daysLacked_62 : decode cX2_daysLacked 62 = .ok (.istore 6, 2) := by decide +kernel
theorem dX2_daysLacked_64 : decode cX2_daysLacked 64 = .ok (.ldc 42, 2) := by decide +kernel
theorem dX2_daysLacked_66 : decode cX2_daysLacked 66 = .ok (.iload 5, 2) := by decide +kernel
theorem dX2_daysLacked_68 : decode cX2_daysLacked 68 = .ok (.iload_n 2, 1) := by decide +kernel
theorem dX2_daysLacked_69 : decode cX2_daysLacked 69 = .ok (.bipush 30, 2) := by decide +kernel
theorem dX2_daysLacked_71 : decode cX2_daysLacked 71 = .ok (.imul, 1) := by decide +kernel
theorem dX2_daysLacked_72 : decode cX2_daysLacked 72 = .ok (.isub, 1) := by decide +kernel
theorem dX2_daysLacked_73 : decode cX2_daysLacked 73 = .ok (.iload 6, 2) := by decide +kernel
theorem dX2_daysLacked_75 : decode cX2_daysLacked 75 = .ok (.iload_n 2, 1) := by decide +kernel
theorem dX2_daysLacked_76 : decode cX2_daysLacked 76 = .ok (.bipush 30, 2) := by decide +kernel
theorem dX2_daysLacked_78 : decode cX2_daysLacked 78 = .ok (.imul, 1) := by decide +kernel
theorem dX2_daysLacked_79 : decode cX2_daysLacked 79 = .ok (.isub, 1) := by decide +kernel
theorem dX2_daysLacked_80 : decode cX2_daysLacked 80 = .ok (.invokestatic 54, 3) := by decide +kernel
theorem dX2_daysLacked_83 : decode cX2_daysLacked 83 = .ok (.iconst (-1), 1) := by decide +kernel
theorem dX2_daysLacked_84 : decode cX2_daysLacked 84 = .ok (.ixor, 1) := by decide +kernel
theorem dX2_daysLacked_85 : decode cX2_daysLacked 85 = .ok (.iand, 1) := by decide +kernel
theorem dX2_daysLacked_86 : decode cX2_daysLacked 86 = .ok (.ireturn, 1) := by decide +kernel
theorem dX2_daysInLeaf_0 : decode cX2_daysInLeaf 0 = .ok (.iload_n 2, 1) := by decide +kernel
theorem dX2_daysInLeaf_1 : decode cX2_daysInLeaf 1 = .ok (.bipush 12, 2) := by decide +kernel
theorem dX2_daysInLeaf_3 : decode cX2_daysInLeaf 3 = .ok (.irem, 1) := by decide +kernel
theorem dX2_daysInLeaf_4 : decode cX2_daysInLeaf 4 = .ok (.bipush 30, 2) := by decide +kernel
theorem dX2_daysInLeaf_6 : decode cX2_daysInLeaf 6 = .ok (.imul, 1) := by decide +kernel
theorem dX2_daysInLeaf_7 : decode cX2_daysInLeaf 7 = .ok (.istore_n 3, 1) := by decide +kernel
theorem dX2_daysInLeaf_8 : decode cX2_daysInLeaf 8 = .ok (.aload_n 0, 1) := by decide +kernel
theorem dX2_daysInLeaf_9 : decode cX2_daysInLeaf 9 = .ok (.getfield 9, 3) := by decide +kernel
theorem dX2_daysInLeaf_12 : decode cX2_daysInLeaf 12 = .ok (.iconst 1, 1) := by decide +kernel
theorem dX2_daysInLeaf_13 : decode cX2_daysInLeaf 13 = .ok (.iload_n 1, 1) := by decide +kernel
theorem dX2_daysInLeaf_14 : decode cX2_daysInLeaf 14 = .ok (.iconst 0, 1) := by decide +kernel
theorem dX2_daysInLeaf_15 : decode cX2_daysInLeaf 15 = .ok (.invokevirtual 49, 3) := by decide +kernel
theorem dX2_daysInLeaf_18 : decode cX2_daysInLeaf 18 = .ok (.iload_n 3, 1) := by decide +kernel
theorem dX2_daysInLeaf_19 : decode cX2_daysInLeaf 19 = .ok (.isub, 1) := by decide +kernel
theorem dX2_daysInLeaf_20 : decode cX2_daysInLeaf 20 = .ok (.istore 4, 2) := by decide +kernel
theorem dX2_daysInLeaf_22 : decode cX2_daysInLeaf 22 = .ok (.aload_n 0, 1) := by decide +kernel
theorem dX2_daysInLeaf_23 : decode cX2_daysInLeaf 23 = .ok (.getfield 9, 3) := by decide +kernel
theorem dX2_daysInLeaf_26 : decode cX2_daysInLeaf 26 = .ok (.iconst 1, 1) := by decide +kernel
theorem dX2_daysInLeaf_27 : decode cX2_daysInLeaf 27 = .ok (.iload_n 1, 1) := by decide +kernel
theorem dX2_daysInLeaf_28 : decode cX2_daysInLeaf 28 = .ok (.iconst 1, 1) := by decide +kernel
theorem dX2_daysInLeaf_29 : decode cX2_daysInLeaf 29 = .ok (.invokevirtual 49, 3) := by decide +kernel
theorem dX2_daysInLeaf_32 : decode cX2_daysInLeaf 32 = .ok (.iload_n 3, 1) := by decide +kernel
theorem dX2_daysInLeaf_33 : decode cX2_daysInLeaf 33 = .ok (.isub, 1) := by decide +kernel
theorem dX2_daysInLeaf_34 : decode cX2_daysInLeaf 34 = .ok (.istore 5, 2) := by decide +kernel
theorem dX2_daysInLeaf_36 : decode cX2_daysInLeaf 36 = .ok (.iload 4, 2) := by decide +kernel
theorem dX2_daysInLeaf_38 : decode cX2_daysInLeaf 38 = .ok (.iload 5, 2) := by decide +kernel
theorem dX2_daysInLeaf_40 : decode cX2_daysInLeaf 40 = .ok (.if_icmp .ge 15, 3) := by decide +kernel
theorem dX2_daysInLeaf_43 : decode cX2_daysInLeaf 43 = .ok (.iload 4, 2) := by decide +kernel
theorem dX2_daysInLeaf_45 : decode cX2_daysInLeaf 45 = .ok (.iload 5, 2) := by decide +kernel
theorem dX2_daysInLeaf_47 : decode cX2_daysInLeaf 47 = .ok (.iconst 1, 1) := by decide +kernel
theorem dX2_daysInLeaf_48 : decode cX2_daysInLeaf 48 = .ok (.isub, 1) := by decide +kernel
theorem dX2_daysInLeaf_49 : decode cX2_daysInLeaf 49 = .ok (.invokestatic 54, 3) := by decide +kernel
theorem dX2_daysInLeaf_52 : decode cX2_daysInLeaf 52 = .ok (.goto 17, 3) := by decide +kernel
theorem dX2_daysInLeaf_55 : decode cX2_daysInLeaf 55 = .ok (.ldc 42, 2) := by decide +kernel
theorem dX2_daysInLeaf_57 : decode cX2_daysInLeaf 57 = .ok (.iload 5, 2) := by decide +kernel
theorem dX2_daysInLeaf_59 : decode cX2_daysInLeaf 59 = .ok (.iload 4, 2) := by decide +kernel
theorem dX2_daysInLeaf_61 : decode cX2_daysInLeaf 61 = .ok (.iconst 1, 1) := by decide +kernel
theorem dX2_daysInLeaf_62 : decode cX2_daysInLeaf 62 = .ok (.isub, 1) := by decide +kernel
theorem dX2_daysInLeaf_63 : decode cX2_daysInLeaf 63 = .ok (.invokestatic 54, 3) := by decide +kernel
theorem dX2_daysInLeaf_66 : decode cX2_daysInLeaf 66 = .ok (.iconst (-1), 1) := by decide +kernel
theorem dX2_daysInLeaf_67 : decode cX2_daysInLeaf 67 = .ok (.ixor, 1) := by decide +kernel
theorem dX2_daysInLeaf_68 : decode cX2_daysInLeaf 68 = .ok (.iand, 1) := by decide +kernel
theorem dX2_daysInLeaf_69 : decode cX2_daysInLeaf 69 = .ok (.ireturn, 1) := by decide +kernel
theorem dX2_daysOfWeek_0 : decode cX2_daysOfWeek 0 = .ok (.iconst 0, 1) := by decide +kernel
theorem dX2_daysOfWeek_1 : decode cX2_daysOfWeek 1 = .ok (.istore_n 2, 1) := by decide +kernel
theorem dX2_daysOfWeek_2 : decode cX2_daysOfWeek 2 = .ok (.iconst 0, 1) := by decide +kernel
theorem dX2_daysOfWeek_3 : decode cX2_daysOfWeek 3 = .ok (.istore_n 3, 1) := by decide +kernel
theorem dX2_daysOfWeek_4 : decode cX2_daysOfWeek 4 = .ok (.iload_n 3, 1) := by decide +kernel
theorem dX2_daysOfWeek_5 : decode cX2_daysOfWeek 5 = .ok (.bipush 30, 2) := by decide +kernel
theorem dX2_daysOfWeek_7 : decode cX2_daysOfWeek 7 = .ok (.if_icmp .ge 28, 3) := by decide +kernel
theorem dX2_daysOfWeek_10 : decode cX2_daysOfWeek 10 = .ok (.iload_n 1, 1) := by decide +kernel
theorem dX2_daysOfWeek_11 : decode cX2_daysOfWeek 11 = .ok (.bipush 30, 2) := by decide +kernel
theorem dX2_daysOfWeek_13 : decode cX2_daysOfWeek 13 = .ok (.imul, 1) := by decide +kernel
theorem dX2_daysOfWeek_14 : decode cX2_daysOfWeek 14 = .ok (.iload_n 3, 1) := by decide +kernel
theorem dX2_daysOfWeek_15 : decode cX2_daysOfWeek 15 = .ok (.iadd, 1) := by decide +kernel
theorem dX2_daysOfWeek_16 : decode cX2_daysOfWeek 16 = .ok (.bipush 7, 2) := by decide +kernel
theorem dX2_daysOfWeek_18 : decode cX2_daysOfWeek 18 = .ok (.irem, 1) := by decide +kernel
theorem dX2_daysOfWeek_19 : decode cX2_daysOfWeek 19 = .ok (.iload_n 0, 1) := by decide +kernel
theorem dX2_daysOfWeek_20 : decode cX2_daysOfWeek 20 = .ok (.if_icmp .ne 9, 3) := by decide +kernel
theorem dX2_daysOfWeek_23 : decode cX2_daysOfWeek 23 = .ok (.iload_n 2, 1) := by decide +kernel
theorem dX2_daysOfWeek_24 : decode cX2_daysOfWeek 24 = .ok (.iconst 1, 1) := by decide +kernel
theorem dX2_daysOfWeek_25 : decode cX2_daysOfWeek 25 = .ok (.iload_n 3, 1) := by decide +kernel
theorem dX2_daysOfWeek_26 : decode cX2_daysOfWeek 26 = .ok (.ishl, 1) := by decide +kernel
theorem dX2_daysOfWeek_27 : decode cX2_daysOfWeek 27 = .ok (.ior, 1) := by decide +kernel
theorem dX2_daysOfWeek_28 : decode cX2_daysOfWeek 28 = .ok (.istore_n 2, 1) := by decide +kernel
theorem dX2_daysOfWeek_29 : decode cX2_daysOfWeek 29 = .ok (.iinc 3 1, 3) := by decide +kernel
theorem dX2_daysOfWeek_32 : decode cX2_daysOfWeek 32 = .ok (.goto (-28), 3) := by decide +kernel
theorem dX2_daysOfWeek_35 : decode cX2_daysOfWeek 35 = .ok (.iload_n 2, 1) := by decide +kernel
theorem dX2_daysOfWeek_36 : decode cX2_daysOfWeek 36 = .ok (.ireturn, 1) := by decide +kernel
theorem dX3_init_0 : decode cX3_init 0 = .ok (.aload_n 0, 1) := by decide +kernel
theorem dX3_init_1 : decode cX3_init 1 = .ok (.invokespecial 3, 3) := by decide +kernel
theorem dX3_init_4 : decode cX3_init 4 = .ok (.aload_n 0, 1) := by decide +kernel
theorem dX3_init_5 : decode cX3_init 5 = .ok (.sipush 3601, 3) := by decide +kernel
theorem dX3_init_8 : decode cX3_init 8 = .ok (.newarray .int, 2) := by decide +kernel
theorem dX3_init_10 : decode cX3_init 10 = .ok (.putfield 9, 3) := by decide +kernel
theorem dX3_init_13 : decode cX3_init 13 = .ok (.aload_n 0, 1) := by decide +kernel
theorem dX3_init_14 : decode cX3_init 14 = .ok (.aload_n 1, 1) := by decide +kernel
theorem dX3_init_15 : decode cX3_init 15 = .ok (.putfield 15, 3) := by decide +kernel
theorem dX3_init_18 : decode cX3_init 18 = .ok (.aload_n 0, 1) := by decide +kernel
theorem dX3_init_19 : decode cX3_init 19 = .ok (.aload_n 2, 1) := by decide +kernel
theorem dX3_init_20 : decode cX3_init 20 = .ok (.putfield 19, 3) := by decide +kernel
theorem dX3_init_23 : decode cX3_init 23 = .ok (.return_, 1) := by decide +kernel
theorem dX3_together_0 : decode cX3_together 0 = .ok (.aload_n 0, 1) := by decide +kernel
theorem dX3_together_1 : decode cX3_together 1 = .ok (.getfield 23, 3) := by decide +kernel
theorem dX3_together_4 : decode cX3_together 4 = .ok (.lreturn, 1) := by decide +kernel
theorem dX3_dayCount_0 : decode cX3_dayCount 0 = .ok (.aload_n 0, 1) := by decide +kernel
theorem dX3_dayCount_1 : decode cX3_dayCount 1 = .ok (.getfield 27, 3) := by decide +kernel
theorem dX3_dayCount_4 : decode cX3_dayCount 4 = .ok (.ireturn, 1) := by decide +kernel
theorem dX3_finds_0 : decode cX3_finds 0 = .ok (.aload_n 0, 1) := by decide +kernel
theorem dX3_finds_1 : decode cX3_finds 1 = .ok (.getfield 15, 3) := by decide +kernel
theorem dX3_finds_4 : decode cX3_finds 4 = .ok (.iconst 0, 1) := by decide +kernel
theorem dX3_finds_5 : decode cX3_finds 5 = .ok (.iload_n 2, 1) := by decide +kernel
theorem dX3_finds_6 : decode cX3_finds 6 = .ok (.iconst 0, 1) := by decide +kernel
theorem dX3_finds_7 : decode cX3_finds 7 = .ok (.invokevirtual 31, 3) := by decide +kernel
theorem dX3_finds_10 : decode cX3_finds 10 = .ok (.istore_n 3, 1) := by decide +kernel
theorem dX3_finds_11 : decode cX3_finds 11 = .ok (.aload_n 0, 1) := by decide +kernel
theorem dX3_finds_12 : decode cX3_finds 12 = .ok (.getfield 15, 3) := by decide +kernel
theorem dX3_finds_15 : decode cX3_finds 15 = .ok (.iconst 0, 1) := by decide +kernel
theorem dX3_finds_16 : decode cX3_finds 16 = .ok (.iload_n 2, 1) := by decide +kernel
theorem dX3_finds_17 : decode cX3_finds 17 = .ok (.iconst 1, 1) := by decide +kernel
theorem dX3_finds_18 : decode cX3_finds 18 = .ok (.invokevirtual 31, 3) := by decide +kernel
theorem dX3_finds_21 : decode cX3_finds 21 = .ok (.istore 4, 2) := by decide +kernel
theorem dX3_finds_23 : decode cX3_finds 23 = .ok (.aload_n 0, 1) := by decide +kernel
theorem dX3_finds_24 : decode cX3_finds 24 = .ok (.getfield 15, 3) := by decide +kernel
theorem dX3_finds_27 : decode cX3_finds 27 = .ok (.iconst 0, 1) := by decide +kernel
theorem dX3_finds_28 : decode cX3_finds 28 = .ok (.iload_n 2, 1) := by decide +kernel
theorem dX3_finds_29 : decode cX3_finds 29 = .ok (.invokevirtual 37, 3) := by decide +kernel
theorem dX3_finds_32 : decode cX3_finds 32 = .ok (.ifCond .eq 8, 3) := by decide +kernel
theorem dX3_finds_35 : decode cX3_finds 35 = .ok (.iload 4, 2) := by decide +kernel
theorem dX3_finds_37 : decode cX3_finds 37 = .ok (.ifCond .gt 5, 3) := by decide +kernel
theorem dX3_finds_40 : decode cX3_finds 40 = .ok (.iconst 0, 1) := by decide +kernel
theorem dX3_finds_41 : decode cX3_finds 41 = .ok (.ireturn, 1) := by decide +kernel
theorem dX3_finds_42 : decode cX3_finds 42 = .ok (.aload_n 0, 1) := by decide +kernel
theorem dX3_finds_43 : decode cX3_finds 43 = .ok (.getfield 15, 3) := by decide +kernel
theorem dX3_finds_46 : decode cX3_finds 46 = .ok (.iconst 0, 1) := by decide +kernel
theorem dX3_finds_47 : decode cX3_finds 47 = .ok (.iload_n 2, 1) := by decide +kernel
theorem dX3_finds_48 : decode cX3_finds 48 = .ok (.iconst 2, 1) := by decide +kernel
theorem dX3_finds_49 : decode cX3_finds 49 = .ok (.invokevirtual 31, 3) := by decide +kernel
theorem dX3_finds_52 : decode cX3_finds 52 = .ok (.istore 5, 2) := by decide +kernel
theorem dX3_finds_54 : decode cX3_finds 54 = .ok (.iload_n 3, 1) := by decide +kernel
theorem dX3_finds_55 : decode cX3_finds 55 = .ok (.iload 4, 2) := by decide +kernel
theorem dX3_finds_57 : decode cX3_finds 57 = .ok (.iadd, 1) := by decide +kernel
theorem dX3_finds_58 : decode cX3_finds 58 = .ok (.iload 5, 2) := by decide +kernel
theorem dX3_finds_60 : decode cX3_finds 60 = .ok (.iconst (-1), 1) := by decide +kernel
theorem dX3_finds_61 : decode cX3_finds 61 = .ok (.if_icmp .ne 9, 3) := by decide +kernel
theorem dX3_finds_64 : decode cX3_finds 64 = .ok (.sipush 3599, 3) := by decide +kernel
theorem dX3_finds_67 : decode cX3_finds 67 = .ok (.goto 5, 3) := by decide +kernel
theorem dX3_finds_70 : decode cX3_finds 70 = .ok (.iload 5, 2) := by decide +kernel
theorem dX3_finds_72 : decode cX3_finds 72 = .ok (.invokestatic 41, 3) := by decide +kernel
theorem dX3_finds_75 : decode cX3_finds 75 = .ok (.istore 6, 2) := by decide +kernel
theorem dX3_finds_77 : decode cX3_finds 77 = .ok (.aload_n 0, 1) := by decide +kernel
theorem dX3_finds_78 : decode cX3_finds 78 = .ok (.aload_n 1, 1) := by decide +kernel
theorem dX3_finds_79 : decode cX3_finds 79 = .ok (.iload_n 2, 1) := by decide +kernel
theorem dX3_finds_80 : decode cX3_finds 80 = .ok (.invokevirtual 47, 3) := by decide +kernel
theorem dX3_finds_83 : decode cX3_finds 83 = .ok (.aload_n 0, 1) := by decide +kernel
theorem dX3_finds_84 : decode cX3_finds 84 = .ok (.lconst 0, 1) := by decide +kernel
theorem dX3_finds_85 : decode cX3_finds 85 = .ok (.putfield 23, 3) := by decide +kernel
theorem dX3_finds_88 : decode cX3_finds 88 = .ok (.aload_n 0, 1) := by decide +kernel
theorem dX3_finds_89 : decode cX3_finds 89 = .ok (.iconst 0, 1) := by decide +kernel
theorem dX3_finds_90 : decode cX3_finds 90 = .ok (.putfield 27, 3) := by decide +kernel
theorem dX3_finds_93 : decode cX3_finds 93 = .ok (.iload_n 3, 1) := by decide +kernel
theorem dX3_finds_94 : decode cX3_finds 94 = .ok (.iload 4, 2) := by decide +kernel
theorem dX3_finds_96 : decode cX3_finds 96 = .ok (.isub, 1) := by decide +kernel
theorem dX3_finds_97 : decode cX3_finds 97 = .ok (.iconst 0, 1) := by decide +kernel
theorem dX3_finds_98 : decode cX3_finds 98 = .ok (.invokestatic 51, 3) := by decide +kernel
theorem dX3_finds_101 : decode cX3_finds 101 = .ok (.istore 7, 2) := by decide +kernel
theorem dX3_finds_103 : decode cX3_finds 103 = .ok (.iload 7, 2) := by decide +kernel
theorem dX3_finds_105 : decode cX3_finds 105 = .ok (.iload 6, 2) := by decide +kernel
theorem dX3_finds_107 : decode cX3_finds 107 = .ok (.if_icmp .gt 36, 3) := by decide +kernel
theorem dX3_finds_110 : decode cX3_finds 110 = .ok (.aload_n 0, 1) := by decide +kernel
theorem dX3_finds_111 : decode cX3_finds 111 = .ok (.dup, 1) := by decide +kernel
theorem dX3_finds_112 : decode cX3_finds 112 = .ok (.getfield 23, 3) := by decide +kernel
theorem dX3_finds_115 : decode cX3_finds 115 = .ok (.aload_n 0, 1) := by decide +kernel
theorem dX3_finds_116 : decode cX3_finds 116 = .ok (.iload_n 2, 1) := by decide +kernel
theorem dX3_finds_117 : decode cX3_finds 117 = .ok (.iload 7, 2) := by decide +kernel
theorem dX3_finds_119 : decode cX3_finds 119 = .ok (.invokevirtual 54, 3) := by decide +kernel
theorem dX3_finds_122 : decode cX3_finds 122 = .ok (.i2l, 1) := by decide +kernel
theorem dX3_finds_123 : decode cX3_finds 123 = .ok (.ladd, 1) := by decide +kernel
theorem dX3_finds_124 : decode cX3_finds 124 = .ok (.putfield 23, 3) := by decide +kernel
theorem dX3_finds_127 : decode cX3_finds 127 = .ok (.aload_n 0, 1) := by decide +kernel
theorem dX3_finds_128 : decode cX3_finds 128 = .ok (.dup, 1) := by decide +kernel
theorem dX3_finds_129 : decode cX3_finds 129 = .ok (.getfield 27, 3) := by decide +kernel
theorem dX3_finds_132 : decode cX3_finds 132 = .ok (.iconst 1, 1) := by decide +kernel
theorem dX3_finds_133 : decode cX3_finds 133 = .ok (.iadd, 1) := by decide +kernel
theorem dX3_finds_134 : decode cX3_finds 134 = .ok (.putfield 27, 3) := by decide +kernel
theorem dX3_finds_137 : decode cX3_finds 137 = .ok (.iinc 7 1, 3) := by decide +kernel
theorem dX3_finds_140 : decode cX3_finds 140 = .ok (.goto (-37), 3) := by decide +kernel
theorem dX3_finds_143 : decode cX3_finds 143 = .ok (.iconst 1, 1) := by decide +kernel
theorem dX3_finds_144 : decode cX3_finds 144 = .ok (.ireturn, 1) := by decide +kernel
theorem dX3_leastOf_0 : decode cX3_leastOf 0 = .ok (.iconst (-1), 1) := by decide +kernel
theorem dX3_leastOf_1 : decode cX3_leastOf 1 = .ok (.istore_n 2, 1) := by decide +kernel
theorem dX3_leastOf_2 : decode cX3_leastOf 2 = .ok (.lconst 0, 1) := by decide +kernel
theorem dX3_leastOf_3 : decode cX3_leastOf 3 = .ok (.lstore_n 3, 1) := by decide +kernel
theorem dX3_leastOf_4 : decode cX3_leastOf 4 = .ok (.lconst 1, 1) := by decide +kernel
theorem dX3_leastOf_5 : decode cX3_leastOf 5 = .ok (.lstore 5, 2) := by decide +kernel
theorem dX3_leastOf_7 : decode cX3_leastOf 7 = .ok (.iconst 0, 1) := by decide +kernel
theorem dX3_leastOf_8 : decode cX3_leastOf 8 = .ok (.istore 7, 2) := by decide +kernel
theorem dX3_leastOf_10 : decode cX3_leastOf 10 = .ok (.iload 7, 2) := by decide +kernel
theorem dX3_leastOf_12 : decode cX3_leastOf 12 = .ok (.aload_n 0, 1) := by decide +kernel
theorem dX3_leastOf_13 : decode cX3_leastOf 13 = .ok (.getfield 15, 3) := by decide +kernel
theorem dX3_leastOf_16 : decode cX3_leastOf 16 = .ok (.iconst 0, 1) := by decide +kernel
theorem dX3_leastOf_17 : decode cX3_leastOf 17 = .ok (.invokevirtual 57, 3) := by decide +kernel
theorem dX3_leastOf_20 : decode cX3_leastOf 20 = .ok (.if_icmp .ge 69, 3) := by decide +kernel
theorem dX3_leastOf_23 : decode cX3_leastOf 23 = .ok (.aload_n 1, 1) := by decide +kernel
theorem dX3_leastOf_24 : decode cX3_leastOf 24 = .ok (.iload 7, 2) := by decide +kernel
theorem dX3_leastOf_26 : decode cX3_leastOf 26 = .ok (.invokestatic 61, 3) := by decide +kernel
theorem dX3_leastOf_29 : decode cX3_leastOf 29 = .ok (.ifCond .eq 54, 3) := by decide +kernel
theorem dX3_leastOf_32 : decode cX3_leastOf 32 = .ok (.aload_n 0, 1) := by decide +kernel
theorem dX3_leastOf_33 : decode cX3_leastOf 33 = .ok (.aload_n 1, 1) := by decide +kernel
theorem dX3_leastOf_34 : decode cX3_leastOf 34 = .ok (.iload 7, 2) := by decide +kernel
theorem dX3_leastOf_36 : decode cX3_leastOf 36 = .ok (.invokevirtual 65, 3) := by decide +kernel
theorem dX3_leastOf_39 : decode cX3_leastOf 39 = .ok (.ifCond .ne 6, 3) := by decide +kernel
theorem dX3_leastOf_42 : decode cX3_leastOf 42 = .ok (.goto 41, 3) := by decide +kernel
theorem dX3_leastOf_45 : decode cX3_leastOf 45 = .ok (.iload_n 2, 1) := by decide +kernel
theorem dX3_leastOf_46 : decode cX3_leastOf 46 = .ok (.iconst (-1), 1) := by decide +kernel
theorem dX3_leastOf_47 : decode cX3_leastOf 47 = .ok (.if_icmp .eq 21, 3) := by decide +kernel
theorem dX3_leastOf_50 : decode cX3_leastOf 50 = .ok (.aload_n 0, 1) := by decide +kernel
theorem dX3_leastOf_51 : decode cX3_leastOf 51 = .ok (.getfield 23, 3) := by decide +kernel
theorem dX3_leastOf_54 : decode cX3_leastOf 54 = .ok (.lload 5, 2) := by decide +kernel
theorem dX3_leastOf_56 : decode cX3_leastOf 56 = .ok (.lmul, 1) := by decide +kernel
theorem dX3_leastOf_57 : decode cX3_leastOf 57 = .ok (.lload_n 3, 1) := by decide +kernel
theorem dX3_leastOf_58 : decode cX3_leastOf 58 = .ok (.aload_n 0, 1) := by decide +kernel
theorem dX3_leastOf_59 : decode cX3_leastOf 59 = .ok (.getfield 27, 3) := by decide +kernel
theorem dX3_leastOf_62 : decode cX3_leastOf 62 = .ok (.i2l, 1) := by decide +kernel
theorem dX3_leastOf_63 : decode cX3_leastOf 63 = .ok (.lmul, 1) := by decide +kernel
theorem dX3_leastOf_64 : decode cX3_leastOf 64 = .ok (.lcmp, 1) := by decide +kernel
theorem dX3_leastOf_65 : decode cX3_leastOf 65 = .ok (.ifCond .ge 18, 3) := by decide +kernel
theorem dX3_leastOf_68 : decode cX3_leastOf 68 = .ok (.iload 7, 2) := by decide +kernel
theorem dX3_leastOf_70 : decode cX3_leastOf 70 = .ok (.istore_n 2, 1) := by decide +kernel
theorem dX3_leastOf_71 : decode cX3_leastOf 71 = .ok (.aload_n 0, 1) := by decide +kernel
theorem dX3_leastOf_72 : decode cX3_leastOf 72 = .ok (.getfield 23, 3) := by decide +kernel
theorem dX3_leastOf_75 : decode cX3_leastOf 75 = .ok (.lstore_n 3, 1) := by decide +kernel
theorem dX3_leastOf_76 : decode cX3_leastOf 76 = .ok (.aload_n 0, 1) := by decide +kernel
theorem dX3_leastOf_77 : decode cX3_leastOf 77 = .ok (.getfield 27, 3) := by decide +kernel
theorem dX3_leastOf_80 : decode cX3_leastOf 80 = .ok (.i2l, 1) := by decide +kernel
theorem dX3_leastOf_81 : decode cX3_leastOf 81 = .ok (.lstore 5, 2) := by decide +kernel
theorem dX3_leastOf_83 : decode cX3_leastOf 83 = .ok (.iinc 7 1, 3) := by decide +kernel
theorem dX3_leastOf_86 : decode cX3_leastOf 86 = .ok (.goto (-76), 3) := by decide +kernel
theorem dX3_leastOf_89 : decode cX3_leastOf 89 = .ok (.iload_n 2, 1) := by decide +kernel
theorem dX3_leastOf_90 : decode cX3_leastOf 90 = .ok (.ireturn, 1) := by decide +kernel
theorem dX3_isNamed_0 : decode cX3_isNamed 0 = .ok (.iconst 0, 1) := by decide +kernel
theorem dX3_isNamed_1 : decode cX3_isNamed 1 = .ok (.istore_n 2, 1) := by decide +kernel
theorem dX3_isNamed_2 : decode cX3_isNamed 2 = .ok (.iload_n 2, 1) := by decide +kernel
theorem dX3_isNamed_3 : decode cX3_isNamed 3 = .ok (.aload_n 0, 1) := by decide +kernel
theorem dX3_isNamed_4 : decode cX3_isNamed 4 = .ok (.invokevirtual 68, 3) := by decide +kernel
theorem dX3_isNamed_7 : decode cX3_isNamed 7 = .ok (.if_icmp .ge 20, 3) := by decide +kernel
theorem dX3_isNamed_10 : decode cX3_isNamed 10 = .ok (.aload_n 0, 1) := by decide +kernel
theorem dX3_isNamed_11 : decode cX3_isNamed 11 = .ok (.iload_n 2, 1) := by decide +kernel
theorem dX3_isNamed_12 : decode cX3_isNamed 12 = .ok (.iload_n 1, 1) := by decide +kernel
theorem dX3_isNamed_13 : decode cX3_isNamed 13 = .ok (.invokevirtual 74, 3) := by decide +kernel
theorem dX3_isNamed_16 : decode cX3_isNamed 16 = .ok (.ifCond .eq 5, 3) := by decide +kernel
theorem dX3_isNamed_19 : decode cX3_isNamed 19 = .ok (.iconst 1, 1) := by decide +kernel
theorem dX3_isNamed_20 : decode cX3_isNamed 20 = .ok (.ireturn, 1) := by decide +kernel
theorem dX3_isNamed_21 : decode cX3_isNamed 21 = .ok (.iinc 2 1, 3) := by decide +kernel
theorem dX3_isNamed_24 : decode cX3_isNamed 24 = .ok (.goto (-22), 3) := by decide +kernel
theorem dX3_isNamed_27 : decode cX3_isNamed 27 = .ok (.iconst 0, 1) := by decide +kernel
theorem dX3_isNamed_28 : decode cX3_isNamed 28 = .ok (.ireturn, 1) := by decide +kernel
theorem dX3_countAhead_0 : decode cX3_countAhead 0 = .ok (.aload_n 0, 1) := by decide +kernel
theorem dX3_countAhead_1 : decode cX3_countAhead 1 = .ok (.iconst 0, 1) := by decide +kernel
theorem dX3_countAhead_2 : decode cX3_countAhead 2 = .ok (.putfield 77, 3) := by decide +kernel
theorem dX3_countAhead_5 : decode cX3_countAhead 5 = .ok (.aload_n 0, 1) := by decide +kernel
theorem dX3_countAhead_6 : decode cX3_countAhead 6 = .ok (.iconst 0, 1) := by decide +kernel
theorem dX3_countAhead_7 : decode cX3_countAhead 7 = .ok (.putfield 81, 3) := by decide +kernel
theorem dX3_countAhead_10 : decode cX3_countAhead 10 = .ok (.iconst 0, 1) := by decide +kernel
theorem dX3_countAhead_11 : decode cX3_countAhead 11 = .ok (.istore_n 3, 1) := by decide +kernel
theorem dX3_countAhead_12 : decode cX3_countAhead 12 = .ok (.iload_n 3, 1) := by decide +kernel
theorem dX3_countAhead_13 : decode cX3_countAhead 13 = .ok (.aload_n 1, 1) := by decide +kernel
theorem dX3_countAhead_14 : decode cX3_countAhead 14 = .ok (.invokevirtual 68, 3) := by decide +kernel
theorem dX3_countAhead_17 : decode cX3_countAhead 17 = .ok (.if_icmp .ge 69, 3) := by decide +kernel
theorem dX3_countAhead_20 : decode cX3_countAhead 20 = .ok (.aload_n 1, 1) := by decide +kernel
theorem dX3_countAhead_21 : decode cX3_countAhead 21 = .ok (.iload_n 3, 1) := by decide +kernel
theorem dX3_countAhead_22 : decode cX3_countAhead 22 = .ok (.iload_n 2, 1) := by decide +kernel
theorem dX3_countAhead_23 : decode cX3_countAhead 23 = .ok (.invokevirtual 74, 3) := by decide +kernel
theorem dX3_countAhead_26 : decode cX3_countAhead 26 = .ok (.ifCond .eq 54, 3) := by decide +kernel
theorem dX3_countAhead_29 : decode cX3_countAhead 29 = .ok (.aload_n 0, 1) := by decide +kernel
theorem dX3_countAhead_30 : decode cX3_countAhead 30 = .ok (.aload_n 0, 1) := by decide +kernel
theorem dX3_countAhead_31 : decode cX3_countAhead 31 = .ok (.getfield 77, 3) := by decide +kernel
theorem dX3_countAhead_34 : decode cX3_countAhead 34 = .ok (.ifCond .ne 12, 3) := by decide +kernel
theorem dX3_countAhead_37 : decode cX3_countAhead 37 = .ok (.aload_n 1, 1) := by decide +kernel
theorem dX3_countAhead_38 : decode cX3_countAhead 38 = .ok (.iload_n 3, 1) := by decide +kernel
theorem dX3_countAhead_39 : decode cX3_countAhead 39 = .ok (.iconst 0, 1) := by decide +kernel
theorem dX3_countAhead_40 : decode cX3_countAhead 40 = .ok (.invokevirtual 84, 3) := by decide +kernel
theorem dX3_countAhead_43 : decode cX3_countAhead 43 = .ok (.ifCond .ne 7, 3) := by decide +kernel
theorem dX3_countAhead_46 : decode cX3_countAhead 46 = .ok (.iconst 1, 1) := by decide +kernel
theorem dX3_countAhead_47 : decode cX3_countAhead 47 = .ok (.goto 4, 3) := by decide +kernel
theorem dX3_countAhead_50 : decode cX3_countAhead 50 = .ok (.iconst 0, 1) := by decide +kernel
theorem dX3_countAhead_51 : decode cX3_countAhead 51 = .ok (.putfield 77, 3) := by decide +kernel
theorem dX3_countAhead_54 : decode cX3_countAhead 54 = .ok (.aload_n 0, 1) := by decide +kernel
theorem dX3_countAhead_55 : decode cX3_countAhead 55 = .ok (.aload_n 0, 1) := by decide +kernel
theorem dX3_countAhead_56 : decode cX3_countAhead 56 = .ok (.getfield 81, 3) := by decide +kernel
theorem dX3_countAhead_59 : decode cX3_countAhead 59 = .ok (.ifCond .ne 13, 3) := by decide +kernel
theorem dX3_countAhead_62 : decode cX3_countAhead 62 = .ok (.aload_n 1, 1) := by decide +kernel
theorem dX3_countAhead_63 : decode cX3_countAhead 63 = .ok (.iload_n 3, 1) := by decide +kernel
theorem dX3_countAhead_64 : decode cX3_countAhead 64 = .ok (.iconst 0, 1) := by decide +kernel
theorem dX3_countAhead_65 : decode cX3_countAhead 65 = .ok (.invokevirtual 84, 3) := by decide +kernel
theorem dX3_countAhead_68 : decode cX3_countAhead 68 = .ok (.iconst 1, 1) := by decide +kernel
theorem dX3_countAhead_69 : decode cX3_countAhead 69 = .ok (.if_icmp .ne 7, 3) := by decide +kernel
theorem dX3_countAhead_72 : decode cX3_countAhead 72 = .ok (.iconst 1, 1) := by decide +kernel
theorem dX3_countAhead_73 : decode cX3_countAhead 73 = .ok (.goto 4, 3) := by decide +kernel
theorem dX3_countAhead_76 : decode cX3_countAhead 76 = .ok (.iconst 0, 1) := by decide +kernel
theorem dX3_countAhead_77 : decode cX3_countAhead 77 = .ok (.putfield 81, 3) := by decide +kernel
theorem dX3_countAhead_80 : decode cX3_countAhead 80 = .ok (.iinc 3 1, 3) := by decide +kernel
theorem dX3_countAhead_83 : decode cX3_countAhead 83 = .ok (.goto (-71), 3) := by decide +kernel
theorem dX3_countAhead_86 : decode cX3_countAhead 86 = .ok (.iconst 0, 1) := by decide +kernel
theorem dX3_countAhead_87 : decode cX3_countAhead 87 = .ok (.istore_n 3, 1) := by decide +kernel
theorem dX3_countAhead_88 : decode cX3_countAhead 88 = .ok (.iconst 0, 1) := by decide +kernel
theorem dX3_countAhead_89 : decode cX3_countAhead 89 = .ok (.istore 4, 2) := by decide +kernel
theorem dX3_countAhead_91 : decode cX3_countAhead 91 = .ok (.iload 4, 2) := by decide +kernel
theorem dX3_countAhead_93 : decode cX3_countAhead 93 = .ok (.bipush 120, 2) := by decide +kernel
theorem dX3_countAhead_95 : decode cX3_countAhead 95 = .ok (.if_icmp .ge 126, 3) := by decide +kernel
theorem dX3_countAhead_98 : decode cX3_countAhead 98 = .ok (.ldc 87, 2) := by decide +kernel
theorem dX3_countAhead_100 : decode cX3_countAhead 100 = .ok (.istore 5, 2) := by decide +kernel
theorem dX3_countAhead_102 : decode cX3_countAhead 102 = .ok (.iconst 0, 1) := by decide +kernel
theorem dX3_countAhead_103 : decode cX3_countAhead 103 = .ok (.istore 6, 2) := by decide +kernel
theorem dX3_countAhead_105 : decode cX3_countAhead 105 = .ok (.iload 6, 2) := by decide +kernel
theorem dX3_countAhead_107 : decode cX3_countAhead 107 = .ok (.aload_n 1, 1) := by decide +kernel
theorem dX3_countAhead_108 : decode cX3_countAhead 108 = .ok (.invokevirtual 68, 3) := by decide +kernel
theorem dX3_countAhead_111 : decode cX3_countAhead 111 = .ok (.if_icmp .ge 47, 3) := by decide +kernel
theorem dX3_countAhead_114 : decode cX3_countAhead 114 = .ok (.iload 5, 2) := by decide +kernel
theorem dX3_countAhead_116 : decode cX3_countAhead 116 = .ok (.ifCond .eq 42, 3) := by decide +kernel
theorem dX3_countAhead_119 : decode cX3_countAhead 119 = .ok (.iload 5, 2) := by decide +kernel
theorem dX3_countAhead_121 : decode cX3_countAhead 121 = .ok (.aload_n 1, 1) := by decide +kernel
theorem dX3_countAhead_122 : decode cX3_countAhead 122 = .ok (.iload 6, 2) := by decide +kernel
theorem dX3_countAhead_124 : decode cX3_countAhead 124 = .ok (.iload_n 2, 1) := by decide +kernel
theorem dX3_countAhead_125 : decode cX3_countAhead 125 = .ok (.invokevirtual 74, 3) := by decide +kernel
theorem dX3_countAhead_128 : decode cX3_countAhead 128 = .ok (.ifCond .eq 8, 3) := by decide +kernel
theorem dX3_countAhead_131 : decode cX3_countAhead 131 = .ok (.ldc 87, 2) := by decide +kernel
theorem dX3_countAhead_133 : decode cX3_countAhead 133 = .ok (.goto 16, 3) := by decide +kernel
theorem dX3_countAhead_136 : decode cX3_countAhead 136 = .ok (.aload_n 0, 1) := by decide +kernel
theorem dX3_countAhead_137 : decode cX3_countAhead 137 = .ok (.getfield 19, 3) := by decide +kernel
theorem dX3_countAhead_140 : decode cX3_countAhead 140 = .ok (.aload_n 1, 1) := by decide +kernel
theorem dX3_countAhead_141 : decode cX3_countAhead 141 = .ok (.iload 6, 2) := by decide +kernel
theorem dX3_countAhead_143 : decode cX3_countAhead 143 = .ok (.iload 4, 2) := by decide +kernel
theorem dX3_countAhead_145 : decode cX3_countAhead 145 = .ok (.iconst 0, 1) := by decide +kernel
theorem dX3_countAhead_146 : decode cX3_countAhead 146 = .ok (.invokevirtual 88, 3) := by decide +kernel
theorem dX3_countAhead_149 : decode cX3_countAhead 149 = .ok (.iand, 1) := by decide +kernel
theorem dX3_countAhead_150 : decode cX3_countAhead 150 = .ok (.istore 5, 2) := by decide +kernel
theorem dX3_countAhead_152 : decode cX3_countAhead 152 = .ok (.iinc 6 1, 3) := by decide +kernel
theorem dX3_countAhead_155 : decode cX3_countAhead 155 = .ok (.goto (-50), 3) := by decide +kernel
theorem dX3_countAhead_158 : decode cX3_countAhead 158 = .ok (.aload_n 1, 1) := by decide +kernel
theorem dX3_countAhead_159 : decode cX3_countAhead 159 = .ok (.invokevirtual 94, 3) := by decide +kernel
theorem dX3_countAhead_162 : decode cX3_countAhead 162 = .ok (.iload 4, 2) := by decide +kernel
theorem dX3_countAhead_164 : decode cX3_countAhead 164 = .ok (.bipush 12, 2) := by decide +kernel
theorem dX3_countAhead_166 : decode cX3_countAhead 166 = .ok (.irem, 1) := by decide +kernel
theorem dX3_countAhead_167 : decode cX3_countAhead 167 = .ok (.invokevirtual 98, 3) := by decide +kernel
theorem dX3_countAhead_170 : decode cX3_countAhead 170 = .ok (.istore 6, 2) := by decide +kernel
theorem dX3_countAhead_172 : decode cX3_countAhead 172 = .ok (.iconst 0, 1) := by decide +kernel
theorem dX3_countAhead_173 : decode cX3_countAhead 173 = .ok (.istore 7, 2) := by decide +kernel
theorem dX3_countAhead_175 : decode cX3_countAhead 175 = .ok (.iload 7, 2) := by decide +kernel
theorem dX3_countAhead_177 : decode cX3_countAhead 177 = .ok (.bipush 30, 2) := by decide +kernel
theorem dX3_countAhead_179 : decode cX3_countAhead 179 = .ok (.if_icmp .ge 36, 3) := by decide +kernel
theorem dX3_countAhead_182 : decode cX3_countAhead 182 = .ok (.aload_n 0, 1) := by decide +kernel
theorem dX3_countAhead_183 : decode cX3_countAhead 183 = .ok (.getfield 9, 3) := by decide +kernel
theorem dX3_countAhead_186 : decode cX3_countAhead 186 = .ok (.iload 4, 2) := by decide +kernel
theorem dX3_countAhead_188 : decode cX3_countAhead 188 = .ok (.bipush 30, 2) := by decide +kernel
theorem dX3_countAhead_190 : decode cX3_countAhead 190 = .ok (.imul, 1) := by decide +kernel
theorem dX3_countAhead_191 : decode cX3_countAhead 191 = .ok (.iload 7, 2) := by decide +kernel
theorem dX3_countAhead_193 : decode cX3_countAhead 193 = .ok (.iadd, 1) := by decide +kernel
theorem dX3_countAhead_194 : decode cX3_countAhead 194 = .ok (.iload_n 3, 1) := by decide +kernel
theorem dX3_countAhead_195 : decode cX3_countAhead 195 = .ok (.iastore, 1) := by decide +kernel
theorem dX3_countAhead_196 : decode cX3_countAhead 196 = .ok (.iload_n 3, 1) := by decide +kernel
theorem dX3_countAhead_197 : decode cX3_countAhead 197 = .ok (.iload 5, 2) := by decide +kernel
theorem dX3_countAhead_199 : decode cX3_countAhead 199 = .ok (.iload 7, 2) := by decide +kernel
theorem dX3_countAhead_201 : decode cX3_countAhead 201 = .ok (.ishr, 1) := by decide +kernel
theorem dX3_countAhead_202 : decode cX3_countAhead 202 = .ok (.iconst 1, 1) := by decide +kernel
theorem dX3_countAhead_203 : decode cX3_countAhead 203 = .ok (.iand, 1) := by decide +kernel
theorem dX3_countAhead_204 : decode cX3_countAhead 204 = .ok (.iload 6, 2) := by decide +kernel
theorem dX3_countAhead_206 : decode cX3_countAhead 206 = .ok (.imul, 1) := by decide +kernel
theorem dX3_countAhead_207 : decode cX3_countAhead 207 = .ok (.iadd, 1) := by decide +kernel
theorem dX3_countAhead_208 : decode cX3_countAhead 208 = .ok (.istore_n 3, 1) := by decide +kernel
theorem dX3_countAhead_209 : decode cX3_countAhead 209 = .ok (.iinc 7 1, 3) := by decide +kernel
theorem dX3_countAhead_212 : decode cX3_countAhead 212 = .ok (.goto (-37), 3) := by decide +kernel
theorem dX3_countAhead_215 : decode cX3_countAhead 215 = .ok (.iinc 4 1, 3) := by decide +kernel
theorem dX3_countAhead_218 : decode cX3_countAhead 218 = .ok (.goto (-127), 3) := by decide +kernel
theorem dX3_countAhead_221 : decode cX3_countAhead 221 = .ok (.aload_n 0, 1) := by decide +kernel
theorem dX3_countAhead_222 : decode cX3_countAhead 222 = .ok (.getfield 9, 3) := by decide +kernel
theorem dX3_countAhead_225 : decode cX3_countAhead 225 = .ok (.sipush 3600, 3) := by decide +kernel
theorem dX3_countAhead_228 : decode cX3_countAhead 228 = .ok (.iload_n 3, 1) := by decide +kernel
theorem dX3_countAhead_229 : decode cX3_countAhead 229 = .ok (.iastore, 1) := by decide +kernel
theorem dX3_countAhead_230 : decode cX3_countAhead 230 = .ok (.return_, 1) := by decide +kernel
theorem dX3_countFrom_0 : decode cX3_countFrom 0 = .ok (.aload_n 0, 1) := by decide +kernel
theorem dX3_countFrom_1 : decode cX3_countFrom 1 = .ok (.getfield 15, 3) := by decide +kernel
theorem dX3_countFrom_4 : decode cX3_countFrom 4 = .ok (.iconst 0, 1) := by decide +kernel
theorem dX3_countFrom_5 : decode cX3_countFrom 5 = .ok (.iload_n 1, 1) := by decide +kernel
theorem dX3_countFrom_6 : decode cX3_countFrom 6 = .ok (.iconst 2, 1) := by decide +kernel
theorem dX3_countFrom_7 : decode cX3_countFrom 7 = .ok (.invokevirtual 31, 3) := by decide +kernel
theorem dX3_countFrom_10 : decode cX3_countFrom 10 = .ok (.istore_n 3, 1) := by decide +kernel
theorem dX3_countFrom_11 : decode cX3_countFrom 11 = .ok (.aload_n 0, 1) := by decide +kernel
theorem dX3_countFrom_12 : decode cX3_countFrom 12 = .ok (.getfield 15, 3) := by decide +kernel
theorem dX3_countFrom_15 : decode cX3_countFrom 15 = .ok (.iconst 0, 1) := by decide +kernel
theorem dX3_countFrom_16 : decode cX3_countFrom 16 = .ok (.iload_n 1, 1) := by decide +kernel
theorem dX3_countFrom_17 : decode cX3_countFrom 17 = .ok (.iconst 3, 1) := by decide +kernel
theorem dX3_countFrom_18 : decode cX3_countFrom 18 = .ok (.invokevirtual 31, 3) := by decide +kernel
theorem dX3_countFrom_21 : decode cX3_countFrom 21 = .ok (.istore 4, 2) := by decide +kernel
theorem dX3_countFrom_23 : decode cX3_countFrom 23 = .ok (.aload_n 0, 1) := by decide +kernel
theorem dX3_countFrom_24 : decode cX3_countFrom 24 = .ok (.getfield 77, 3) := by decide +kernel
theorem dX3_countFrom_27 : decode cX3_countFrom 27 = .ok (.ifCond .eq 7, 3) := by decide +kernel
theorem dX3_countFrom_30 : decode cX3_countFrom 30 = .ok (.iconst 0, 1) := by decide +kernel
theorem dX3_countFrom_31 : decode cX3_countFrom 31 = .ok (.goto 11, 3) := by decide +kernel
theorem dX3_countFrom_34 : decode cX3_countFrom 34 = .ok (.aload_n 0, 1) := by decide +kernel
theorem dX3_countFrom_35 : decode cX3_countFrom 35 = .ok (.iconst 0, 1) := by decide +kernel
theorem dX3_countFrom_36 : decode cX3_countFrom 36 = .ok (.iload_n 2, 1) := by decide +kernel
theorem dX3_countFrom_37 : decode cX3_countFrom 37 = .ok (.iconst 1, 1) := by decide +kernel
theorem dX3_countFrom_38 : decode cX3_countFrom 38 = .ok (.isub, 1) := by decide +kernel
theorem dX3_countFrom_39 : decode cX3_countFrom 39 = .ok (.invokevirtual 103, 3) := by decide +kernel
theorem dX3_countFrom_42 : decode cX3_countFrom 42 = .ok (.istore 5, 2) := by decide +kernel
theorem dX3_countFrom_44 : decode cX3_countFrom 44 = .ok (.aload_n 0, 1) := by decide +kernel
theorem dX3_countFrom_45 : decode cX3_countFrom 45 = .ok (.getfield 81, 3) := by decide +kernel
theorem dX3_countFrom_48 : decode cX3_countFrom 48 = .ok (.ifCond .eq 11, 3) := by decide +kernel
theorem dX3_countFrom_51 : decode cX3_countFrom 51 = .ok (.iload_n 3, 1) := by decide +kernel
theorem dX3_countFrom_52 : decode cX3_countFrom 52 = .ok (.iconst (-1), 1) := by decide +kernel
theorem dX3_countFrom_53 : decode cX3_countFrom 53 = .ok (.if_icmp .ne 6, 3) := by decide +kernel
theorem dX3_countFrom_56 : decode cX3_countFrom 56 = .ok (.iload 5, 2) := by decide +kernel
theorem dX3_countFrom_58 : decode cX3_countFrom 58 = .ok (.ireturn, 1) := by decide +kernel
theorem dX3_countFrom_59 : decode cX3_countFrom 59 = .ok (.aload_n 0, 1) := by decide +kernel
theorem dX3_countFrom_60 : decode cX3_countFrom 60 = .ok (.getfield 81, 3) := by decide +kernel
theorem dX3_countFrom_63 : decode cX3_countFrom 63 = .ok (.ifCond .eq 16, 3) := by decide +kernel
theorem dX3_countFrom_66 : decode cX3_countFrom 66 = .ok (.iload_n 2, 1) := by decide +kernel
theorem dX3_countFrom_67 : decode cX3_countFrom 67 = .ok (.iload_n 3, 1) := by decide +kernel
theorem dX3_countFrom_68 : decode cX3_countFrom 68 = .ok (.iload 4, 2) := by decide +kernel
theorem dX3_countFrom_70 : decode cX3_countFrom 70 = .ok (.isub, 1) := by decide +kernel
theorem dX3_countFrom_71 : decode cX3_countFrom 71 = .ok (.iconst 1, 1) := by decide +kernel
theorem dX3_countFrom_72 : decode cX3_countFrom 72 = .ok (.iadd, 1) := by decide +kernel
theorem dX3_countFrom_73 : decode cX3_countFrom 73 = .ok (.invokestatic 51, 3) := by decide +kernel
theorem dX3_countFrom_76 : decode cX3_countFrom 76 = .ok (.goto 4, 3) := by decide +kernel
theorem dX3_countFrom_79 : decode cX3_countFrom 79 = .ok (.iload_n 2, 1) := by decide +kernel
theorem dX3_countFrom_80 : decode cX3_countFrom 80 = .ok (.istore 6, 2) := by decide +kernel
theorem dX3_countFrom_82 : decode cX3_countFrom 82 = .ok (.aload_n 0, 1) := by decide +kernel
theorem dX3_countFrom_83 : decode cX3_countFrom 83 = .ok (.getfield 77, 3) := by decide +kernel
theorem dX3_countFrom_86 : decode cX3_countFrom 86 = .ok (.ifCond .eq 15, 3) := by decide +kernel
theorem dX3_countFrom_89 : decode cX3_countFrom 89 = .ok (.iload_n 3, 1) := by decide +kernel
theorem dX3_countFrom_90 : decode cX3_countFrom 90 = .ok (.iconst (-1), 1) := by decide +kernel
theorem dX3_countFrom_91 : decode cX3_countFrom 91 = .ok (.if_icmp .eq 10, 3) := by decide +kernel
theorem dX3_countFrom_94 : decode cX3_countFrom 94 = .ok (.iload_n 3, 1) := by decide +kernel
theorem dX3_countFrom_95 : decode cX3_countFrom 95 = .ok (.iload 4, 2) := by decide +kernel
theorem dX3_countFrom_97 : decode cX3_countFrom 97 = .ok (.iadd, 1) := by decide +kernel
theorem dX3_countFrom_98 : decode cX3_countFrom 98 = .ok (.goto 6, 3) := by decide +kernel
theorem dX3_countFrom_101 : decode cX3_countFrom 101 = .ok (.sipush 3599, 3) := by decide +kernel
theorem dX3_countFrom_104 : decode cX3_countFrom 104 = .ok (.istore 7, 2) := by decide +kernel
theorem dX3_countFrom_106 : decode cX3_countFrom 106 = .ok (.iload 5, 2) := by decide +kernel
theorem dX3_countFrom_108 : decode cX3_countFrom 108 = .ok (.aload_n 0, 1) := by decide +kernel
theorem dX3_countFrom_109 : decode cX3_countFrom 109 = .ok (.iload 6, 2) := by decide +kernel
theorem dX3_countFrom_111 : decode cX3_countFrom 111 = .ok (.iload 7, 2) := by decide +kernel
theorem dX3_countFrom_113 : decode cX3_countFrom 113 = .ok (.invokevirtual 103, 3) := by decide +kernel
theorem dX3_countFrom_116 : decode cX3_countFrom 116 = .ok (.iadd, 1) := by decide +kernel
theorem dX3_countFrom_117 : decode cX3_countFrom 117 = .ok (.ireturn, 1) := by decide +kernel
theorem dX3_countOf_0 : decode cX3_countOf 0 = .ok (.iload_n 1, 1) := by decide +kernel
theorem dX3_countOf_1 : decode cX3_countOf 1 = .ok (.iconst 0, 1) := by decide +kernel
theorem dX3_countOf_2 : decode cX3_countOf 2 = .ok (.invokestatic 51, 3) := by decide +kernel
theorem dX3_countOf_5 : decode cX3_countOf 5 = .ok (.istore_n 3, 1) := by decide +kernel
theorem dX3_countOf_6 : decode cX3_countOf 6 = .ok (.iload_n 2, 1) := by decide +kernel
theorem dX3_countOf_7 : decode cX3_countOf 7 = .ok (.sipush 3599, 3) := by decide +kernel
theorem dX3_countOf_10 : decode cX3_countOf 10 = .ok (.invokestatic 41, 3) := by decide +kernel
theorem dX3_countOf_13 : decode cX3_countOf 13 = .ok (.istore 4, 2) := by decide +kernel
theorem dX3_countOf_15 : decode cX3_countOf 15 = .ok (.iload_n 3, 1) := by decide +kernel
theorem dX3_countOf_16 : decode cX3_countOf 16 = .ok (.iload 4, 2) := by decide +kernel
theorem dX3_countOf_18 : decode cX3_countOf 18 = .ok (.if_icmp .le 7, 3) := by decide +kernel
theorem dX3_countOf_21 : decode cX3_countOf 21 = .ok (.iconst 0, 1) := by decide +kernel
theorem dX3_countOf_22 : decode cX3_countOf 22 = .ok (.goto 19, 3) := by decide +kernel
theorem dX3_countOf_25 : decode cX3_countOf 25 = .ok (.aload_n 0, 1) := by decide +kernel
theorem dX3_countOf_26 : decode cX3_countOf 26 = .ok (.getfield 9, 3) := by decide +kernel
theorem dX3_countOf_29 : decode cX3_countOf 29 = .ok (.iload 4, 2) := by decide +kernel
theorem dX3_countOf_31 : decode cX3_countOf 31 = .ok (.iconst 1, 1) := by decide +kernel
theorem dX3_countOf_32 : decode cX3_countOf 32 = .ok (.iadd, 1) := by decide +kernel
theorem dX3_countOf_33 : decode cX3_countOf 33 = .ok (.iaload, 1) := by decide +kernel
theorem dX3_countOf_34 : decode cX3_countOf 34 = .ok (.aload_n 0, 1) := by decide +kernel
theorem dX3_countOf_35 : decode cX3_countOf 35 = .ok (.getfield 9, 3) := by decide +kernel
theorem dX3_countOf_38 : decode cX3_countOf 38 = .ok (.iload_n 3, 1) := by decide +kernel
theorem dX3_countOf_39 : decode cX3_countOf 39 = .ok (.iaload, 1) := by decide +kernel
theorem dX3_countOf_40 : decode cX3_countOf 40 = .ok (.isub, 1) := by decide +kernel
theorem dX3_countOf_41 : decode cX3_countOf 41 = .ok (.ireturn, 1) := by decide +kernel
theorem dX4_init_0 : decode cX4_init 0 = .ok (.aload_n 0, 1) := by decide +kernel
theorem dX4_init_1 : decode cX4_init 1 = .ok (.invokespecial 3, 3) := by decide +kernel
theorem dX4_init_4 : decode cX4_init 4 = .ok (.aload_n 0, 1) := by decide +kernel
theorem dX4_init_5 : decode cX4_init 5 = .ok (.bipush 120, 2) := by decide +kernel
theorem dX4_init_7 : decode cX4_init 7 = .ok (.newarray .int, 2) := by decide +kernel
theorem dX4_init_9 : decode cX4_init 9 = .ok (.putfield 9, 3) := by decide +kernel
theorem dX4_init_12 : decode cX4_init 12 = .ok (.aload_n 0, 1) := by decide +kernel
theorem dX4_init_13 : decode cX4_init 13 = .ok (.sipush 288, 3) := by decide +kernel
theorem dX4_init_16 : decode cX4_init 16 = .ok (.newarray .int, 2) := by decide +kernel
theorem dX4_init_18 : decode cX4_init 18 = .ok (.putfield 15, 3) := by decide +kernel
theorem dX4_init_21 : decode cX4_init 21 = .ok (.aload_n 0, 1) := by decide +kernel
theorem dX4_init_22 : decode cX4_init 22 = .ok (.bipush 12, 2) := by decide +kernel
theorem dX4_init_24 : decode cX4_init 24 = .ok (.newarray .int, 2) := by decide +kernel
theorem dX4_init_26 : decode cX4_init 26 = .ok (.putfield 18, 3) := by decide +kernel
theorem dX4_init_29 : decode cX4_init 29 = .ok (.aload_n 0, 1) := by decide +kernel
theorem dX4_init_30 : decode cX4_init 30 = .ok (.bipush 12, 2) := by decide +kernel
theorem dX4_init_32 : decode cX4_init 32 = .ok (.newarray .int, 2) := by decide +kernel
theorem dX4_init_34 : decode cX4_init 34 = .ok (.putfield 21, 3) := by decide +kernel
theorem dX4_init_37 : decode cX4_init 37 = .ok (.return_, 1) := by decide +kernel
theorem dX4_copyFrom_0 : decode cX4_copyFrom 0 = .ok (.aload_n 1, 1) := by decide +kernel
theorem dX4_copyFrom_1 : decode cX4_copyFrom 1 = .ok (.getfield 9, 3) := by decide +kernel
theorem dX4_copyFrom_4 : decode cX4_copyFrom 4 = .ok (.iconst 0, 1) := by decide +kernel
theorem dX4_copyFrom_5 : decode cX4_copyFrom 5 = .ok (.aload_n 0, 1) := by decide +kernel
theorem dX4_copyFrom_6 : decode cX4_copyFrom 6 = .ok (.getfield 9, 3) := by decide +kernel
theorem dX4_copyFrom_9 : decode cX4_copyFrom 9 = .ok (.iconst 0, 1) := by decide +kernel
theorem dX4_copyFrom_10 : decode cX4_copyFrom 10 = .ok (.aload_n 0, 1) := by decide +kernel
theorem dX4_copyFrom_11 : decode cX4_copyFrom 11 = .ok (.getfield 9, 3) := by decide +kernel
theorem dX4_copyFrom_14 : decode cX4_copyFrom 14 = .ok (.arraylength, 1) := by decide +kernel
theorem dX4_copyFrom_15 : decode cX4_copyFrom 15 = .ok (.invokestatic 24, 3) := by decide +kernel
theorem dX4_copyFrom_18 : decode cX4_copyFrom 18 = .ok (.aload_n 1, 1) := by decide +kernel
theorem dX4_copyFrom_19 : decode cX4_copyFrom 19 = .ok (.getfield 15, 3) := by decide +kernel
theorem dX4_copyFrom_22 : decode cX4_copyFrom 22 = .ok (.iconst 0, 1) := by decide +kernel
theorem dX4_copyFrom_23 : decode cX4_copyFrom 23 = .ok (.aload_n 0, 1) := by decide +kernel
theorem dX4_copyFrom_24 : decode cX4_copyFrom 24 = .ok (.getfield 15, 3) := by decide +kernel
theorem dX4_copyFrom_27 : decode cX4_copyFrom 27 = .ok (.iconst 0, 1) := by decide +kernel
theorem dX4_copyFrom_28 : decode cX4_copyFrom 28 = .ok (.aload_n 0, 1) := by decide +kernel
theorem dX4_copyFrom_29 : decode cX4_copyFrom 29 = .ok (.getfield 15, 3) := by decide +kernel
theorem dX4_copyFrom_32 : decode cX4_copyFrom 32 = .ok (.arraylength, 1) := by decide +kernel
theorem dX4_copyFrom_33 : decode cX4_copyFrom 33 = .ok (.invokestatic 24, 3) := by decide +kernel
theorem dX4_copyFrom_36 : decode cX4_copyFrom 36 = .ok (.aload_n 1, 1) := by decide +kernel
theorem dX4_copyFrom_37 : decode cX4_copyFrom 37 = .ok (.getfield 18, 3) := by decide +kernel
theorem dX4_copyFrom_40 : decode cX4_copyFrom 40 = .ok (.iconst 0, 1) := by decide +kernel
theorem dX4_copyFrom_41 : decode cX4_copyFrom 41 = .ok (.aload_n 0, 1) := by decide +kernel
theorem dX4_copyFrom_42 : decode cX4_copyFrom 42 = .ok (.getfield 18, 3) := by decide +kernel
theorem dX4_copyFrom_45 : decode cX4_copyFrom 45 = .ok (.iconst 0, 1) := by decide +kernel
theorem dX4_copyFrom_46 : decode cX4_copyFrom 46 = .ok (.aload_n 0, 1) := by decide +kernel
theorem dX4_copyFrom_47 : decode cX4_copyFrom 47 = .ok (.getfield 18, 3) := by decide +kernel
theorem dX4_copyFrom_50 : decode cX4_copyFrom 50 = .ok (.arraylength, 1) := by decide +kernel
theorem dX4_copyFrom_51 : decode cX4_copyFrom 51 = .ok (.invokestatic 24, 3) := by decide +kernel
theorem dX4_copyFrom_54 : decode cX4_copyFrom 54 = .ok (.aload_n 1, 1) := by decide +kernel
theorem dX4_copyFrom_55 : decode cX4_copyFrom 55 = .ok (.getfield 21, 3) := by decide +kernel
theorem dX4_copyFrom_58 : decode cX4_copyFrom 58 = .ok (.iconst 0, 1) := by decide +kernel
theorem dX4_copyFrom_59 : decode cX4_copyFrom 59 = .ok (.aload_n 0, 1) := by decide +kernel
theorem dX4_copyFrom_60 : decode cX4_copyFrom 60 = .ok (.getfield 21, 3) := by decide +kernel
theorem dX4_copyFrom_63 : decode cX4_copyFrom 63 = .ok (.iconst 0, 1) := by decide +kernel
theorem dX4_copyFrom_64 : decode cX4_copyFrom 64 = .ok (.aload_n 0, 1) := by decide +kernel
theorem dX4_copyFrom_65 : decode cX4_copyFrom 65 = .ok (.getfield 21, 3) := by decide +kernel
theorem dX4_copyFrom_68 : decode cX4_copyFrom 68 = .ok (.arraylength, 1) := by decide +kernel
theorem dX4_copyFrom_69 : decode cX4_copyFrom 69 = .ok (.invokestatic 24, 3) := by decide +kernel
theorem dX4_copyFrom_72 : decode cX4_copyFrom 72 = .ok (.return_, 1) := by decide +kernel
theorem dX4_setDayRow_0 : decode cX4_setDayRow 0 = .ok (.iload_n 1, 1) := by decide +kernel
theorem dX4_setDayRow_1 : decode cX4_setDayRow 1 = .ok (.ifCond .lt 16, 3) := by decide +kernel
theorem dX4_setDayRow_4 : decode cX4_setDayRow 4 = .ok (.iload_n 1, 1) := by decide +kernel
theorem dX4_setDayRow_5 : decode cX4_setDayRow 5 = .ok (.bipush 120, 2) := by decide +kernel
theorem dX4_setDayRow_7 : decode cX4_setDayRow 7 = .ok (.if_icmp .ge 10, 3) := by decide +kernel
theorem dX4_setDayRow_10 : decode cX4_setDayRow 10 = .ok (.aload_n 0, 1) := by decide +kernel
theorem dX4_setDayRow_11 : decode cX4_setDayRow 11 = .ok (.getfield 9, 3) := by decide +kernel
theorem dX4_setDayRow_14 : decode cX4_setDayRow 14 = .ok (.iload_n 1, 1) := by decide +kernel
theorem dX4_setDayRow_15 : decode cX4_setDayRow 15 = .ok (.iload_n 2, 1) := by decide +kernel
theorem dX4_setDayRow_16 : decode cX4_setDayRow 16 = .ok (.iastore, 1) := by decide +kernel
theorem dX4_setDayRow_17 : decode cX4_setDayRow 17 = .ok (.return_, 1) := by decide +kernel
theorem dX4_setMinuteRow_0 : decode cX4_setMinuteRow 0 = .ok (.iload_n 1, 1) := by decide +kernel
theorem dX4_setMinuteRow_1 : decode cX4_setMinuteRow 1 = .ok (.ifCond .lt 31, 3) := by decide +kernel
theorem dX4_setMinuteRow_4 : decode cX4_setMinuteRow 4 = .ok (.iload_n 1, 1) := by decide +kernel
theorem dX4_setMinuteRow_5 : decode cX4_setMinuteRow 5 = .ok (.bipush 12, 2) := by decide +kernel
theorem dX4_setMinuteRow_7 : decode cX4_setMinuteRow 7 = .ok (.if_icmp .ge 25, 3) := by decide +kernel
theorem dX4_setMinuteRow_10 : decode cX4_setMinuteRow 10 = .ok (.iload_n 2, 1) := by decide +kernel
theorem dX4_setMinuteRow_11 : decode cX4_setMinuteRow 11 = .ok (.ifCond .lt 21, 3) := by decide +kernel
theorem dX4_setMinuteRow_14 : decode cX4_setMinuteRow 14 = .ok (.iload_n 2, 1) := by decide +kernel
theorem dX4_setMinuteRow_15 : decode cX4_setMinuteRow 15 = .ok (.bipush 24, 2) := by decide +kernel
theorem dX4_setMinuteRow_17 : decode cX4_setMinuteRow 17 = .ok (.if_icmp .ge 15, 3) := by decide +kernel
theorem dX4_setMinuteRow_20 : decode cX4_setMinuteRow 20 = .ok (.aload_n 0, 1) := by decide +kernel
theorem dX4_setMinuteRow_21 : decode cX4_setMinuteRow 21 = .ok (.getfield 15, 3) := by decide +kernel
theorem dX4_setMinuteRow_24 : decode cX4_setMinuteRow 24 = .ok (.iload_n 1, 1) := by decide +kernel
theorem dX4_setMinuteRow_25 : decode cX4_setMinuteRow 25 = .ok (.bipush 24, 2) := by decide +kernel
theorem dX4_setMinuteRow_27 : decode cX4_setMinuteRow 27 = .ok (.imul, 1) := by decide +kernel
theorem dX4_setMinuteRow_28 : decode cX4_setMinuteRow 28 = .ok (.iload_n 2, 1) := by decide +kernel
theorem dX4_setMinuteRow_29 : decode cX4_setMinuteRow 29 = .ok (.iadd, 1) := by decide +kernel
theorem dX4_setMinuteRow_30 : decode cX4_setMinuteRow 30 = .ok (.iload_n 3, 1) := by decide +kernel
theorem dX4_setMinuteRow_31 : decode cX4_setMinuteRow 31 = .ok (.iastore, 1) := by decide +kernel
theorem dX4_setMinuteRow_32 : decode cX4_setMinuteRow 32 = .ok (.return_, 1) := by decide +kernel
theorem dX4_dayRow_0 : decode cX4_dayRow 0 = .ok (.iload_n 1, 1) := by decide +kernel
theorem dX4_dayRow_1 : decode cX4_dayRow 1 = .ok (.ifCond .lt 9, 3) := by decide +kernel
theorem dX4_dayRow_4 : decode cX4_dayRow 4 = .ok (.iload_n 1, 1) := by decide +kernel
theorem dX4_dayRow_5 : decode cX4_dayRow 5 = .ok (.bipush 120, 2) := by decide +kernel
theorem dX4_dayRow_7 : decode cX4_dayRow 7 = .ok (.if_icmp .lt 7, 3) := by decide +kernel
theorem dX4_dayRow_10 : decode cX4_dayRow 10 = .ok (.iconst 0, 1) := by decide +kernel
theorem dX4_dayRow_11 : decode cX4_dayRow 11 = .ok (.goto 9, 3) := by decide +kernel
theorem dX4_dayRow_14 : decode cX4_dayRow 14 = .ok (.aload_n 0, 1) := by decide +kernel
theorem dX4_dayRow_15 : decode cX4_dayRow 15 = .ok (.getfield 9, 3) := by decide +kernel
theorem dX4_dayRow_18 : decode cX4_dayRow 18 = .ok (.iload_n 1, 1) := by decide +kernel
theorem dX4_dayRow_19 : decode cX4_dayRow 19 = .ok (.iaload, 1) := by decide +kernel
theorem dX4_dayRow_20 : decode cX4_dayRow 20 = .ok (.ireturn, 1) := by decide +kernel
theorem dX4_minuteRow_0 : decode cX4_minuteRow 0 = .ok (.iload_n 1, 1) := by decide +kernel
theorem dX4_minuteRow_1 : decode cX4_minuteRow 1 = .ok (.ifCond .lt 19, 3) := by decide +kernel
theorem dX4_minuteRow_4 : decode cX4_minuteRow 4 = .ok (.iload_n 1, 1) := by decide +kernel
theorem dX4_minuteRow_5 : decode cX4_minuteRow 5 = .ok (.bipush 12, 2) := by decide +kernel
theorem dX4_minuteRow_7 : decode cX4_minuteRow 7 = .ok (.if_icmp .ge 13, 3) := by decide +kernel
theorem dX4_minuteRow_10 : decode cX4_minuteRow 10 = .ok (.iload_n 2, 1) := by decide +kernel
theorem dX4_minuteRow_11 : decode cX4_minuteRow 11 = .ok (.ifCond .lt 9, 3) := by decide +kernel
theorem dX4_minuteRow_14 : decode cX4_minuteRow 14 = .ok (.iload_n 2, 1) := by decide +kernel
theorem dX4_minuteRow_15 : decode cX4_minuteRow 15 = .ok (.bipush 24, 2) := by decide +kernel
theorem dX4_minuteRow_17 : decode cX4_minuteRow 17 = .ok (.if_icmp .lt 5, 3) := by decide +kernel
theorem dX4_minuteRow_20 : decode cX4_minuteRow 20 = .ok (.iconst 0, 1) := by decide +kernel
theorem dX4_minuteRow_21 : decode cX4_minuteRow 21 = .ok (.ireturn, 1) := by decide +kernel
theorem dX4_minuteRow_22 : decode cX4_minuteRow 22 = .ok (.aload_n 0, 1) := by decide +kernel
theorem dX4_minuteRow_23 : decode cX4_minuteRow 23 = .ok (.getfield 15, 3) := by decide +kernel
theorem dX4_minuteRow_26 : decode cX4_minuteRow 26 = .ok (.iload_n 1, 1) := by decide +kernel
theorem dX4_minuteRow_27 : decode cX4_minuteRow 27 = .ok (.bipush 24, 2) := by decide +kernel
theorem dX4_minuteRow_29 : decode cX4_minuteRow 29 = .ok (.imul, 1) := by decide +kernel
theorem dX4_minuteRow_30 : decode cX4_minuteRow 30 = .ok (.iload_n 2, 1) := by decide +kernel
theorem dX4_minuteRow_31 : decode cX4_minuteRow 31 = .ok (.iadd, 1) := by decide +kernel
theorem dX4_minuteRow_32 : decode cX4_minuteRow 32 = .ok (.iaload, 1) := by decide +kernel
theorem dX4_minuteRow_33 : decode cX4_minuteRow 33 = .ok (.ireturn, 1) := by decide +kernel
theorem dX4_settle_0 : decode cX4_settle 0 = .ok (.iconst 0, 1) := by decide +kernel
theorem dX4_settle_1 : decode cX4_settle 1 = .ok (.istore_n 1, 1) := by decide +kernel
theorem dX4_settle_2 : decode cX4_settle 2 = .ok (.iload_n 1, 1) := by decide +kernel
theorem dX4_settle_3 : decode cX4_settle 3 = .ok (.bipush 12, 2) := by decide +kernel
theorem dX4_settle_5 : decode cX4_settle 5 = .ok (.if_icmp .ge 122, 3) := by decide +kernel
theorem dX4_settle_8 : decode cX4_settle 8 = .ok (.iconst 0, 1) := by decide +kernel
theorem dX4_settle_9 : decode cX4_settle 9 = .ok (.istore_n 2, 1) := by decide +kernel
theorem dX4_settle_10 : decode cX4_settle 10 = .ok (.aload_n 0, 1) := by decide +kernel
theorem dX4_settle_11 : decode cX4_settle 11 = .ok (.getfield 18, 3) := by decide +kernel
theorem dX4_settle_14 : decode cX4_settle 14 = .ok (.iload_n 1, 1) := by decide +kernel
theorem dX4_settle_15 : decode cX4_settle 15 = .ok (.iconst 0, 1) := by decide +kernel
theorem dX4_settle_16 : decode cX4_settle 16 = .ok (.iastore, 1) := by decide +kernel
theorem dX4_settle_17 : decode cX4_settle 17 = .ok (.aload_n 0, 1) := by decide +kernel
theorem dX4_settle_18 : decode cX4_settle 18 = .ok (.getfield 21, 3) := by decide +kernel
theorem dX4_settle_21 : decode cX4_settle 21 = .ok (.iload_n 1, 1) := by decide +kernel
theorem dX4_settle_22 : decode cX4_settle 22 = .ok (.iconst 0, 1) := by decide +kernel
theorem dX4_settle_23 : decode cX4_settle 23 = .ok (.iastore, 1) := by decide +kernel
theorem dX4_settle_24 : decode cX4_settle 24 = .ok (.iconst 0, 1) := by decide +kernel
theorem dX4_settle_25 : decode cX4_settle 25 = .ok (.istore_n 3, 1) := by decide +kernel
theorem dX4_settle_26 : decode cX4_settle 26 = .ok (.iload_n 3, 1) := by decide +kernel
theorem dX4_settle_27 : decode cX4_settle 27 = .ok (.bipush 24, 2) := by decide +kernel
theorem dX4_settle_29 : decode cX4_settle 29 = .ok (.if_icmp .ge 62, 3) := by decide +kernel
theorem dX4_settle_32 : decode cX4_settle 32 = .ok (.aload_n 0, 1) := by decide +kernel
theorem dX4_settle_33 : decode cX4_settle 33 = .ok (.iload_n 1, 1) := by decide +kernel
theorem dX4_settle_34 : decode cX4_settle 34 = .ok (.iload_n 3, 1) := by decide +kernel
theorem dX4_settle_35 : decode cX4_settle 35 = .ok (.invokevirtual 30, 3) := by decide +kernel
theorem dX4_settle_38 : decode cX4_settle 38 = .ok (.istore 4, 2) := by decide +kernel
theorem dX4_settle_40 : decode cX4_settle 40 = .ok (.aload_n 0, 1) := by decide +kernel
theorem dX4_settle_41 : decode cX4_settle 41 = .ok (.getfield 18, 3) := by decide +kernel
theorem dX4_settle_44 : decode cX4_settle 44 = .ok (.iload_n 1, 1) := by decide +kernel
theorem dX4_settle_45 : decode cX4_settle 45 = .ok (.dup2, 1) := by decide +kernel
theorem dX4_settle_46 : decode cX4_settle 46 = .ok (.iaload, 1) := by decide +kernel
theorem dX4_settle_47 : decode cX4_settle 47 = .ok (.iload 4, 2) := by decide +kernel
theorem dX4_settle_49 : decode cX4_settle 49 = .ok (.invokestatic 34, 3) := by decide +kernel
theorem dX4_settle_52 : decode cX4_settle 52 = .ok (.iadd, 1) := by decide +kernel
theorem dX4_settle_53 : decode cX4_settle 53 = .ok (.iastore, 1) := by decide +kernel
theorem dX4_settle_54 : decode cX4_settle 54 = .ok (.aload_n 0, 1) := by decide +kernel
theorem dX4_settle_55 : decode cX4_settle 55 = .ok (.getfield 21, 3) := by decide +kernel
theorem dX4_settle_58 : decode cX4_settle 58 = .ok (.iload_n 1, 1) := by decide +kernel
theorem dX4_settle_59 : decode cX4_settle 59 = .ok (.dup2, 1) := by decide +kernel
theorem dX4_settle_60 : decode cX4_settle 60 = .ok (.iaload, 1) := by decide +kernel
theorem dX4_settle_61 : decode cX4_settle 61 = .ok (.iload 4, 2) := by decide +kernel
theorem dX4_settle_63 : decode cX4_settle 63 = .ok (.iload 4, 2) := by decide +kernel
theorem dX4_settle_65 : decode cX4_settle 65 = .ok (.iconst 1, 1) := by decide +kernel
theorem dX4_settle_66 : decode cX4_settle 66 = .ok (.ishl, 1) := by decide +kernel
theorem dX4_settle_67 : decode cX4_settle 67 = .ok (.iload_n 2, 1) := by decide +kernel
theorem dX4_settle_68 : decode cX4_settle 68 = .ok (.ior, 1) := by decide +kernel
theorem dX4_settle_69 : decode cX4_settle 69 = .ok (.iconst (-1), 1) := by decide +kernel
theorem dX4_settle_70 : decode cX4_settle 70 = .ok (.ixor, 1) := by decide +kernel
theorem dX4_settle_71 : decode cX4_settle 71 = .ok (.iand, 1) := by decide +kernel
theorem dX4_settle_72 : decode cX4_settle 72 = .ok (.invokestatic 34, 3) := by decide +kernel
theorem dX4_settle_75 : decode cX4_settle 75 = .ok (.iadd, 1) := by decide +kernel
theorem dX4_settle_76 : decode cX4_settle 76 = .ok (.iastore, 1) := by decide +kernel
theorem dX4_settle_77 : decode cX4_settle 77 = .ok (.iload 4, 2) := by decide +kernel
theorem dX4_settle_79 : decode cX4_settle 79 = .ok (.bipush 29, 2) := by decide +kernel
theorem dX4_settle_81 : decode cX4_settle 81 = .ok (.ishr, 1) := by decide +kernel
theorem dX4_settle_82 : decode cX4_settle 82 = .ok (.iconst 1, 1) := by decide +kernel
theorem dX4_settle_83 : decode cX4_settle 83 = .ok (.iand, 1) := by decide +kernel
theorem dX4_settle_84 : decode cX4_settle 84 = .ok (.istore_n 2, 1) := by decide +kernel
theorem dX4_settle_85 : decode cX4_settle 85 = .ok (.iinc 3 1, 3) := by decide +kernel
theorem dX4_settle_88 : decode cX4_settle 88 = .ok (.goto (-62), 3) := by decide +kernel
theorem dX4_settle_91 : decode cX4_settle 91 = .ok (.iload_n 1, 1) := by decide +kernel
theorem dX4_settle_92 : decode cX4_settle 92 = .ok (.istore_n 3, 1) := by decide +kernel
theorem dX4_settle_93 : decode cX4_settle 93 = .ok (.iload_n 3, 1) := by decide +kernel
theorem dX4_settle_94 : decode cX4_settle 94 = .ok (.bipush 120, 2) := by decide +kernel
theorem dX4_settle_96 : decode cX4_settle 96 = .ok (.if_icmp .ge 25, 3) := by decide +kernel
theorem dX4_settle_99 : decode cX4_settle 99 = .ok (.aload_n 0, 1) := by decide +kernel
theorem dX4_settle_100 : decode cX4_settle 100 = .ok (.getfield 18, 3) := by decide +kernel
theorem dX4_settle_103 : decode cX4_settle 103 = .ok (.iload_n 1, 1) := by decide +kernel
theorem dX4_settle_104 : decode cX4_settle 104 = .ok (.iaload, 1) := by decide +kernel
theorem dX4_settle_105 : decode cX4_settle 105 = .ok (.ifCond .ne 16, 3) := by decide +kernel
theorem dX4_settle_108 : decode cX4_settle 108 = .ok (.aload_n 0, 1) := by decide +kernel
theorem dX4_settle_109 : decode cX4_settle 109 = .ok (.getfield 9, 3) := by decide +kernel
theorem dX4_settle_112 : decode cX4_settle 112 = .ok (.iload_n 3, 1) := by decide +kernel
theorem dX4_settle_113 : decode cX4_settle 113 = .ok (.iconst 0, 1) := by decide +kernel
theorem dX4_settle_114 : decode cX4_settle 114 = .ok (.iastore, 1) := by decide +kernel
theorem dX4_settle_115 : decode cX4_settle 115 = .ok (.iinc 3 12, 3) := by decide +kernel
theorem dX4_settle_118 : decode cX4_settle 118 = .ok (.goto (-25), 3) := by decide +kernel
theorem dX4_settle_121 : decode cX4_settle 121 = .ok (.iinc 1 1, 3) := by decide +kernel
theorem dX4_settle_124 : decode cX4_settle 124 = .ok (.goto (-122), 3) := by decide +kernel
theorem dX4_settle_127 : decode cX4_settle 127 = .ok (.return_, 1) := by decide +kernel
theorem dX4_minutesIn_0 : decode cX4_minutesIn 0 = .ok (.iload_n 1, 1) := by decide +kernel
theorem dX4_minutesIn_1 : decode cX4_minutesIn 1 = .ok (.ifCond .lt 9, 3) := by decide +kernel
theorem dX4_minutesIn_4 : decode cX4_minutesIn 4 = .ok (.iload_n 1, 1) := by decide +kernel
theorem dX4_minutesIn_5 : decode cX4_minutesIn 5 = .ok (.bipush 12, 2) := by decide +kernel
theorem dX4_minutesIn_7 : decode cX4_minutesIn 7 = .ok (.if_icmp .lt 7, 3) := by decide +kernel
theorem dX4_minutesIn_10 : decode cX4_minutesIn 10 = .ok (.iconst 0, 1) := by decide +kernel
theorem dX4_minutesIn_11 : decode cX4_minutesIn 11 = .ok (.goto 9, 3) := by decide +kernel
theorem dX4_minutesIn_14 : decode cX4_minutesIn 14 = .ok (.aload_n 0, 1) := by decide +kernel
theorem dX4_minutesIn_15 : decode cX4_minutesIn 15 = .ok (.getfield 18, 3) := by decide +kernel
theorem dX4_minutesIn_18 : decode cX4_minutesIn 18 = .ok (.iload_n 1, 1) := by decide +kernel
theorem dX4_minutesIn_19 : decode cX4_minutesIn 19 = .ok (.iaload, 1) := by decide +kernel
theorem dX4_minutesIn_20 : decode cX4_minutesIn 20 = .ok (.ireturn, 1) := by decide +kernel
theorem dX4_momentCount_0 : decode cX4_momentCount 0 = .ok (.iconst 0, 1) := by decide +kernel
theorem dX4_momentCount_1 : decode cX4_momentCount 1 = .ok (.istore_n 1, 1) := by decide +kernel
theorem dX4_momentCount_2 : decode cX4_momentCount 2 = .ok (.iconst 0, 1) := by decide +kernel
theorem dX4_momentCount_3 : decode cX4_momentCount 3 = .ok (.istore_n 2, 1) := by decide +kernel
theorem dX4_momentCount_4 : decode cX4_momentCount 4 = .ok (.iload_n 2, 1) := by decide +kernel
theorem dX4_momentCount_5 : decode cX4_momentCount 5 = .ok (.bipush 120, 2) := by decide +kernel
theorem dX4_momentCount_7 : decode cX4_momentCount 7 = .ok (.if_icmp .ge 31, 3) := by decide +kernel
theorem dX4_momentCount_10 : decode cX4_momentCount 10 = .ok (.iload_n 1, 1) := by decide +kernel
theorem dX4_momentCount_11 : decode cX4_momentCount 11 = .ok (.aload_n 0, 1) := by decide +kernel
theorem dX4_momentCount_12 : decode cX4_momentCount 12 = .ok (.getfield 9, 3) := by decide +kernel
theorem dX4_momentCount_15 : decode cX4_momentCount 15 = .ok (.iload_n 2, 1) := by decide +kernel
theorem dX4_momentCount_16 : decode cX4_momentCount 16 = .ok (.iaload, 1) := by decide +kernel
theorem dX4_momentCount_17 : decode cX4_momentCount 17 = .ok (.invokestatic 34, 3) := by decide +kernel
theorem dX4_momentCount_20 : decode cX4_momentCount 20 = .ok (.aload_n 0, 1) := by decide +kernel
theorem dX4_momentCount_21 : decode cX4_momentCount 21 = .ok (.getfield 18, 3) := by decide +kernel
theorem dX4_momentCount_24 : decode cX4_momentCount 24 = .ok (.iload_n 2, 1) := by decide +kernel
theorem dX4_momentCount_25 : decode cX4_momentCount 25 = .ok (.bipush 12, 2) := by decide +kernel
theorem dX4_momentCount_27 : decode cX4_momentCount 27 = .ok (.irem, 1) := by decide +kernel
theorem dX4_momentCount_28 : decode cX4_momentCount 28 = .ok (.iaload, 1) := by decide +kernel
theorem dX4_momentCount_29 : decode cX4_momentCount 29 = .ok (.imul, 1) := by decide +kernel
theorem dX4_momentCount_30 : decode cX4_momentCount 30 = .ok (.iadd, 1) := by decide +kernel
theorem dX4_momentCount_31 : decode cX4_momentCount 31 = .ok (.istore_n 1, 1) := by decide +kernel
theorem dX4_momentCount_32 : decode cX4_momentCount 32 = .ok (.iinc 2 1, 3) := by decide +kernel
theorem dX4_momentCount_35 : decode cX4_momentCount 35 = .ok (.goto (-31), 3) := by decide +kernel
theorem dX4_momentCount_38 : decode cX4_momentCount 38 = .ok (.iload_n 1, 1) := by decide +kernel
theorem dX4_momentCount_39 : decode cX4_momentCount 39 = .ok (.ireturn, 1) := by decide +kernel
theorem dX4_dayCount_0 : decode cX4_dayCount 0 = .ok (.iconst 0, 1) := by decide +kernel
theorem dX4_dayCount_1 : decode cX4_dayCount 1 = .ok (.istore_n 1, 1) := by decide +kernel
theorem dX4_dayCount_2 : decode cX4_dayCount 2 = .ok (.iconst 0, 1) := by decide +kernel
theorem dX4_dayCount_3 : decode cX4_dayCount 3 = .ok (.istore_n 2, 1) := by decide +kernel
theorem dX4_dayCount_4 : decode cX4_dayCount 4 = .ok (.iload_n 2, 1) := by decide +kernel
theorem dX4_dayCount_5 : decode cX4_dayCount 5 = .ok (.bipush 120, 2) := by decide +kernel
theorem dX4_dayCount_7 : decode cX4_dayCount 7 = .ok (.if_icmp .ge 21, 3) := by decide +kernel
theorem dX4_dayCount_10 : decode cX4_dayCount 10 = .ok (.iload_n 1, 1) := by decide +kernel
theorem dX4_dayCount_11 : decode cX4_dayCount 11 = .ok (.aload_n 0, 1) := by decide +kernel
theorem dX4_dayCount_12 : decode cX4_dayCount 12 = .ok (.getfield 9, 3) := by decide +kernel
theorem dX4_dayCount_15 : decode cX4_dayCount 15 = .ok (.iload_n 2, 1) := by decide +kernel
theorem dX4_dayCount_16 : decode cX4_dayCount 16 = .ok (.iaload, 1) := by decide +kernel
theorem dX4_dayCount_17 : decode cX4_dayCount 17 = .ok (.invokestatic 34, 3) := by decide +kernel
theorem dX4_dayCount_20 : decode cX4_dayCount 20 = .ok (.iadd, 1) := by decide +kernel
theorem dX4_dayCount_21 : decode cX4_dayCount 21 = .ok (.istore_n 1, 1) := by decide +kernel
theorem dX4_dayCount_22 : decode cX4_dayCount 22 = .ok (.iinc 2 1, 3) := by decide +kernel
theorem dX4_dayCount_25 : decode cX4_dayCount 25 = .ok (.goto (-21), 3) := by decide +kernel
theorem dX4_dayCount_28 : decode cX4_dayCount 28 = .ok (.iload_n 1, 1) := by decide +kernel
theorem dX4_dayCount_29 : decode cX4_dayCount 29 = .ok (.ireturn, 1) := by decide +kernel
theorem dX4_dayAt_0 : decode cX4_dayAt 0 = .ok (.iload_n 1, 1) := by decide +kernel
theorem dX4_dayAt_1 : decode cX4_dayAt 1 = .ok (.istore_n 2, 1) := by decide +kernel
theorem dX4_dayAt_2 : decode cX4_dayAt 2 = .ok (.iconst 0, 1) := by decide +kernel
theorem dX4_dayAt_3 : decode cX4_dayAt 3 = .ok (.istore_n 3, 1) := by decide +kernel
theorem dX4_dayAt_4 : decode cX4_dayAt 4 = .ok (.iload_n 3, 1) := by decide +kernel
theorem dX4_dayAt_5 : decode cX4_dayAt 5 = .ok (.bipush 120, 2) := by decide +kernel
theorem dX4_dayAt_7 : decode cX4_dayAt 7 = .ok (.if_icmp .ge 47, 3) := by decide +kernel
theorem dX4_dayAt_10 : decode cX4_dayAt 10 = .ok (.aload_n 0, 1) := by decide +kernel
theorem dX4_dayAt_11 : decode cX4_dayAt 11 = .ok (.getfield 9, 3) := by decide +kernel
theorem dX4_dayAt_14 : decode cX4_dayAt 14 = .ok (.iload_n 3, 1) := by decide +kernel
theorem dX4_dayAt_15 : decode cX4_dayAt 15 = .ok (.iaload, 1) := by decide +kernel
theorem dX4_dayAt_16 : decode cX4_dayAt 16 = .ok (.invokestatic 34, 3) := by decide +kernel
theorem dX4_dayAt_19 : decode cX4_dayAt 19 = .ok (.istore 4, 2) := by decide +kernel
theorem dX4_dayAt_21 : decode cX4_dayAt 21 = .ok (.iload_n 2, 1) := by decide +kernel
theorem dX4_dayAt_22 : decode cX4_dayAt 22 = .ok (.iload 4, 2) := by decide +kernel
theorem dX4_dayAt_24 : decode cX4_dayAt 24 = .ok (.if_icmp .ge 19, 3) := by decide +kernel
theorem dX4_dayAt_27 : decode cX4_dayAt 27 = .ok (.iload_n 3, 1) := by decide +kernel
theorem dX4_dayAt_28 : decode cX4_dayAt 28 = .ok (.bipush 30, 2) := by decide +kernel
theorem dX4_dayAt_30 : decode cX4_dayAt 30 = .ok (.imul, 1) := by decide +kernel
theorem dX4_dayAt_31 : decode cX4_dayAt 31 = .ok (.aload_n 0, 1) := by decide +kernel
theorem dX4_dayAt_32 : decode cX4_dayAt 32 = .ok (.getfield 9, 3) := by decide +kernel
theorem dX4_dayAt_35 : decode cX4_dayAt 35 = .ok (.iload_n 3, 1) := by decide +kernel
theorem dX4_dayAt_36 : decode cX4_dayAt 36 = .ok (.iaload, 1) := by decide +kernel
theorem dX4_dayAt_37 : decode cX4_dayAt 37 = .ok (.iload_n 2, 1) := by decide +kernel
theorem dX4_dayAt_38 : decode cX4_dayAt 38 = .ok (.invokestatic 40, 3) := by decide +kernel
theorem dX4_dayAt_41 : decode cX4_dayAt 41 = .ok (.iadd, 1) := by decide +kernel
theorem dX4_dayAt_42 : decode cX4_dayAt 42 = .ok (.ireturn, 1) := by decide +kernel
theorem dX4_dayAt_43 : decode cX4_dayAt 43 = .ok (.iload_n 2, 1) := by decide +kernel
theorem dX4_dayAt_44 : decode cX4_dayAt 44 = .ok (.iload 4, 2) := by decide +kernel
theorem dX4_dayAt_46 : decode cX4_dayAt 46 = .ok (.isub, 1) := by decide +kernel
theorem dX4_dayAt_47 : decode cX4_dayAt 47 = .ok (.istore_n 2, 1) := by decide +kernel
theorem dX4_dayAt_48 : decode cX4_dayAt 48 = .ok (.iinc 3 1, 3) := by decide +kernel
theorem dX4_dayAt_51 : decode cX4_dayAt 51 = .ok (.goto (-47), 3) := by decide +kernel
theorem dX4_dayAt_54 : decode cX4_dayAt 54 = .ok (.iconst (-1), 1) := by decide +kernel
theorem dX4_dayAt_55 : decode cX4_dayAt 55 = .ok (.ireturn, 1) := by decide +kernel
theorem dX4_runCount_0 : decode cX4_runCount 0 = .ok (.iconst 0, 1) := by decide +kernel
theorem dX4_runCount_1 : decode cX4_runCount 1 = .ok (.istore_n 1, 1) := by decide +kernel
theorem dX4_runCount_2 : decode cX4_runCount 2 = .ok (.iconst 0, 1) := by decide +kernel
theorem dX4_runCount_3 : decode cX4_runCount 3 = .ok (.istore_n 2, 1) := by decide +kernel
theorem dX4_runCount_4 : decode cX4_runCount 4 = .ok (.iload_n 2, 1) := by decide +kernel
theorem dX4_runCount_5 : decode cX4_runCount 5 = .ok (.bipush 120, 2) := by decide +kernel
theorem dX4_runCount_7 : decode cX4_runCount 7 = .ok (.if_icmp .ge 31, 3) := by decide +kernel
theorem dX4_runCount_10 : decode cX4_runCount 10 = .ok (.iload_n 1, 1) := by decide +kernel
theorem dX4_runCount_11 : decode cX4_runCount 11 = .ok (.aload_n 0, 1) := by decide +kernel
theorem dX4_runCount_12 : decode cX4_runCount 12 = .ok (.getfield 9, 3) := by decide +kernel
theorem dX4_runCount_15 : decode cX4_runCount 15 = .ok (.iload_n 2, 1) := by decide +kernel
theorem dX4_runCount_16 : decode cX4_runCount 16 = .ok (.iaload, 1) := by decide +kernel
theorem dX4_runCount_17 : decode cX4_runCount 17 = .ok (.invokestatic 34, 3) := by decide +kernel
theorem dX4_runCount_20 : decode cX4_runCount 20 = .ok (.aload_n 0, 1) := by decide +kernel
theorem dX4_runCount_21 : decode cX4_runCount 21 = .ok (.getfield 21, 3) := by decide +kernel
theorem dX4_runCount_24 : decode cX4_runCount 24 = .ok (.iload_n 2, 1) := by decide +kernel
theorem dX4_runCount_25 : decode cX4_runCount 25 = .ok (.bipush 12, 2) := by decide +kernel
theorem dX4_runCount_27 : decode cX4_runCount 27 = .ok (.irem, 1) := by decide +kernel
theorem dX4_runCount_28 : decode cX4_runCount 28 = .ok (.iaload, 1) := by decide +kernel
theorem dX4_runCount_29 : decode cX4_runCount 29 = .ok (.imul, 1) := by decide +kernel
theorem dX4_runCount_30 : decode cX4_runCount 30 = .ok (.iadd, 1) := by decide +kernel
theorem dX4_runCount_31 : decode cX4_runCount 31 = .ok (.istore_n 1, 1) := by decide +kernel
theorem dX4_runCount_32 : decode cX4_runCount 32 = .ok (.iinc 2 1, 3) := by decide +kernel
theorem dX4_runCount_35 : decode cX4_runCount 35 = .ok (.goto (-31), 3) := by decide +kernel
theorem dX4_runCount_38 : decode cX4_runCount 38 = .ok (.iload_n 1, 1) := by decide +kernel
theorem dX4_runCount_39 : decode cX4_runCount 39 = .ok (.ireturn, 1) := by decide +kernel
theorem dX4_runAt_0 : decode cX4_runAt 0 = .ok (.iload_n 1, 1) := by decide +kernel
theorem dX4_runAt_1 : decode cX4_runAt 1 = .ok (.istore_n 3, 1) := by decide +kernel
theorem dX4_runAt_2 : decode cX4_runAt 2 = .ok (.iconst 0, 1) := by decide +kernel
theorem dX4_runAt_3 : decode cX4_runAt 3 = .ok (.istore 4, 2) := by decide +kernel
theorem dX4_runAt_5 : decode cX4_runAt 5 = .ok (.iload 4, 2) := by decide +kernel
theorem dX4_runAt_7 : decode cX4_runAt 7 = .ok (.bipush 120, 2) := by decide +kernel
theorem dX4_runAt_9 : decode cX4_runAt 9 = .ok (.if_icmp .ge 132, 3) := by decide +kernel
theorem dX4_runAt_12 : decode cX4_runAt 12 = .ok (.aload_n 0, 1) := by decide +kernel
theorem dX4_runAt_13 : decode cX4_runAt 13 = .ok (.getfield 21, 3) := by decide +kernel
theorem dX4_runAt_16 : decode cX4_runAt 16 = .ok (.iload 4, 2) := by decide +kernel
theorem dX4_runAt_18 : decode cX4_runAt 18 = .ok (.bipush 12, 2) := by decide +kernel
theorem dX4_runAt_20 : decode cX4_runAt 20 = .ok (.irem, 1) := by decide +kernel
theorem dX4_runAt_21 : decode cX4_runAt 21 = .ok (.iaload, 1) := by decide +kernel
theorem dX4_runAt_22 : decode cX4_runAt 22 = .ok (.istore 5, 2) := by decide +kernel
theorem dX4_runAt_24 : decode cX4_runAt 24 = .ok (.aload_n 0, 1) := by decide +kernel
theorem dX4_runAt_25 : decode cX4_runAt 25 = .ok (.getfield 9, 3) := by decide +kernel
theorem dX4_runAt_28 : decode cX4_runAt 28 = .ok (.iload 4, 2) := by decide +kernel
theorem dX4_runAt_30 : decode cX4_runAt 30 = .ok (.iaload, 1) := by decide +kernel
theorem dX4_runAt_31 : decode cX4_runAt 31 = .ok (.invokestatic 34, 3) := by decide +kernel
theorem dX4_runAt_34 : decode cX4_runAt 34 = .ok (.iload 5, 2) := by decide +kernel
theorem dX4_runAt_36 : decode cX4_runAt 36 = .ok (.imul, 1) := by decide +kernel
theorem dX4_runAt_37 : decode cX4_runAt 37 = .ok (.istore 6, 2) := by decide +kernel
theorem dX4_runAt_39 : decode cX4_runAt 39 = .ok (.iload_n 3, 1) := by decide +kernel
theorem dX4_runAt_40 : decode cX4_runAt 40 = .ok (.iload 6, 2) := by decide +kernel
theorem dX4_runAt_42 : decode cX4_runAt 42 = .ok (.if_icmp .ge 88, 3) := by decide +kernel
theorem dX4_runAt_45 : decode cX4_runAt 45 = .ok (.iload 5, 2) := by decide +kernel
theorem dX4_runAt_47 : decode cX4_runAt 47 = .ok (.ifCond .le 83, 3) := by decide +kernel
theorem dX4_runAt_50 : decode cX4_runAt 50 = .ok (.aload_n 0, 1) := by decide +kernel
theorem dX4_runAt_51 : decode cX4_runAt 51 = .ok (.iload 4, 2) := by decide +kernel
theorem dX4_runAt_53 : decode cX4_runAt 53 = .ok (.bipush 12, 2) := by decide +kernel
theorem dX4_runAt_55 : decode cX4_runAt 55 = .ok (.irem, 1) := by decide +kernel
theorem dX4_runAt_56 : decode cX4_runAt 56 = .ok (.iload_n 3, 1) := by decide +kernel
theorem dX4_runAt_57 : decode cX4_runAt 57 = .ok (.iload 5, 2) := by decide +kernel
theorem dX4_runAt_59 : decode cX4_runAt 59 = .ok (.irem, 1) := by decide +kernel
theorem dX4_runAt_60 : decode cX4_runAt 60 = .ok (.invokevirtual 43, 3) := by decide +kernel
theorem dX4_runAt_63 : decode cX4_runAt 63 = .ok (.istore 7, 2) := by decide +kernel
theorem dX4_runAt_65 : decode cX4_runAt 65 = .ok (.iload_n 2, 1) := by decide +kernel
theorem dX4_runAt_66 : decode cX4_runAt 66 = .ok (.tableswitch 62 0 2 #[26, 47, 50], 26) := by decide +kernel
theorem dX4_runAt_92 : decode cX4_runAt 92 = .ok (.iload 4, 2) := by decide +kernel
theorem dX4_runAt_94 : decode cX4_runAt 94 = .ok (.bipush 30, 2) := by decide +kernel
theorem dX4_runAt_96 : decode cX4_runAt 96 = .ok (.imul, 1) := by decide +kernel
theorem dX4_runAt_97 : decode cX4_runAt 97 = .ok (.aload_n 0, 1) := by decide +kernel
theorem dX4_runAt_98 : decode cX4_runAt 98 = .ok (.getfield 9, 3) := by decide +kernel
theorem dX4_runAt_101 : decode cX4_runAt 101 = .ok (.iload 4, 2) := by decide +kernel
theorem dX4_runAt_103 : decode cX4_runAt 103 = .ok (.iaload, 1) := by decide +kernel
theorem dX4_runAt_104 : decode cX4_runAt 104 = .ok (.iload_n 3, 1) := by decide +kernel
theorem dX4_runAt_105 : decode cX4_runAt 105 = .ok (.iload 5, 2) := by decide +kernel
theorem dX4_runAt_107 : decode cX4_runAt 107 = .ok (.idiv, 1) := by decide +kernel
theorem dX4_runAt_108 : decode cX4_runAt 108 = .ok (.invokestatic 40, 3) := by decide +kernel
theorem dX4_runAt_111 : decode cX4_runAt 111 = .ok (.iadd, 1) := by decide +kernel
theorem dX4_runAt_112 : decode cX4_runAt 112 = .ok (.ireturn, 1) := by decide +kernel
theorem dX4_runAt_113 : decode cX4_runAt 113 = .ok (.iload 7, 2) := by decide +kernel
theorem dX4_runAt_115 : decode cX4_runAt 115 = .ok (.ireturn, 1) := by decide +kernel
theorem dX4_runAt_116 : decode cX4_runAt 116 = .ok (.aload_n 0, 1) := by decide +kernel
theorem dX4_runAt_117 : decode cX4_runAt 117 = .ok (.iload 4, 2) := by decide +kernel
theorem dX4_runAt_119 : decode cX4_runAt 119 = .ok (.bipush 12, 2) := by decide +kernel
theorem dX4_runAt_121 : decode cX4_runAt 121 = .ok (.irem, 1) := by decide +kernel
theorem dX4_runAt_122 : decode cX4_runAt 122 = .ok (.iload 7, 2) := by decide +kernel
theorem dX4_runAt_124 : decode cX4_runAt 124 = .ok (.invokevirtual 46, 3) := by decide +kernel
theorem dX4_runAt_127 : decode cX4_runAt 127 = .ok (.ireturn, 1) := by decide +kernel
theorem dX4_runAt_128 : decode cX4_runAt 128 = .ok (.iconst (-1), 1) := by decide +kernel
theorem dX4_runAt_129 : decode cX4_runAt 129 = .ok (.ireturn, 1) := by decide +kernel
theorem dX4_runAt_130 : decode cX4_runAt 130 = .ok (.iload_n 3, 1) := by decide +kernel
theorem dX4_runAt_131 : decode cX4_runAt 131 = .ok (.iload 6, 2) := by decide +kernel
theorem dX4_runAt_133 : decode cX4_runAt 133 = .ok (.isub, 1) := by decide +kernel
theorem dX4_runAt_134 : decode cX4_runAt 134 = .ok (.istore_n 3, 1) := by decide +kernel
theorem dX4_runAt_135 : decode cX4_runAt 135 = .ok (.iinc 4 1, 3) := by decide +kernel
theorem dX4_runAt_138 : decode cX4_runAt 138 = .ok (.goto (-133), 3) := by decide +kernel
theorem dX4_runAt_141 : decode cX4_runAt 141 = .ok (.iconst (-1), 1) := by decide +kernel
theorem dX4_runAt_142 : decode cX4_runAt 142 = .ok (.ireturn, 1) := by decide +kernel
theorem dX4_pairsIn_0 : decode cX4_pairsIn 0 = .ok (.iconst 0, 1) := by decide +kernel
theorem dX4_pairsIn_1 : decode cX4_pairsIn 1 = .ok (.istore 5, 2) := by decide +kernel
theorem dX4_pairsIn_3 : decode cX4_pairsIn 3 = .ok (.iload_n 3, 1) := by decide +kernel
theorem dX4_pairsIn_4 : decode cX4_pairsIn 4 = .ok (.iconst 0, 1) := by decide +kernel
theorem dX4_pairsIn_5 : decode cX4_pairsIn 5 = .ok (.invokestatic 49, 3) := by decide +kernel
theorem dX4_pairsIn_8 : decode cX4_pairsIn 8 = .ok (.istore 6, 2) := by decide +kernel
theorem dX4_pairsIn_10 : decode cX4_pairsIn 10 = .ok (.iload 6, 2) := by decide +kernel
theorem dX4_pairsIn_12 : decode cX4_pairsIn 12 = .ok (.iload 4, 2) := by decide +kernel
theorem dX4_pairsIn_14 : decode cX4_pairsIn 14 = .ok (.sipush 719, 3) := by decide +kernel
theorem dX4_pairsIn_17 : decode cX4_pairsIn 17 = .ok (.invokestatic 54, 3) := by decide +kernel
theorem dX4_pairsIn_20 : decode cX4_pairsIn 20 = .ok (.if_icmp .gt 21, 3) := by decide +kernel
theorem dX4_pairsIn_23 : decode cX4_pairsIn 23 = .ok (.iload 5, 2) := by decide +kernel
theorem dX4_pairsIn_25 : decode cX4_pairsIn 25 = .ok (.aload_n 2, 1) := by decide +kernel
theorem dX4_pairsIn_26 : decode cX4_pairsIn 26 = .ok (.iload_n 1, 1) := by decide +kernel
theorem dX4_pairsIn_27 : decode cX4_pairsIn 27 = .ok (.iload 6, 2) := by decide +kernel
theorem dX4_pairsIn_29 : decode cX4_pairsIn 29 = .ok (.invokevirtual 57, 3) := by decide +kernel
theorem dX4_pairsIn_32 : decode cX4_pairsIn 32 = .ok (.iadd, 1) := by decide +kernel
theorem dX4_pairsIn_33 : decode cX4_pairsIn 33 = .ok (.istore 5, 2) := by decide +kernel
theorem dX4_pairsIn_35 : decode cX4_pairsIn 35 = .ok (.iinc 6 1, 3) := by decide +kernel
theorem dX4_pairsIn_38 : decode cX4_pairsIn 38 = .ok (.goto (-28), 3) := by decide +kernel
theorem dX4_pairsIn_41 : decode cX4_pairsIn 41 = .ok (.iconst 0, 1) := by decide +kernel
theorem dX4_pairsIn_42 : decode cX4_pairsIn 42 = .ok (.istore 6, 2) := by decide +kernel
theorem dX4_pairsIn_44 : decode cX4_pairsIn 44 = .ok (.iconst 0, 1) := by decide +kernel
theorem dX4_pairsIn_45 : decode cX4_pairsIn 45 = .ok (.istore 7, 2) := by decide +kernel
theorem dX4_pairsIn_47 : decode cX4_pairsIn 47 = .ok (.iload 7, 2) := by decide +kernel
theorem dX4_pairsIn_49 : decode cX4_pairsIn 49 = .ok (.sipush 719, 3) := by decide +kernel
theorem dX4_pairsIn_52 : decode cX4_pairsIn 52 = .ok (.if_icmp .gt 51, 3) := by decide +kernel
theorem dX4_pairsIn_55 : decode cX4_pairsIn 55 = .ok (.iload 6, 2) := by decide +kernel
theorem dX4_pairsIn_57 : decode cX4_pairsIn 57 = .ok (.aload_n 0, 1) := by decide +kernel
theorem dX4_pairsIn_58 : decode cX4_pairsIn 58 = .ok (.iload_n 1, 1) := by decide +kernel
theorem dX4_pairsIn_59 : decode cX4_pairsIn 59 = .ok (.iload 7, 2) := by decide +kernel
theorem dX4_pairsIn_61 : decode cX4_pairsIn 61 = .ok (.invokevirtual 57, 3) := by decide +kernel
theorem dX4_pairsIn_64 : decode cX4_pairsIn 64 = .ok (.iload 5, 2) := by decide +kernel
theorem dX4_pairsIn_66 : decode cX4_pairsIn 66 = .ok (.imul, 1) := by decide +kernel
theorem dX4_pairsIn_67 : decode cX4_pairsIn 67 = .ok (.iadd, 1) := by decide +kernel
theorem dX4_pairsIn_68 : decode cX4_pairsIn 68 = .ok (.istore 6, 2) := by decide +kernel
theorem dX4_pairsIn_70 : decode cX4_pairsIn 70 = .ok (.iload 5, 2) := by decide +kernel
theorem dX4_pairsIn_72 : decode cX4_pairsIn 72 = .ok (.aload_n 2, 1) := by decide +kernel
theorem dX4_pairsIn_73 : decode cX4_pairsIn 73 = .ok (.iload_n 1, 1) := by decide +kernel
theorem dX4_pairsIn_74 : decode cX4_pairsIn 74 = .ok (.iload 7, 2) := by decide +kernel
theorem dX4_pairsIn_76 : decode cX4_pairsIn 76 = .ok (.iconst 1, 1) := by decide +kernel
theorem dX4_pairsIn_77 : decode cX4_pairsIn 77 = .ok (.iadd, 1) := by decide +kernel
theorem dX4_pairsIn_78 : decode cX4_pairsIn 78 = .ok (.iload 4, 2) := by decide +kernel
theorem dX4_pairsIn_80 : decode cX4_pairsIn 80 = .ok (.iadd, 1) := by decide +kernel
theorem dX4_pairsIn_81 : decode cX4_pairsIn 81 = .ok (.invokevirtual 57, 3) := by decide +kernel
theorem dX4_pairsIn_84 : decode cX4_pairsIn 84 = .ok (.aload_n 2, 1) := by decide +kernel
theorem dX4_pairsIn_85 : decode cX4_pairsIn 85 = .ok (.iload_n 1, 1) := by decide +kernel
theorem dX4_pairsIn_86 : decode cX4_pairsIn 86 = .ok (.iload 7, 2) := by decide +kernel
theorem dX4_pairsIn_88 : decode cX4_pairsIn 88 = .ok (.iload_n 3, 1) := by decide +kernel
theorem dX4_pairsIn_89 : decode cX4_pairsIn 89 = .ok (.iadd, 1) := by decide +kernel
theorem dX4_pairsIn_90 : decode cX4_pairsIn 90 = .ok (.invokevirtual 57, 3) := by decide +kernel
theorem dX4_pairsIn_93 : decode cX4_pairsIn 93 = .ok (.isub, 1) := by decide +kernel
theorem dX4_pairsIn_94 : decode cX4_pairsIn 94 = .ok (.iadd, 1) := by decide +kernel
theorem dX4_pairsIn_95 : decode cX4_pairsIn 95 = .ok (.istore 5, 2) := by decide +kernel
theorem dX4_pairsIn_97 : decode cX4_pairsIn 97 = .ok (.iinc 7 1, 3) := by decide +kernel
theorem dX4_pairsIn_100 : decode cX4_pairsIn 100 = .ok (.goto (-53), 3) := by decide +kernel
theorem dX4_pairsIn_103 : decode cX4_pairsIn 103 = .ok (.iload 6, 2) := by decide +kernel
theorem dX4_pairsIn_105 : decode cX4_pairsIn 105 = .ok (.ireturn, 1) := by decide +kernel
theorem dX4_bitAt_0 : decode cX4_bitAt 0 = .ok (.iload_n 2, 1) := by decide +kernel
theorem dX4_bitAt_1 : decode cX4_bitAt 1 = .ok (.ifCond .ge 7, 3) := by decide +kernel
theorem dX4_bitAt_4 : decode cX4_bitAt 4 = .ok (.iconst 0, 1) := by decide +kernel
theorem dX4_bitAt_5 : decode cX4_bitAt 5 = .ok (.goto 19, 3) := by decide +kernel
theorem dX4_bitAt_8 : decode cX4_bitAt 8 = .ok (.aload_n 0, 1) := by decide +kernel
theorem dX4_bitAt_9 : decode cX4_bitAt 9 = .ok (.iload_n 1, 1) := by decide +kernel
theorem dX4_bitAt_10 : decode cX4_bitAt 10 = .ok (.iload_n 2, 1) := by decide +kernel
theorem dX4_bitAt_11 : decode cX4_bitAt 11 = .ok (.bipush 30, 2) := by decide +kernel
theorem dX4_bitAt_13 : decode cX4_bitAt 13 = .ok (.idiv, 1) := by decide +kernel
theorem dX4_bitAt_14 : decode cX4_bitAt 14 = .ok (.invokevirtual 30, 3) := by decide +kernel
theorem dX4_bitAt_17 : decode cX4_bitAt 17 = .ok (.iload_n 2, 1) := by decide +kernel
theorem dX4_bitAt_18 : decode cX4_bitAt 18 = .ok (.bipush 30, 2) := by decide +kernel
theorem dX4_bitAt_20 : decode cX4_bitAt 20 = .ok (.irem, 1) := by decide +kernel
theorem dX4_bitAt_21 : decode cX4_bitAt 21 = .ok (.ishr, 1) := by decide +kernel
theorem dX4_bitAt_22 : decode cX4_bitAt 22 = .ok (.iconst 1, 1) := by decide +kernel
theorem dX4_bitAt_23 : decode cX4_bitAt 23 = .ok (.iand, 1) := by decide +kernel
theorem dX4_bitAt_24 : decode cX4_bitAt 24 = .ok (.ireturn, 1) := by decide +kernel
theorem dX4_runStart_0 : decode cX4_runStart 0 = .ok (.iload_n 2, 1) := by decide +kernel
theorem dX4_runStart_1 : decode cX4_runStart 1 = .ok (.istore_n 3, 1) := by decide +kernel
theorem dX4_runStart_2 : decode cX4_runStart 2 = .ok (.iconst 0, 1) := by decide +kernel
theorem dX4_runStart_3 : decode cX4_runStart 3 = .ok (.istore 4, 2) := by decide +kernel
theorem dX4_runStart_5 : decode cX4_runStart 5 = .ok (.iload 4, 2) := by decide +kernel
theorem dX4_runStart_7 : decode cX4_runStart 7 = .ok (.sipush 719, 3) := by decide +kernel
theorem dX4_runStart_10 : decode cX4_runStart 10 = .ok (.if_icmp .gt 42, 3) := by decide +kernel
theorem dX4_runStart_13 : decode cX4_runStart 13 = .ok (.aload_n 0, 1) := by decide +kernel
theorem dX4_runStart_14 : decode cX4_runStart 14 = .ok (.iload_n 1, 1) := by decide +kernel
theorem dX4_runStart_15 : decode cX4_runStart 15 = .ok (.iload 4, 2) := by decide +kernel
theorem dX4_runStart_17 : decode cX4_runStart 17 = .ok (.invokevirtual 57, 3) := by decide +kernel
theorem dX4_runStart_20 : decode cX4_runStart 20 = .ok (.iconst 1, 1) := by decide +kernel
theorem dX4_runStart_21 : decode cX4_runStart 21 = .ok (.if_icmp .ne 25, 3) := by decide +kernel
theorem dX4_runStart_24 : decode cX4_runStart 24 = .ok (.aload_n 0, 1) := by decide +kernel
theorem dX4_runStart_25 : decode cX4_runStart 25 = .ok (.iload_n 1, 1) := by decide +kernel
theorem dX4_runStart_26 : decode cX4_runStart 26 = .ok (.iload 4, 2) := by decide +kernel
theorem dX4_runStart_28 : decode cX4_runStart 28 = .ok (.iconst 1, 1) := by decide +kernel
theorem dX4_runStart_29 : decode cX4_runStart 29 = .ok (.isub, 1) := by decide +kernel
theorem dX4_runStart_30 : decode cX4_runStart 30 = .ok (.invokevirtual 57, 3) := by decide +kernel
theorem dX4_runStart_33 : decode cX4_runStart 33 = .ok (.ifCond .ne 13, 3) := by decide +kernel
theorem dX4_runStart_36 : decode cX4_runStart 36 = .ok (.iload_n 3, 1) := by decide +kernel
theorem dX4_runStart_37 : decode cX4_runStart 37 = .ok (.ifCond .ne 6, 3) := by decide +kernel
theorem dX4_runStart_40 : decode cX4_runStart 40 = .ok (.iload 4, 2) := by decide +kernel
theorem dX4_runStart_42 : decode cX4_runStart 42 = .ok (.ireturn, 1) := by decide +kernel
theorem dX4_runStart_43 : decode cX4_runStart 43 = .ok (.iinc 3 (-1), 3) := by decide +kernel
theorem dX4_runStart_46 : decode cX4_runStart 46 = .ok (.iinc 4 1, 3) := by decide +kernel
theorem dX4_runStart_49 : decode cX4_runStart 49 = .ok (.goto (-44), 3) := by decide +kernel
theorem dX4_runStart_52 : decode cX4_runStart 52 = .ok (.iconst (-1), 1) := by decide +kernel
theorem dX4_runStart_53 : decode cX4_runStart 53 = .ok (.ireturn, 1) := by decide +kernel
theorem dX4_runEnd_0 : decode cX4_runEnd 0 = .ok (.iload_n 2, 1) := by decide +kernel
theorem dX4_runEnd_1 : decode cX4_runEnd 1 = .ok (.istore_n 3, 1) := by decide +kernel
theorem dX4_runEnd_2 : decode cX4_runEnd 2 = .ok (.iload_n 3, 1) := by decide +kernel
theorem dX4_runEnd_3 : decode cX4_runEnd 3 = .ok (.sipush 719, 3) := by decide +kernel
theorem dX4_runEnd_6 : decode cX4_runEnd 6 = .ok (.if_icmp .ge 21, 3) := by decide +kernel
theorem dX4_runEnd_9 : decode cX4_runEnd 9 = .ok (.aload_n 0, 1) := by decide +kernel
theorem dX4_runEnd_10 : decode cX4_runEnd 10 = .ok (.iload_n 1, 1) := by decide +kernel
theorem dX4_runEnd_11 : decode cX4_runEnd 11 = .ok (.iload_n 3, 1) := by decide +kernel
theorem dX4_runEnd_12 : decode cX4_runEnd 12 = .ok (.iconst 1, 1) := by decide +kernel
theorem dX4_runEnd_13 : decode cX4_runEnd 13 = .ok (.iadd, 1) := by decide +kernel
theorem dX4_runEnd_14 : decode cX4_runEnd 14 = .ok (.invokevirtual 57, 3) := by decide +kernel
theorem dX4_runEnd_17 : decode cX4_runEnd 17 = .ok (.iconst 1, 1) := by decide +kernel
theorem dX4_runEnd_18 : decode cX4_runEnd 18 = .ok (.if_icmp .ne 9, 3) := by decide +kernel
theorem dX4_runEnd_21 : decode cX4_runEnd 21 = .ok (.iinc 3 1, 3) := by decide +kernel
theorem dX4_runEnd_24 : decode cX4_runEnd 24 = .ok (.goto (-22), 3) := by decide +kernel
theorem dX4_runEnd_27 : decode cX4_runEnd 27 = .ok (.iload_n 3, 1) := by decide +kernel
theorem dX4_runEnd_28 : decode cX4_runEnd 28 = .ok (.ireturn, 1) := by decide +kernel
theorem dX4_placeOf_0 : decode cX4_placeOf 0 = .ok (.iload_n 0, 1) := by decide +kernel
theorem dX4_placeOf_1 : decode cX4_placeOf 1 = .ok (.istore_n 2, 1) := by decide +kernel
theorem dX4_placeOf_2 : decode cX4_placeOf 2 = .ok (.iconst 0, 1) := by decide +kernel
theorem dX4_placeOf_3 : decode cX4_placeOf 3 = .ok (.istore_n 3, 1) := by decide +kernel
theorem dX4_placeOf_4 : decode cX4_placeOf 4 = .ok (.iload_n 3, 1) := by decide +kernel
theorem dX4_placeOf_5 : decode cX4_placeOf 5 = .ok (.iload_n 1, 1) := by decide +kernel
theorem dX4_placeOf_6 : decode cX4_placeOf 6 = .ok (.if_icmp .ge 21, 3) := by decide +kernel
theorem dX4_placeOf_9 : decode cX4_placeOf 9 = .ok (.iload_n 3, 1) := by decide +kernel
theorem dX4_placeOf_10 : decode cX4_placeOf 10 = .ok (.bipush 30, 2) := by decide +kernel
theorem dX4_placeOf_12 : decode cX4_placeOf 12 = .ok (.if_icmp .ge 15, 3) := by decide +kernel
theorem dX4_placeOf_15 : decode cX4_placeOf 15 = .ok (.iload_n 2, 1) := by decide +kernel
theorem dX4_placeOf_16 : decode cX4_placeOf 16 = .ok (.iload_n 2, 1) := by decide +kernel
theorem dX4_placeOf_17 : decode cX4_placeOf 17 = .ok (.iconst 1, 1) := by decide +kernel
theorem dX4_placeOf_18 : decode cX4_placeOf 18 = .ok (.isub, 1) := by decide +kernel
theorem dX4_placeOf_19 : decode cX4_placeOf 19 = .ok (.iand, 1) := by decide +kernel
theorem dX4_placeOf_20 : decode cX4_placeOf 20 = .ok (.istore_n 2, 1) := by decide +kernel
theorem dX4_placeOf_21 : decode cX4_placeOf 21 = .ok (.iinc 3 1, 3) := by decide +kernel
theorem dX4_placeOf_24 : decode cX4_placeOf 24 = .ok (.goto (-20), 3) := by decide +kernel
theorem dX4_placeOf_27 : decode cX4_placeOf 27 = .ok (.iload_n 2, 1) := by decide +kernel
theorem dX4_placeOf_28 : decode cX4_placeOf 28 = .ok (.invokestatic 60, 3) := by decide +kernel
theorem dX4_placeOf_31 : decode cX4_placeOf 31 = .ok (.ireturn, 1) := by decide +kernel
theorem dX5_init_0 : decode cX5_init 0 = .ok (.aload_n 0, 1) := by decide +kernel
theorem dX5_init_1 : decode cX5_init 1 = .ok (.invokespecial 3, 3) := by decide +kernel
theorem dX5_init_4 : decode cX5_init 4 = .ok (.aload_n 0, 1) := by decide +kernel
theorem dX5_init_5 : decode cX5_init 5 = .ok (.bipush 60, 2) := by decide +kernel
theorem dX5_init_7 : decode cX5_init 7 = .ok (.newarray .int, 2) := by decide +kernel
theorem dX5_init_9 : decode cX5_init 9 = .ok (.putfield 9, 3) := by decide +kernel
theorem dX5_init_12 : decode cX5_init 12 = .ok (.aload_n 0, 1) := by decide +kernel
theorem dX5_init_13 : decode cX5_init 13 = .ok (.new 15, 3) := by decide +kernel
theorem dX5_init_16 : decode cX5_init 16 = .ok (.dup, 1) := by decide +kernel
theorem dX5_init_17 : decode cX5_init 17 = .ok (.invokespecial 17, 3) := by decide +kernel
theorem dX5_init_20 : decode cX5_init 20 = .ok (.putfield 18, 3) := by decide +kernel
theorem dX5_init_23 : decode cX5_init 23 = .ok (.return_, 1) := by decide +kernel
theorem dX5_clear_0 : decode cX5_clear 0 = .ok (.aload_n 0, 1) := by decide +kernel
theorem dX5_clear_1 : decode cX5_clear 1 = .ok (.iconst 0, 1) := by decide +kernel
theorem dX5_clear_2 : decode cX5_clear 2 = .ok (.putfield 22, 3) := by decide +kernel
theorem dX5_clear_5 : decode cX5_clear 5 = .ok (.return_, 1) := by decide +kernel
theorem dX5_copyFrom_0 : decode cX5_copyFrom 0 = .ok (.aload_n 1, 1) := by decide +kernel
theorem dX5_copyFrom_1 : decode cX5_copyFrom 1 = .ok (.getfield 9, 3) := by decide +kernel
theorem dX5_copyFrom_4 : decode cX5_copyFrom 4 = .ok (.iconst 0, 1) := by decide +kernel
theorem dX5_copyFrom_5 : decode cX5_copyFrom 5 = .ok (.aload_n 0, 1) := by decide +kernel
theorem dX5_copyFrom_6 : decode cX5_copyFrom 6 = .ok (.getfield 9, 3) := by decide +kernel
theorem dX5_copyFrom_9 : decode cX5_copyFrom 9 = .ok (.iconst 0, 1) := by decide +kernel
theorem dX5_copyFrom_10 : decode cX5_copyFrom 10 = .ok (.aload_n 0, 1) := by decide +kernel
theorem dX5_copyFrom_11 : decode cX5_copyFrom 11 = .ok (.getfield 9, 3) := by decide +kernel
theorem dX5_copyFrom_14 : decode cX5_copyFrom 14 = .ok (.arraylength, 1) := by decide +kernel
theorem dX5_copyFrom_15 : decode cX5_copyFrom 15 = .ok (.invokestatic 26, 3) := by decide +kernel
theorem dX5_copyFrom_18 : decode cX5_copyFrom 18 = .ok (.aload_n 0, 1) := by decide +kernel
theorem dX5_copyFrom_19 : decode cX5_copyFrom 19 = .ok (.getfield 18, 3) := by decide +kernel
theorem dX5_copyFrom_22 : decode cX5_copyFrom 22 = .ok (.aload_n 1, 1) := by decide +kernel
theorem dX5_copyFrom_23 : decode cX5_copyFrom 23 = .ok (.getfield 18, 3) := by decide +kernel
theorem dX5_copyFrom_26 : decode cX5_copyFrom 26 = .ok (.invokevirtual 32, 3) := by decide +kernel
theorem dX5_copyFrom_29 : decode cX5_copyFrom 29 = .ok (.aload_n 0, 1) := by decide +kernel
theorem dX5_copyFrom_30 : decode cX5_copyFrom 30 = .ok (.aload_n 1, 1) := by decide +kernel
theorem dX5_copyFrom_31 : decode cX5_copyFrom 31 = .ok (.getfield 22, 3) := by decide +kernel
theorem dX5_copyFrom_34 : decode cX5_copyFrom 34 = .ok (.putfield 22, 3) := by decide +kernel
theorem dX5_copyFrom_37 : decode cX5_copyFrom 37 = .ok (.return_, 1) := by decide +kernel
theorem dX5_size_0 : decode cX5_size 0 = .ok (.aload_n 0, 1) := by decide +kernel
theorem dX5_size_1 : decode cX5_size 1 = .ok (.getfield 22, 3) := by decide +kernel
theorem dX5_size_4 : decode cX5_size 4 = .ok (.ireturn, 1) := by decide +kernel
theorem dX5_moments_0 : decode cX5_moments 0 = .ok (.aload_n 0, 1) := by decide +kernel
theorem dX5_moments_1 : decode cX5_moments 1 = .ok (.getfield 18, 3) := by decide +kernel
theorem dX5_moments_4 : decode cX5_moments 4 = .ok (.areturn, 1) := by decide +kernel
theorem dX5_has_0 : decode cX5_has 0 = .ok (.iload_n 1, 1) := by decide +kernel
theorem dX5_has_1 : decode cX5_has 1 = .ok (.ifCond .lt 21, 3) := by decide +kernel
theorem dX5_has_4 : decode cX5_has 4 = .ok (.iload_n 1, 1) := by decide +kernel
theorem dX5_has_5 : decode cX5_has 5 = .ok (.aload_n 0, 1) := by decide +kernel
theorem dX5_has_6 : decode cX5_has 6 = .ok (.getfield 22, 3) := by decide +kernel
theorem dX5_has_9 : decode cX5_has 9 = .ok (.if_icmp .ge 13, 3) := by decide +kernel
theorem dX5_has_12 : decode cX5_has 12 = .ok (.iload_n 1, 1) := by decide +kernel
theorem dX5_has_13 : decode cX5_has 13 = .ok (.bipush 12, 2) := by decide +kernel
theorem dX5_has_15 : decode cX5_has 15 = .ok (.if_icmp .ge 7, 3) := by decide +kernel
theorem dX5_has_18 : decode cX5_has 18 = .ok (.iconst 1, 1) := by decide +kernel
theorem dX5_has_19 : decode cX5_has 19 = .ok (.goto 4, 3) := by decide +kernel
theorem dX5_has_22 : decode cX5_has 22 = .ok (.iconst 0, 1) := by decide +kernel
theorem dX5_has_23 : decode cX5_has 23 = .ok (.ireturn, 1) := by decide +kernel
theorem dX5_tells_0 : decode cX5_tells 0 = .ok (.aload_n 0, 1) := by decide +kernel
theorem dX5_tells_1 : decode cX5_tells 1 = .ok (.iload_n 1, 1) := by decide +kernel
theorem dX5_tells_2 : decode cX5_tells 2 = .ok (.invokevirtual 36, 3) := by decide +kernel
theorem dX5_tells_5 : decode cX5_tells 5 = .ok (.ifCond .eq 12, 3) := by decide +kernel
theorem dX5_tells_8 : decode cX5_tells 8 = .ok (.iload_n 2, 1) := by decide +kernel
theorem dX5_tells_9 : decode cX5_tells 9 = .ok (.ifCond .lt 8, 3) := by decide +kernel
theorem dX5_tells_12 : decode cX5_tells 12 = .ok (.iload_n 2, 1) := by decide +kernel
theorem dX5_tells_13 : decode cX5_tells 13 = .ok (.iconst 5, 1) := by decide +kernel
theorem dX5_tells_14 : decode cX5_tells 14 = .ok (.if_icmp .lt 5, 3) := by decide +kernel
theorem dX5_tells_17 : decode cX5_tells 17 = .ok (.iconst (-1), 1) := by decide +kernel
theorem dX5_tells_18 : decode cX5_tells 18 = .ok (.ireturn, 1) := by decide +kernel
theorem dX5_tells_19 : decode cX5_tells 19 = .ok (.aload_n 0, 1) := by decide +kernel
theorem dX5_tells_20 : decode cX5_tells 20 = .ok (.getfield 9, 3) := by decide +kernel
theorem dX5_tells_23 : decode cX5_tells 23 = .ok (.iload_n 1, 1) := by decide +kernel
theorem dX5_tells_24 : decode cX5_tells 24 = .ok (.iconst 5, 1) := by decide +kernel
theorem dX5_tells_25 : decode cX5_tells 25 = .ok (.imul, 1) := by decide +kernel
theorem dX5_tells_26 : decode cX5_tells 26 = .ok (.iload_n 2, 1) := by decide +kernel
theorem dX5_tells_27 : decode cX5_tells 27 = .ok (.iadd, 1) := by decide +kernel
theorem dX5_tells_28 : decode cX5_tells 28 = .ok (.iaload, 1) := by decide +kernel
theorem dX5_tells_29 : decode cX5_tells 29 = .ok (.ireturn, 1) := by decide +kernel
theorem dX5_names_0 : decode cX5_names 0 = .ok (.aload_n 0, 1) := by decide +kernel
theorem dX5_names_1 : decode cX5_names 1 = .ok (.iload_n 1, 1) := by decide +kernel
theorem dX5_names_2 : decode cX5_names 2 = .ok (.iconst 0, 1) := by decide +kernel
theorem dX5_names_3 : decode cX5_names 3 = .ok (.invokevirtual 40, 3) := by decide +kernel
theorem dX5_names_6 : decode cX5_names 6 = .ok (.istore_n 3, 1) := by decide +kernel
theorem dX5_names_7 : decode cX5_names 7 = .ok (.iload_n 3, 1) := by decide +kernel
theorem dX5_names_8 : decode cX5_names 8 = .ok (.ifCond .eq 8, 3) := by decide +kernel
theorem dX5_names_11 : decode cX5_names 11 = .ok (.iload_n 3, 1) := by decide +kernel
theorem dX5_names_12 : decode cX5_names 12 = .ok (.iconst 1, 1) := by decide +kernel
theorem dX5_names_13 : decode cX5_names 13 = .ok (.if_icmp .ne 17, 3) := by decide +kernel
theorem dX5_names_16 : decode cX5_names 16 = .ok (.aload_n 0, 1) := by decide +kernel
theorem dX5_names_17 : decode cX5_names 17 = .ok (.iload_n 1, 1) := by decide +kernel
theorem dX5_names_18 : decode cX5_names 18 = .ok (.iconst 1, 1) := by decide +kernel
theorem dX5_names_19 : decode cX5_names 19 = .ok (.invokevirtual 40, 3) := by decide +kernel
theorem dX5_names_22 : decode cX5_names 22 = .ok (.iload_n 2, 1) := by decide +kernel
theorem dX5_names_23 : decode cX5_names 23 = .ok (.if_icmp .ne 7, 3) := by decide +kernel
theorem dX5_names_26 : decode cX5_names 26 = .ok (.iconst 1, 1) := by decide +kernel
theorem dX5_names_27 : decode cX5_names 27 = .ok (.goto 4, 3) := by decide +kernel
theorem dX5_names_30 : decode cX5_names 30 = .ok (.iconst 0, 1) := by decide +kernel
theorem dX5_names_31 : decode cX5_names 31 = .ok (.ireturn, 1) := by decide +kernel
theorem dX5_add_0 : decode cX5_add 0 = .ok (.aload_n 0, 1) := by decide +kernel
theorem dX5_add_1 : decode cX5_add 1 = .ok (.getfield 22, 3) := by decide +kernel
theorem dX5_add_4 : decode cX5_add 4 = .ok (.ifCond .lt 12, 3) := by decide +kernel
theorem dX5_add_7 : decode cX5_add 7 = .ok (.aload_n 0, 1) := by decide +kernel
theorem dX5_add_8 : decode cX5_add 8 = .ok (.getfield 22, 3) := by decide +kernel
theorem dX5_add_11 : decode cX5_add 11 = .ok (.bipush 12, 2) := by decide +kernel
theorem dX5_add_13 : decode cX5_add 13 = .ok (.if_icmp .lt 5, 3) := by decide +kernel
theorem dX5_add_16 : decode cX5_add 16 = .ok (.iconst 0, 1) := by decide +kernel
theorem dX5_add_17 : decode cX5_add 17 = .ok (.ireturn, 1) := by decide +kernel
theorem dX5_add_18 : decode cX5_add 18 = .ok (.aload_n 0, 1) := by decide +kernel
theorem dX5_add_19 : decode cX5_add 19 = .ok (.getfield 22, 3) := by decide +kernel
theorem dX5_add_22 : decode cX5_add 22 = .ok (.iconst 5, 1) := by decide +kernel
theorem dX5_add_23 : decode cX5_add 23 = .ok (.imul, 1) := by decide +kernel
theorem dX5_add_24 : decode cX5_add 24 = .ok (.istore 6, 2) := by decide +kernel
theorem dX5_add_26 : decode cX5_add 26 = .ok (.aload_n 0, 1) := by decide +kernel
theorem dX5_add_27 : decode cX5_add 27 = .ok (.getfield 9, 3) := by decide +kernel
theorem dX5_add_30 : decode cX5_add 30 = .ok (.iload 6, 2) := by decide +kernel
theorem dX5_add_32 : decode cX5_add 32 = .ok (.iload_n 1, 1) := by decide +kernel
theorem dX5_add_33 : decode cX5_add 33 = .ok (.iastore, 1) := by decide +kernel
theorem dX5_add_34 : decode cX5_add 34 = .ok (.aload_n 0, 1) := by decide +kernel
theorem dX5_add_35 : decode cX5_add 35 = .ok (.getfield 9, 3) := by decide +kernel
theorem dX5_add_38 : decode cX5_add 38 = .ok (.iload 6, 2) := by decide +kernel
theorem dX5_add_40 : decode cX5_add 40 = .ok (.iconst 1, 1) := by decide +kernel
theorem dX5_add_41 : decode cX5_add 41 = .ok (.iadd, 1) := by decide +kernel
theorem dX5_add_42 : decode cX5_add 42 = .ok (.iload_n 2, 1) := by decide +kernel
theorem dX5_add_43 : decode cX5_add 43 = .ok (.iastore, 1) := by decide +kernel
theorem dX5_add_44 : decode cX5_add 44 = .ok (.aload_n 0, 1) := by decide +kernel
theorem dX5_add_45 : decode cX5_add 45 = .ok (.getfield 9, 3) := by decide +kernel
theorem dX5_add_48 : decode cX5_add 48 = .ok (.iload 6, 2) := by decide +kernel
theorem dX5_add_50 : decode cX5_add 50 = .ok (.iconst 2, 1) := by decide +kernel
theorem dX5_add_51 : decode cX5_add 51 = .ok (.iadd, 1) := by decide +kernel
theorem dX5_add_52 : decode cX5_add 52 = .ok (.iload_n 3, 1) := by decide +kernel
theorem dX5_add_53 : decode cX5_add 53 = .ok (.iastore, 1) := by decide +kernel
theorem dX5_add_54 : decode cX5_add 54 = .ok (.aload_n 0, 1) := by decide +kernel
theorem dX5_add_55 : decode cX5_add 55 = .ok (.getfield 9, 3) := by decide +kernel
theorem dX5_add_58 : decode cX5_add 58 = .ok (.iload 6, 2) := by decide +kernel
theorem dX5_add_60 : decode cX5_add 60 = .ok (.iconst 3, 1) := by decide +kernel
theorem dX5_add_61 : decode cX5_add 61 = .ok (.iadd, 1) := by decide +kernel
theorem dX5_add_62 : decode cX5_add 62 = .ok (.iload 4, 2) := by decide +kernel
theorem dX5_add_64 : decode cX5_add 64 = .ok (.iastore, 1) := by decide +kernel
theorem dX5_add_65 : decode cX5_add 65 = .ok (.aload_n 0, 1) := by decide +kernel
theorem dX5_add_66 : decode cX5_add 66 = .ok (.getfield 9, 3) := by decide +kernel
theorem dX5_add_69 : decode cX5_add 69 = .ok (.iload 6, 2) := by decide +kernel
theorem dX5_add_71 : decode cX5_add 71 = .ok (.iconst 4, 1) := by decide +kernel
theorem dX5_add_72 : decode cX5_add 72 = .ok (.iadd, 1) := by decide +kernel
theorem dX5_add_73 : decode cX5_add 73 = .ok (.iload 5, 2) := by decide +kernel
theorem dX5_add_75 : decode cX5_add 75 = .ok (.iastore, 1) := by decide +kernel
theorem dX5_add_76 : decode cX5_add 76 = .ok (.aload_n 0, 1) := by decide +kernel
theorem dX5_add_77 : decode cX5_add 77 = .ok (.dup, 1) := by decide +kernel
theorem dX5_add_78 : decode cX5_add 78 = .ok (.getfield 22, 3) := by decide +kernel
theorem dX5_add_81 : decode cX5_add 81 = .ok (.iconst 1, 1) := by decide +kernel
theorem dX5_add_82 : decode cX5_add 82 = .ok (.iadd, 1) := by decide +kernel
theorem dX5_add_83 : decode cX5_add 83 = .ok (.putfield 22, 3) := by decide +kernel
theorem dX5_add_86 : decode cX5_add 86 = .ok (.iconst 1, 1) := by decide +kernel
theorem dX5_add_87 : decode cX5_add 87 = .ok (.ireturn, 1) := by decide +kernel
theorem dX6_init_0 : decode cX6_init 0 = .ok (.aload_n 0, 1) := by decide +kernel
theorem dX6_init_1 : decode cX6_init 1 = .ok (.invokespecial 3, 3) := by decide +kernel
theorem dX6_init_4 : decode cX6_init 4 = .ok (.aload_n 0, 1) := by decide +kernel
theorem dX6_init_5 : decode cX6_init 5 = .ok (.sipush 4096, 3) := by decide +kernel
theorem dX6_init_8 : decode cX6_init 8 = .ok (.newarray .int, 2) := by decide +kernel
theorem dX6_init_10 : decode cX6_init 10 = .ok (.putfield 11, 3) := by decide +kernel
theorem dX6_init_13 : decode cX6_init 13 = .ok (.aload_n 0, 1) := by decide +kernel
theorem dX6_init_14 : decode cX6_init 14 = .ok (.sipush 4096, 3) := by decide +kernel
theorem dX6_init_17 : decode cX6_init 17 = .ok (.newarray .int, 2) := by decide +kernel
theorem dX6_init_19 : decode cX6_init 19 = .ok (.putfield 15, 3) := by decide +kernel
theorem dX6_init_22 : decode cX6_init 22 = .ok (.aload_n 0, 1) := by decide +kernel
theorem dX6_init_23 : decode cX6_init 23 = .ok (.sipush 1020, 3) := by decide +kernel
theorem dX6_init_26 : decode cX6_init 26 = .ok (.newarray .int, 2) := by decide +kernel
theorem dX6_init_28 : decode cX6_init 28 = .ok (.putfield 18, 3) := by decide +kernel
theorem dX6_init_31 : decode cX6_init 31 = .ok (.aload_n 0, 1) := by decide +kernel
theorem dX6_init_32 : decode cX6_init 32 = .ok (.bipush 12, 2) := by decide +kernel
theorem dX6_init_34 : decode cX6_init 34 = .ok (.newarray .int, 2) := by decide +kernel
theorem dX6_init_36 : decode cX6_init 36 = .ok (.putfield 21, 3) := by decide +kernel
theorem dX6_init_39 : decode cX6_init 39 = .ok (.aload_n 0, 1) := by decide +kernel
theorem dX6_init_40 : decode cX6_init 40 = .ok (.aload_n 1, 1) := by decide +kernel
theorem dX6_init_41 : decode cX6_init 41 = .ok (.putfield 24, 3) := by decide +kernel
theorem dX6_init_44 : decode cX6_init 44 = .ok (.return_, 1) := by decide +kernel
theorem dX6_weigh_0 : decode cX6_weigh 0 = .ok (.aload_n 0, 1) := by decide +kernel
theorem dX6_weigh_1 : decode cX6_weigh 1 = .ok (.aload_n 1, 1) := by decide +kernel
theorem dX6_weigh_2 : decode cX6_weigh 2 = .ok (.invokevirtual 28, 3) := by decide +kernel
theorem dX6_weigh_5 : decode cX6_weigh 5 = .ok (.bipush 12, 2) := by decide +kernel
theorem dX6_weigh_7 : decode cX6_weigh 7 = .ok (.invokestatic 34, 3) := by decide +kernel
theorem dX6_weigh_10 : decode cX6_weigh 10 = .ok (.putfield 40, 3) := by decide +kernel
theorem dX6_weigh_13 : decode cX6_weigh 13 = .ok (.aload_n 0, 1) := by decide +kernel
theorem dX6_weigh_14 : decode cX6_weigh 14 = .ok (.getfield 11, 3) := by decide +kernel
theorem dX6_weigh_17 : decode cX6_weigh 17 = .ok (.iconst 0, 1) := by decide +kernel
theorem dX6_weigh_18 : decode cX6_weigh 18 = .ok (.invokestatic 43, 3) := by decide +kernel
theorem dX6_weigh_21 : decode cX6_weigh 21 = .ok (.iconst 0, 1) := by decide +kernel
theorem dX6_weigh_22 : decode cX6_weigh 22 = .ok (.istore_n 2, 1) := by decide +kernel
theorem dX6_weigh_23 : decode cX6_weigh 23 = .ok (.iload_n 2, 1) := by decide +kernel
theorem dX6_weigh_24 : decode cX6_weigh 24 = .ok (.bipush 12, 2) := by decide +kernel
theorem dX6_weigh_26 : decode cX6_weigh 26 = .ok (.if_icmp .ge 36, 3) := by decide +kernel
theorem dX6_weigh_29 : decode cX6_weigh 29 = .ok (.aload_n 0, 1) := by decide +kernel
theorem dX6_weigh_30 : decode cX6_weigh 30 = .ok (.iconst 0, 1) := by decide +kernel
theorem dX6_weigh_31 : decode cX6_weigh 31 = .ok (.putfield 49, 3) := by decide +kernel
theorem dX6_weigh_34 : decode cX6_weigh 34 = .ok (.aload_n 0, 1) := by decide +kernel
theorem dX6_weigh_35 : decode cX6_weigh 35 = .ok (.aload_n 1, 1) := by decide +kernel
theorem dX6_weigh_36 : decode cX6_weigh 36 = .ok (.iload_n 2, 1) := by decide +kernel
theorem dX6_weigh_37 : decode cX6_weigh 37 = .ok (.invokevirtual 52, 3) := by decide +kernel
theorem dX6_weigh_40 : decode cX6_weigh 40 = .ok (.aload_n 0, 1) := by decide +kernel
theorem dX6_weigh_41 : decode cX6_weigh 41 = .ok (.getfield 49, 3) := by decide +kernel
theorem dX6_weigh_44 : decode cX6_weigh 44 = .ok (.istore_n 3, 1) := by decide +kernel
theorem dX6_weigh_45 : decode cX6_weigh 45 = .ok (.aload_n 0, 1) := by decide +kernel
theorem dX6_weigh_46 : decode cX6_weigh 46 = .ok (.aload_n 1, 1) := by decide +kernel
theorem dX6_weigh_47 : decode cX6_weigh 47 = .ok (.iload_n 2, 1) := by decide +kernel
theorem dX6_weigh_48 : decode cX6_weigh 48 = .ok (.invokevirtual 56, 3) := by decide +kernel
theorem dX6_weigh_51 : decode cX6_weigh 51 = .ok (.aload_n 0, 1) := by decide +kernel
theorem dX6_weigh_52 : decode cX6_weigh 52 = .ok (.iload_n 3, 1) := by decide +kernel
theorem dX6_weigh_53 : decode cX6_weigh 53 = .ok (.invokevirtual 59, 3) := by decide +kernel
theorem dX6_weigh_56 : decode cX6_weigh 56 = .ok (.iinc 2 1, 3) := by decide +kernel
theorem dX6_weigh_59 : decode cX6_weigh 59 = .ok (.goto (-36), 3) := by decide +kernel
theorem dX6_weigh_62 : decode cX6_weigh 62 = .ok (.aload_n 0, 1) := by decide +kernel
theorem dX6_weigh_63 : decode cX6_weigh 63 = .ok (.invokevirtual 63, 3) := by decide +kernel
theorem dX6_weigh_66 : decode cX6_weigh 66 = .ok (.return_, 1) := by decide +kernel
theorem dX6_smallestQuarrel_0 : decode cX6_smallestQuarrel 0 = .ok (.iconst 0, 1) := by decide +kernel
theorem dX6_smallestQuarrel_1 : decode cX6_smallestQuarrel 1 = .ok (.istore_n 1, 1) := by decide +kernel
theorem dX6_smallestQuarrel_2 : decode cX6_smallestQuarrel 2 = .ok (.iconst 1, 1) := by decide +kernel
theorem dX6_smallestQuarrel_3 : decode cX6_smallestQuarrel 3 = .ok (.istore_n 2, 1) := by decide +kernel
theorem dX6_smallestQuarrel_4 : decode cX6_smallestQuarrel 4 = .ok (.iload_n 2, 1) := by decide +kernel
theorem dX6_smallestQuarrel_5 : decode cX6_smallestQuarrel 5 = .ok (.iconst 1, 1) := by decide +kernel
theorem dX6_smallestQuarrel_6 : decode cX6_smallestQuarrel 6 = .ok (.aload_n 0, 1) := by decide +kernel
theorem dX6_smallestQuarrel_7 : decode cX6_smallestQuarrel 7 = .ok (.getfield 40, 3) := by decide +kernel
theorem dX6_smallestQuarrel_10 : decode cX6_smallestQuarrel 10 = .ok (.ishl, 1) := by decide +kernel
theorem dX6_smallestQuarrel_11 : decode cX6_smallestQuarrel 11 = .ok (.if_icmp .ge 35, 3) := by decide +kernel
theorem dX6_smallestQuarrel_14 : decode cX6_smallestQuarrel 14 = .ok (.aload_n 0, 1) := by decide +kernel
theorem dX6_smallestQuarrel_15 : decode cX6_smallestQuarrel 15 = .ok (.getfield 11, 3) := by decide +kernel
theorem dX6_smallestQuarrel_18 : decode cX6_smallestQuarrel 18 = .ok (.iload_n 2, 1) := by decide +kernel
theorem dX6_smallestQuarrel_19 : decode cX6_smallestQuarrel 19 = .ok (.iaload, 1) := by decide +kernel
theorem dX6_smallestQuarrel_20 : decode cX6_smallestQuarrel 20 = .ok (.ifCond .ne 20, 3) := by decide +kernel
theorem dX6_smallestQuarrel_23 : decode cX6_smallestQuarrel 23 = .ok (.iload_n 1, 1) := by decide +kernel
theorem dX6_smallestQuarrel_24 : decode cX6_smallestQuarrel 24 = .ok (.ifCond .eq 14, 3) := by decide +kernel
theorem dX6_smallestQuarrel_27 : decode cX6_smallestQuarrel 27 = .ok (.iload_n 2, 1) := by decide +kernel
theorem dX6_smallestQuarrel_28 : decode cX6_smallestQuarrel 28 = .ok (.invokestatic 66, 3) := by decide +kernel
theorem dX6_smallestQuarrel_31 : decode cX6_smallestQuarrel 31 = .ok (.iload_n 1, 1) := by decide +kernel
theorem dX6_smallestQuarrel_32 : decode cX6_smallestQuarrel 32 = .ok (.invokestatic 66, 3) := by decide +kernel
theorem dX6_smallestQuarrel_35 : decode cX6_smallestQuarrel 35 = .ok (.if_icmp .ge 5, 3) := by decide +kernel
theorem dX6_smallestQuarrel_38 : decode cX6_smallestQuarrel 38 = .ok (.iload_n 2, 1) := by decide +kernel
theorem dX6_smallestQuarrel_39 : decode cX6_smallestQuarrel 39 = .ok (.istore_n 1, 1) := by decide +kernel
theorem dX6_smallestQuarrel_40 : decode cX6_smallestQuarrel 40 = .ok (.iinc 2 1, 3) := by decide +kernel
theorem dX6_smallestQuarrel_43 : decode cX6_smallestQuarrel 43 = .ok (.goto (-39), 3) := by decide +kernel
theorem dX6_smallestQuarrel_46 : decode cX6_smallestQuarrel 46 = .ok (.iload_n 1, 1) := by decide +kernel
theorem dX6_smallestQuarrel_47 : decode cX6_smallestQuarrel 47 = .ok (.ireturn, 1) := by decide +kernel
theorem dX6_smallestDoubt_0 : decode cX6_smallestDoubt 0 = .ok (.iconst 1, 1) := by decide +kernel
theorem dX6_smallestDoubt_1 : decode cX6_smallestDoubt 1 = .ok (.aload_n 0, 1) := by decide +kernel
theorem dX6_smallestDoubt_2 : decode cX6_smallestDoubt 2 = .ok (.getfield 40, 3) := by decide +kernel
theorem dX6_smallestDoubt_5 : decode cX6_smallestDoubt 5 = .ok (.ishl, 1) := by decide +kernel
theorem dX6_smallestDoubt_6 : decode cX6_smallestDoubt 6 = .ok (.iconst 1, 1) := by decide +kernel
theorem dX6_smallestDoubt_7 : decode cX6_smallestDoubt 7 = .ok (.isub, 1) := by decide +kernel
theorem dX6_smallestDoubt_8 : decode cX6_smallestDoubt 8 = .ok (.istore_n 1, 1) := by decide +kernel
theorem dX6_smallestDoubt_9 : decode cX6_smallestDoubt 9 = .ok (.iload_n 1, 1) := by decide +kernel
theorem dX6_smallestDoubt_10 : decode cX6_smallestDoubt 10 = .ok (.istore_n 2, 1) := by decide +kernel
theorem dX6_smallestDoubt_11 : decode cX6_smallestDoubt 11 = .ok (.iconst 0, 1) := by decide +kernel
theorem dX6_smallestDoubt_12 : decode cX6_smallestDoubt 12 = .ok (.istore_n 3, 1) := by decide +kernel
theorem dX6_smallestDoubt_13 : decode cX6_smallestDoubt 13 = .ok (.iload_n 3, 1) := by decide +kernel
theorem dX6_smallestDoubt_14 : decode cX6_smallestDoubt 14 = .ok (.iload_n 1, 1) := by decide +kernel
theorem dX6_smallestDoubt_15 : decode cX6_smallestDoubt 15 = .ok (.if_icmp .gt 36, 3) := by decide +kernel
theorem dX6_smallestDoubt_18 : decode cX6_smallestDoubt 18 = .ok (.aload_n 0, 1) := by decide +kernel
theorem dX6_smallestDoubt_19 : decode cX6_smallestDoubt 19 = .ok (.getfield 11, 3) := by decide +kernel
theorem dX6_smallestDoubt_22 : decode cX6_smallestDoubt 22 = .ok (.iload_n 1, 1) := by decide +kernel
theorem dX6_smallestDoubt_23 : decode cX6_smallestDoubt 23 = .ok (.iload_n 3, 1) := by decide +kernel
theorem dX6_smallestDoubt_24 : decode cX6_smallestDoubt 24 = .ok (.iconst (-1), 1) := by decide +kernel
theorem dX6_smallestDoubt_25 : decode cX6_smallestDoubt 25 = .ok (.ixor, 1) := by decide +kernel
theorem dX6_smallestDoubt_26 : decode cX6_smallestDoubt 26 = .ok (.iand, 1) := by decide +kernel
theorem dX6_smallestDoubt_27 : decode cX6_smallestDoubt 27 = .ok (.iaload, 1) := by decide +kernel
theorem dX6_smallestDoubt_28 : decode cX6_smallestDoubt 28 = .ok (.iconst 1, 1) := by decide +kernel
theorem dX6_smallestDoubt_29 : decode cX6_smallestDoubt 29 = .ok (.if_icmp .ne 16, 3) := by decide +kernel
theorem dX6_smallestDoubt_32 : decode cX6_smallestDoubt 32 = .ok (.iload_n 3, 1) := by decide +kernel
theorem dX6_smallestDoubt_33 : decode cX6_smallestDoubt 33 = .ok (.invokestatic 66, 3) := by decide +kernel
theorem dX6_smallestDoubt_36 : decode cX6_smallestDoubt 36 = .ok (.iload_n 2, 1) := by decide +kernel
theorem dX6_smallestDoubt_37 : decode cX6_smallestDoubt 37 = .ok (.invokestatic 66, 3) := by decide +kernel
theorem dX6_smallestDoubt_40 : decode cX6_smallestDoubt 40 = .ok (.if_icmp .ge 5, 3) := by decide +kernel
theorem dX6_smallestDoubt_43 : decode cX6_smallestDoubt 43 = .ok (.iload_n 3, 1) := by decide +kernel
theorem dX6_smallestDoubt_44 : decode cX6_smallestDoubt 44 = .ok (.istore_n 2, 1) := by decide +kernel
theorem dX6_smallestDoubt_45 : decode cX6_smallestDoubt 45 = .ok (.iinc 3 1, 3) := by decide +kernel
theorem dX6_smallestDoubt_48 : decode cX6_smallestDoubt 48 = .ok (.goto (-35), 3) := by decide +kernel
theorem dX6_smallestDoubt_51 : decode cX6_smallestDoubt 51 = .ok (.iload_n 2, 1) := by decide +kernel
theorem dX6_smallestDoubt_52 : decode cX6_smallestDoubt 52 = .ok (.ireturn, 1) := by decide +kernel
theorem dX6_rivals_0 : decode cX6_rivals 0 = .ok (.iconst 1, 1) := by decide +kernel
theorem dX6_rivals_1 : decode cX6_rivals 1 = .ok (.aload_n 0, 1) := by decide +kernel
theorem dX6_rivals_2 : decode cX6_rivals 2 = .ok (.getfield 40, 3) := by decide +kernel
theorem dX6_rivals_5 : decode cX6_rivals 5 = .ok (.ishl, 1) := by decide +kernel
theorem dX6_rivals_6 : decode cX6_rivals 6 = .ok (.iconst 1, 1) := by decide +kernel
theorem dX6_rivals_7 : decode cX6_rivals 7 = .ok (.isub, 1) := by decide +kernel
theorem dX6_rivals_8 : decode cX6_rivals 8 = .ok (.istore_n 1, 1) := by decide +kernel
theorem dX6_rivals_9 : decode cX6_rivals 9 = .ok (.aload_n 0, 1) := by decide +kernel
theorem dX6_rivals_10 : decode cX6_rivals 10 = .ok (.invokevirtual 72, 3) := by decide +kernel
theorem dX6_rivals_13 : decode cX6_rivals 13 = .ok (.invokestatic 66, 3) := by decide +kernel
theorem dX6_rivals_16 : decode cX6_rivals 16 = .ok (.istore_n 2, 1) := by decide +kernel
theorem dX6_rivals_17 : decode cX6_rivals 17 = .ok (.iconst 0, 1) := by decide +kernel
theorem dX6_rivals_18 : decode cX6_rivals 18 = .ok (.istore_n 3, 1) := by decide +kernel
theorem dX6_rivals_19 : decode cX6_rivals 19 = .ok (.iconst 0, 1) := by decide +kernel
theorem dX6_rivals_20 : decode cX6_rivals 20 = .ok (.istore 4, 2) := by decide +kernel
theorem dX6_rivals_22 : decode cX6_rivals 22 = .ok (.iload 4, 2) := by decide +kernel
theorem dX6_rivals_24 : decode cX6_rivals 24 = .ok (.iload_n 1, 1) := by decide +kernel
theorem dX6_rivals_25 : decode cX6_rivals 25 = .ok (.if_icmp .gt 36, 3) := by decide +kernel
theorem dX6_rivals_28 : decode cX6_rivals 28 = .ok (.aload_n 0, 1) := by decide +kernel
theorem dX6_rivals_29 : decode cX6_rivals 29 = .ok (.getfield 11, 3) := by decide +kernel
