theorem dX0_init_0 : decode cX0_init 0 = .ok (.aload_n 0, 1) := by decide +kernel
theorem dX0_init_1 : decode cX0_init 1 = .ok (.invokespecial 3, 3) := by decide +kernel
theorem dX0_init_4 : decode cX0_init 4 = .ok (.aload_n 0, 1) := by decide +kernel
theorem dX0_init_5 : decode cX0_init 5 = .ok (.bipush 32, 2) := by decide +kernel
theorem dX0_init_7 : decode cX0_init 7 = .ok (.newarray .int, 2) := by decide +kernel
theorem dX0_init_9 : decode cX0_init 9 = .ok (.putfield 11, 3) := by decide +kernel
theorem dX0_init_12 : decode cX0_init 12 = .ok (.aload_n 0, 1) := by decide +kernel
theorem dX0_init_13 : decode cX0_init 13 = .ok (.bipush 32, 2) := by decide +kernel
theorem dX0_init_15 : decode cX0_init 15 = .ok (.newarray .int, 2) := by decide +kernel
theorem dX0_init_17 : decode cX0_init 17 = .ok (.putfield 15, 3) := by decide +kernel
theorem dX0_init_20 : decode cX0_init 20 = .ok (.aload_n 0, 1) := by decide +kernel
theorem dX0_init_21 : decode cX0_init 21 = .ok (.bipush 32, 2) := by decide +kernel
theorem dX0_init_23 : decode cX0_init 23 = .ok (.newarray .int, 2) := by decide +kernel
theorem dX0_init_25 : decode cX0_init 25 = .ok (.putfield 18, 3) := by decide +kernel
theorem dX0_init_28 : decode cX0_init 28 = .ok (.aload_n 0, 1) := by decide +kernel
theorem dX0_init_29 : decode cX0_init 29 = .ok (.sipush 128, 3) := by decide +kernel
theorem dX0_init_32 : decode cX0_init 32 = .ok (.newarray .int, 2) := by decide +kernel
theorem dX0_init_34 : decode cX0_init 34 = .ok (.putfield 21, 3) := by decide +kernel
theorem dX0_init_37 : decode cX0_init 37 = .ok (.aload_n 0, 1) := by decide +kernel
theorem dX0_init_38 : decode cX0_init 38 = .ok (.iconst 4, 1) := by decide +kernel
theorem dX0_init_39 : decode cX0_init 39 = .ok (.newarray .int, 2) := by decide +kernel
theorem dX0_init_41 : decode cX0_init 41 = .ok (.putfield 24, 3) := by decide +kernel
theorem dX0_init_44 : decode cX0_init 44 = .ok (.return_, 1) := by decide +kernel
theorem dX0_setAsAtFirst_0 : decode cX0_setAsAtFirst 0 = .ok (.aload_n 0, 1) := by decide +kernel
theorem dX0_setAsAtFirst_1 : decode cX0_setAsAtFirst 1 = .ok (.iconst 0, 1) := by decide +kernel
theorem dX0_setAsAtFirst_2 : decode cX0_setAsAtFirst 2 = .ok (.putfield 27, 3) := by decide +kernel
theorem dX0_setAsAtFirst_5 : decode cX0_setAsAtFirst 5 = .ok (.aload_n 0, 1) := by decide +kernel
theorem dX0_setAsAtFirst_6 : decode cX0_setAsAtFirst 6 = .ok (.iconst 0, 1) := by decide +kernel
theorem dX0_setAsAtFirst_7 : decode cX0_setAsAtFirst 7 = .ok (.putfield 31, 3) := by decide +kernel
theorem dX0_setAsAtFirst_10 : decode cX0_setAsAtFirst 10 = .ok (.aload_n 0, 1) := by decide +kernel
theorem dX0_setAsAtFirst_11 : decode cX0_setAsAtFirst 11 = .ok (.iconst 0, 1) := by decide +kernel
theorem dX0_setAsAtFirst_12 : decode cX0_setAsAtFirst 12 = .ok (.putfield 34, 3) := by decide +kernel
theorem dX0_setAsAtFirst_15 : decode cX0_setAsAtFirst 15 = .ok (.aload_n 0, 1) := by decide +kernel
theorem dX0_setAsAtFirst_16 : decode cX0_setAsAtFirst 16 = .ok (.getfield 21, 3) := by decide +kernel
theorem dX0_setAsAtFirst_19 : decode cX0_setAsAtFirst 19 = .ok (.iconst 0, 1) := by decide +kernel
theorem dX0_setAsAtFirst_20 : decode cX0_setAsAtFirst 20 = .ok (.invokestatic 38, 3) := by decide +kernel
theorem dX0_setAsAtFirst_23 : decode cX0_setAsAtFirst 23 = .ok (.return_, 1) := by decide +kernel
theorem dX0_takeFrom_0 : decode cX0_takeFrom 0 = .ok (.aload_n 1, 1) := by decide +kernel
theorem dX0_takeFrom_1 : decode cX0_takeFrom 1 = .ok (.getfield 11, 3) := by decide +kernel
theorem dX0_takeFrom_4 : decode cX0_takeFrom 4 = .ok (.iconst 0, 1) := by decide +kernel
theorem dX0_takeFrom_5 : decode cX0_takeFrom 5 = .ok (.aload_n 0, 1) := by decide +kernel
theorem dX0_takeFrom_6 : decode cX0_takeFrom 6 = .ok (.getfield 11, 3) := by decide +kernel
theorem dX0_takeFrom_9 : decode cX0_takeFrom 9 = .ok (.iconst 0, 1) := by decide +kernel
theorem dX0_takeFrom_10 : decode cX0_takeFrom 10 = .ok (.bipush 32, 2) := by decide +kernel
theorem dX0_takeFrom_12 : decode cX0_takeFrom 12 = .ok (.invokestatic 44, 3) := by decide +kernel
theorem dX0_takeFrom_15 : decode cX0_takeFrom 15 = .ok (.aload_n 1, 1) := by decide +kernel
theorem dX0_takeFrom_16 : decode cX0_takeFrom 16 = .ok (.getfield 15, 3) := by decide +kernel
theorem dX0_takeFrom_19 : decode cX0_takeFrom 19 = .ok (.iconst 0, 1) := by decide +kernel
theorem dX0_takeFrom_20 : decode cX0_takeFrom 20 = .ok (.aload_n 0, 1) := by decide +kernel
theorem dX0_takeFrom_21 : decode cX0_takeFrom 21 = .ok (.getfield 15, 3) := by decide +kernel
theorem dX0_takeFrom_24 : decode cX0_takeFrom 24 = .ok (.iconst 0, 1) := by decide +kernel
theorem dX0_takeFrom_25 : decode cX0_takeFrom 25 = .ok (.bipush 32, 2) := by decide +kernel
theorem dX0_takeFrom_27 : decode cX0_takeFrom 27 = .ok (.invokestatic 44, 3) := by decide +kernel
theorem dX0_takeFrom_30 : decode cX0_takeFrom 30 = .ok (.aload_n 1, 1) := by decide +kernel
theorem dX0_takeFrom_31 : decode cX0_takeFrom 31 = .ok (.getfield 18, 3) := by decide +kernel
theorem dX0_takeFrom_34 : decode cX0_takeFrom 34 = .ok (.iconst 0, 1) := by decide +kernel
theorem dX0_takeFrom_35 : decode cX0_takeFrom 35 = .ok (.aload_n 0, 1) := by decide +kernel
theorem dX0_takeFrom_36 : decode cX0_takeFrom 36 = .ok (.getfield 18, 3) := by decide +kernel
theorem dX0_takeFrom_39 : decode cX0_takeFrom 39 = .ok (.iconst 0, 1) := by decide +kernel
theorem dX0_takeFrom_40 : decode cX0_takeFrom 40 = .ok (.bipush 32, 2) := by decide +kernel
theorem dX0_takeFrom_42 : decode cX0_takeFrom 42 = .ok (.invokestatic 44, 3) := by decide +kernel
theorem dX0_takeFrom_45 : decode cX0_takeFrom 45 = .ok (.aload_n 1, 1) := by decide +kernel
theorem dX0_takeFrom_46 : decode cX0_takeFrom 46 = .ok (.getfield 21, 3) := by decide +kernel
theorem dX0_takeFrom_49 : decode cX0_takeFrom 49 = .ok (.iconst 0, 1) := by decide +kernel
theorem dX0_takeFrom_50 : decode cX0_takeFrom 50 = .ok (.aload_n 0, 1) := by decide +kernel
theorem dX0_takeFrom_51 : decode cX0_takeFrom 51 = .ok (.getfield 21, 3) := by decide +kernel
theorem dX0_takeFrom_54 : decode cX0_takeFrom 54 = .ok (.iconst 0, 1) := by decide +kernel
theorem dX0_takeFrom_55 : decode cX0_takeFrom 55 = .ok (.sipush 128, 3) := by decide +kernel
theorem dX0_takeFrom_58 : decode cX0_takeFrom 58 = .ok (.invokestatic 44, 3) := by decide +kernel
theorem dX0_takeFrom_61 : decode cX0_takeFrom 61 = .ok (.aload_n 0, 1) := by decide +kernel
theorem dX0_takeFrom_62 : decode cX0_takeFrom 62 = .ok (.aload_n 1, 1) := by decide +kernel
theorem dX0_takeFrom_63 : decode cX0_takeFrom 63 = .ok (.getfield 27, 3) := by decide +kernel
theorem dX0_takeFrom_66 : decode cX0_takeFrom 66 = .ok (.putfield 27, 3) := by decide +kernel
theorem dX0_takeFrom_69 : decode cX0_takeFrom 69 = .ok (.aload_n 0, 1) := by decide +kernel
theorem dX0_takeFrom_70 : decode cX0_takeFrom 70 = .ok (.aload_n 1, 1) := by decide +kernel
theorem dX0_takeFrom_71 : decode cX0_takeFrom 71 = .ok (.getfield 31, 3) := by decide +kernel
theorem dX0_takeFrom_74 : decode cX0_takeFrom 74 = .ok (.putfield 31, 3) := by decide +kernel
theorem dX0_takeFrom_77 : decode cX0_takeFrom 77 = .ok (.aload_n 0, 1) := by decide +kernel
theorem dX0_takeFrom_78 : decode cX0_takeFrom 78 = .ok (.aload_n 1, 1) := by decide +kernel
theorem dX0_takeFrom_79 : decode cX0_takeFrom 79 = .ok (.getfield 34, 3) := by decide +kernel
theorem dX0_takeFrom_82 : decode cX0_takeFrom 82 = .ok (.putfield 34, 3) := by decide +kernel
theorem dX0_takeFrom_85 : decode cX0_takeFrom 85 = .ok (.aload_n 0, 1) := by decide +kernel
theorem dX0_takeFrom_86 : decode cX0_takeFrom 86 = .ok (.aload_n 1, 1) := by decide +kernel
theorem dX0_takeFrom_87 : decode cX0_takeFrom 87 = .ok (.getfield 50, 3) := by decide +kernel
theorem dX0_takeFrom_90 : decode cX0_takeFrom 90 = .ok (.putfield 50, 3) := by decide +kernel
theorem dX0_takeFrom_93 : decode cX0_takeFrom 93 = .ok (.aload_n 0, 1) := by decide +kernel
theorem dX0_takeFrom_94 : decode cX0_takeFrom 94 = .ok (.aload_n 1, 1) := by decide +kernel
theorem dX0_takeFrom_95 : decode cX0_takeFrom 95 = .ok (.getfield 53, 3) := by decide +kernel
theorem dX0_takeFrom_98 : decode cX0_takeFrom 98 = .ok (.putfield 53, 3) := by decide +kernel
theorem dX0_takeFrom_101 : decode cX0_takeFrom 101 = .ok (.aload_n 0, 1) := by decide +kernel
theorem dX0_takeFrom_102 : decode cX0_takeFrom 102 = .ok (.aload_n 1, 1) := by decide +kernel
theorem dX0_takeFrom_103 : decode cX0_takeFrom 103 = .ok (.getfield 56, 3) := by decide +kernel
theorem dX0_takeFrom_106 : decode cX0_takeFrom 106 = .ok (.putfield 56, 3) := by decide +kernel
theorem dX0_takeFrom_109 : decode cX0_takeFrom 109 = .ok (.aload_n 1, 1) := by decide +kernel
theorem dX0_takeFrom_110 : decode cX0_takeFrom 110 = .ok (.getfield 24, 3) := by decide +kernel
theorem dX0_takeFrom_113 : decode cX0_takeFrom 113 = .ok (.iconst 0, 1) := by decide +kernel
theorem dX0_takeFrom_114 : decode cX0_takeFrom 114 = .ok (.aload_n 0, 1) := by decide +kernel
theorem dX0_takeFrom_115 : decode cX0_takeFrom 115 = .ok (.getfield 24, 3) := by decide +kernel
theorem dX0_takeFrom_118 : decode cX0_takeFrom 118 = .ok (.iconst 0, 1) := by decide +kernel
theorem dX0_takeFrom_119 : decode cX0_takeFrom 119 = .ok (.iconst 4, 1) := by decide +kernel
theorem dX0_takeFrom_120 : decode cX0_takeFrom 120 = .ok (.invokestatic 44, 3) := by decide +kernel
theorem dX0_takeFrom_123 : decode cX0_takeFrom 123 = .ok (.return_, 1) := by decide +kernel
theorem dX0_placeOf_0 : decode cX0_placeOf 0 = .ok (.aload_n 0, 1) := by decide +kernel
theorem dX0_placeOf_1 : decode cX0_placeOf 1 = .ok (.getfield 27, 3) := by decide +kernel
theorem dX0_placeOf_4 : decode cX0_placeOf 4 = .ok (.iconst 1, 1) := by decide +kernel
theorem dX0_placeOf_5 : decode cX0_placeOf 5 = .ok (.isub, 1) := by decide +kernel
theorem dX0_placeOf_6 : decode cX0_placeOf 6 = .ok (.iload_n 1, 1) := by decide +kernel
theorem dX0_placeOf_7 : decode cX0_placeOf 7 = .ok (.isub, 1) := by decide +kernel
theorem dX0_placeOf_8 : decode cX0_placeOf 8 = .ok (.bipush 31, 2) := by decide +kernel
theorem dX0_placeOf_10 : decode cX0_placeOf 10 = .ok (.iand, 1) := by decide +kernel
theorem dX0_placeOf_11 : decode cX0_placeOf 11 = .ok (.ireturn, 1) := by decide +kernel
theorem dX0_begin_0 : decode cX0_begin 0 = .ok (.aload_n 0, 1) := by decide +kernel
theorem dX0_begin_1 : decode cX0_begin 1 = .ok (.dup, 1) := by decide +kernel
theorem dX0_begin_2 : decode cX0_begin 2 = .ok (.getfield 27, 3) := by decide +kernel
theorem dX0_begin_5 : decode cX0_begin 5 = .ok (.iconst 1, 1) := by decide +kernel
theorem dX0_begin_6 : decode cX0_begin 6 = .ok (.iadd, 1) := by decide +kernel
theorem dX0_begin_7 : decode cX0_begin 7 = .ok (.putfield 27, 3) := by decide +kernel
theorem dX0_begin_10 : decode cX0_begin 10 = .ok (.aload_n 0, 1) := by decide +kernel
theorem dX0_begin_11 : decode cX0_begin 11 = .ok (.dup, 1) := by decide +kernel
theorem dX0_begin_12 : decode cX0_begin 12 = .ok (.getfield 31, 3) := by decide +kernel
theorem dX0_begin_15 : decode cX0_begin 15 = .ok (.iconst 1, 1) := by decide +kernel
theorem dX0_begin_16 : decode cX0_begin 16 = .ok (.iadd, 1) := by decide +kernel
theorem dX0_begin_17 : decode cX0_begin 17 = .ok (.putfield 31, 3) := by decide +kernel
theorem dX0_begin_20 : decode cX0_begin 20 = .ok (.aload_n 0, 1) := by decide +kernel
theorem dX0_begin_21 : decode cX0_begin 21 = .ok (.iconst 0, 1) := by decide +kernel
theorem dX0_begin_22 : decode cX0_begin 22 = .ok (.invokevirtual 59, 3) := by decide +kernel
theorem dX0_begin_25 : decode cX0_begin 25 = .ok (.istore_n 3, 1) := by decide +kernel
theorem dX0_begin_26 : decode cX0_begin 26 = .ok (.aload_n 0, 1) := by decide +kernel
theorem dX0_begin_27 : decode cX0_begin 27 = .ok (.getfield 11, 3) := by decide +kernel
theorem dX0_begin_30 : decode cX0_begin 30 = .ok (.iload_n 3, 1) := by decide +kernel
theorem dX0_begin_31 : decode cX0_begin 31 = .ok (.iload_n 1, 1) := by decide +kernel
theorem dX0_begin_32 : decode cX0_begin 32 = .ok (.iastore, 1) := by decide +kernel
theorem dX0_begin_33 : decode cX0_begin 33 = .ok (.aload_n 0, 1) := by decide +kernel
theorem dX0_begin_34 : decode cX0_begin 34 = .ok (.getfield 15, 3) := by decide +kernel
theorem dX0_begin_37 : decode cX0_begin 37 = .ok (.iload_n 3, 1) := by decide +kernel
theorem dX0_begin_38 : decode cX0_begin 38 = .ok (.iload_n 2, 1) := by decide +kernel
theorem dX0_begin_39 : decode cX0_begin 39 = .ok (.ifCond .eq 7, 3) := by decide +kernel
theorem dX0_begin_42 : decode cX0_begin 42 = .ok (.iconst 1, 1) := by decide +kernel
theorem dX0_begin_43 : decode cX0_begin 43 = .ok (.goto 4, 3) := by decide +kernel
theorem dX0_begin_46 : decode cX0_begin 46 = .ok (.iconst 0, 1) := by decide +kernel
theorem dX0_begin_47 : decode cX0_begin 47 = .ok (.iastore, 1) := by decide +kernel
theorem dX0_begin_48 : decode cX0_begin 48 = .ok (.aload_n 0, 1) := by decide +kernel
theorem dX0_begin_49 : decode cX0_begin 49 = .ok (.getfield 18, 3) := by decide +kernel
theorem dX0_begin_52 : decode cX0_begin 52 = .ok (.iload_n 3, 1) := by decide +kernel
theorem dX0_begin_53 : decode cX0_begin 53 = .ok (.iconst 0, 1) := by decide +kernel
theorem dX0_begin_54 : decode cX0_begin 54 = .ok (.iastore, 1) := by decide +kernel
theorem dX0_begin_55 : decode cX0_begin 55 = .ok (.return_, 1) := by decide +kernel
theorem dX0_print_0 : decode cX0_print 0 = .ok (.iload_n 1, 1) := by decide +kernel
theorem dX0_print_1 : decode cX0_print 1 = .ok (.aload_n 0, 1) := by decide +kernel
theorem dX0_print_2 : decode cX0_print 2 = .ok (.getfield 31, 3) := by decide +kernel
theorem dX0_print_5 : decode cX0_print 5 = .ok (.if_icmp .ge 61, 3) := by decide +kernel
theorem dX0_print_8 : decode cX0_print 8 = .ok (.iload_n 2, 1) := by decide +kernel
theorem dX0_print_9 : decode cX0_print 9 = .ok (.iconst 0, 1) := by decide +kernel
theorem dX0_print_10 : decode cX0_print 10 = .ok (.iconst 3, 1) := by decide +kernel
theorem dX0_print_11 : decode cX0_print 11 = .ok (.invokestatic 63, 3) := by decide +kernel
theorem dX0_print_14 : decode cX0_print 14 = .ok (.ifCond .eq 52, 3) := by decide +kernel
theorem dX0_print_17 : decode cX0_print 17 = .ok (.aload_n 0, 1) := by decide +kernel
theorem dX0_print_18 : decode cX0_print 18 = .ok (.iload_n 1, 1) := by decide +kernel
theorem dX0_print_19 : decode cX0_print 19 = .ok (.invokevirtual 59, 3) := by decide +kernel
theorem dX0_print_22 : decode cX0_print 22 = .ok (.istore 5, 2) := by decide +kernel
theorem dX0_print_24 : decode cX0_print 24 = .ok (.aload_n 0, 1) := by decide +kernel
theorem dX0_print_25 : decode cX0_print 25 = .ok (.getfield 18, 3) := by decide +kernel
theorem dX0_print_28 : decode cX0_print 28 = .ok (.iload 5, 2) := by decide +kernel
theorem dX0_print_30 : decode cX0_print 30 = .ok (.dup2, 1) := by decide +kernel
theorem dX0_print_31 : decode cX0_print 31 = .ok (.iaload, 1) := by decide +kernel
theorem dX0_print_32 : decode cX0_print 32 = .ok (.iload 4, 2) := by decide +kernel
theorem dX0_print_34 : decode cX0_print 34 = .ok (.iadd, 1) := by decide +kernel
theorem dX0_print_35 : decode cX0_print 35 = .ok (.iastore, 1) := by decide +kernel
theorem dX0_print_36 : decode cX0_print 36 = .ok (.aload_n 0, 1) := by decide +kernel
theorem dX0_print_37 : decode cX0_print 37 = .ok (.getfield 21, 3) := by decide +kernel
theorem dX0_print_40 : decode cX0_print 40 = .ok (.iload 5, 2) := by decide +kernel
theorem dX0_print_42 : decode cX0_print 42 = .ok (.iconst 4, 1) := by decide +kernel
theorem dX0_print_43 : decode cX0_print 43 = .ok (.imul, 1) := by decide +kernel
theorem dX0_print_44 : decode cX0_print 44 = .ok (.iload_n 2, 1) := by decide +kernel
theorem dX0_print_45 : decode cX0_print 45 = .ok (.iadd, 1) := by decide +kernel
theorem dX0_print_46 : decode cX0_print 46 = .ok (.iload_n 3, 1) := by decide +kernel
theorem dX0_print_47 : decode cX0_print 47 = .ok (.iload_n 2, 1) := by decide +kernel
theorem dX0_print_48 : decode cX0_print 48 = .ok (.aload_n 0, 1) := by decide +kernel
theorem dX0_print_49 : decode cX0_print 49 = .ok (.getfield 11, 3) := by decide +kernel
theorem dX0_print_52 : decode cX0_print 52 = .ok (.iload 5, 2) := by decide +kernel
theorem dX0_print_54 : decode cX0_print 54 = .ok (.iaload, 1) := by decide +kernel
theorem dX0_print_55 : decode cX0_print 55 = .ok (.imul, 1) := by decide +kernel
theorem dX0_print_56 : decode cX0_print 56 = .ok (.iadd, 1) := by decide +kernel
theorem dX0_print_57 : decode cX0_print 57 = .ok (.aload_n 0, 1) := by decide +kernel
theorem dX0_print_58 : decode cX0_print 58 = .ok (.getfield 18, 3) := by decide +kernel
theorem dX0_print_61 : decode cX0_print 61 = .ok (.iload 5, 2) := by decide +kernel
theorem dX0_print_63 : decode cX0_print 63 = .ok (.iaload, 1) := by decide +kernel
theorem dX0_print_64 : decode cX0_print 64 = .ok (.isub, 1) := by decide +kernel
theorem dX0_print_65 : decode cX0_print 65 = .ok (.iastore, 1) := by decide +kernel
theorem dX0_print_66 : decode cX0_print 66 = .ok (.return_, 1) := by decide +kernel
theorem dX0_errorAt_0 : decode cX0_errorAt 0 = .ok (.iload_n 2, 1) := by decide +kernel
theorem dX0_errorAt_1 : decode cX0_errorAt 1 = .ok (.iconst 0, 1) := by decide +kernel
theorem dX0_errorAt_2 : decode cX0_errorAt 2 = .ok (.iconst 3, 1) := by decide +kernel
theorem dX0_errorAt_3 : decode cX0_errorAt 3 = .ok (.invokestatic 63, 3) := by decide +kernel
theorem dX0_errorAt_6 : decode cX0_errorAt 6 = .ok (.ifCond .eq 20, 3) := by decide +kernel
theorem dX0_errorAt_9 : decode cX0_errorAt 9 = .ok (.aload_n 0, 1) := by decide +kernel
theorem dX0_errorAt_10 : decode cX0_errorAt 10 = .ok (.getfield 21, 3) := by decide +kernel
theorem dX0_errorAt_13 : decode cX0_errorAt 13 = .ok (.aload_n 0, 1) := by decide +kernel
theorem dX0_errorAt_14 : decode cX0_errorAt 14 = .ok (.iload_n 1, 1) := by decide +kernel
theorem dX0_errorAt_15 : decode cX0_errorAt 15 = .ok (.invokevirtual 59, 3) := by decide +kernel
theorem dX0_errorAt_18 : decode cX0_errorAt 18 = .ok (.iconst 4, 1) := by decide +kernel
theorem dX0_errorAt_19 : decode cX0_errorAt 19 = .ok (.imul, 1) := by decide +kernel
theorem dX0_errorAt_20 : decode cX0_errorAt 20 = .ok (.iload_n 2, 1) := by decide +kernel
theorem dX0_errorAt_21 : decode cX0_errorAt 21 = .ok (.iadd, 1) := by decide +kernel
theorem dX0_errorAt_22 : decode cX0_errorAt 22 = .ok (.iaload, 1) := by decide +kernel
theorem dX0_errorAt_23 : decode cX0_errorAt 23 = .ok (.goto 4, 3) := by decide +kernel
theorem dX0_errorAt_26 : decode cX0_errorAt 26 = .ok (.iconst 0, 1) := by decide +kernel
theorem dX0_errorAt_27 : decode cX0_errorAt 27 = .ok (.ireturn, 1) := by decide +kernel
theorem dX0_come_0 : decode cX0_come 0 = .ok (.aload_n 0, 1) := by decide +kernel
theorem dX0_come_1 : decode cX0_come 1 = .ok (.dup, 1) := by decide +kernel
theorem dX0_come_2 : decode cX0_come 2 = .ok (.getfield 31, 3) := by decide +kernel
theorem dX0_come_5 : decode cX0_come 5 = .ok (.iconst 1, 1) := by decide +kernel
theorem dX0_come_6 : decode cX0_come 6 = .ok (.isub, 1) := by decide +kernel
theorem dX0_come_7 : decode cX0_come 7 = .ok (.putfield 31, 3) := by decide +kernel
theorem dX0_come_10 : decode cX0_come 10 = .ok (.aload_n 0, 1) := by decide +kernel
theorem dX0_come_11 : decode cX0_come 11 = .ok (.aload_n 0, 1) := by decide +kernel
theorem dX0_come_12 : decode cX0_come 12 = .ok (.getfield 31, 3) := by decide +kernel
theorem dX0_come_15 : decode cX0_come 15 = .ok (.invokevirtual 59, 3) := by decide +kernel
theorem dX0_come_18 : decode cX0_come 18 = .ok (.istore_n 2, 1) := by decide +kernel
theorem dX0_come_19 : decode cX0_come 19 = .ok (.aload_n 0, 1) := by decide +kernel
theorem dX0_come_20 : decode cX0_come 20 = .ok (.iconst 1, 1) := by decide +kernel
theorem dX0_come_21 : decode cX0_come 21 = .ok (.putfield 34, 3) := by decide +kernel
theorem dX0_come_24 : decode cX0_come 24 = .ok (.aload_n 0, 1) := by decide +kernel
theorem dX0_come_25 : decode cX0_come 25 = .ok (.aload_n 0, 1) := by decide +kernel
theorem dX0_come_26 : decode cX0_come 26 = .ok (.getfield 27, 3) := by decide +kernel
theorem dX0_come_29 : decode cX0_come 29 = .ok (.iconst 1, 1) := by decide +kernel
theorem dX0_come_30 : decode cX0_come 30 = .ok (.isub, 1) := by decide +kernel
theorem dX0_come_31 : decode cX0_come 31 = .ok (.aload_n 0, 1) := by decide +kernel
theorem dX0_come_32 : decode cX0_come 32 = .ok (.getfield 31, 3) := by decide +kernel
theorem dX0_come_35 : decode cX0_come 35 = .ok (.isub, 1) := by decide +kernel
theorem dX0_come_36 : decode cX0_come 36 = .ok (.putfield 50, 3) := by decide +kernel
theorem dX0_come_39 : decode cX0_come 39 = .ok (.aload_n 0, 1) := by decide +kernel
theorem dX0_come_40 : decode cX0_come 40 = .ok (.aload_n 0, 1) := by decide +kernel
theorem dX0_come_41 : decode cX0_come 41 = .ok (.getfield 15, 3) := by decide +kernel
theorem dX0_come_44 : decode cX0_come 44 = .ok (.iload_n 2, 1) := by decide +kernel
theorem dX0_come_45 : decode cX0_come 45 = .ok (.iaload, 1) := by decide +kernel
theorem dX0_come_46 : decode cX0_come 46 = .ok (.iconst 1, 1) := by decide +kernel
theorem dX0_come_47 : decode cX0_come 47 = .ok (.if_icmp .ne 7, 3) := by decide +kernel
theorem dX0_come_50 : decode cX0_come 50 = .ok (.iconst 1, 1) := by decide +kernel
theorem dX0_come_51 : decode cX0_come 51 = .ok (.goto 4, 3) := by decide +kernel
theorem dX0_come_54 : decode cX0_come 54 = .ok (.iconst 0, 1) := by decide +kernel
theorem dX0_come_55 : decode cX0_come 55 = .ok (.putfield 53, 3) := by decide +kernel
theorem dX0_come_58 : decode cX0_come 58 = .ok (.aload_n 0, 1) := by decide +kernel
theorem dX0_come_59 : decode cX0_come 59 = .ok (.getfield 21, 3) := by decide +kernel
theorem dX0_come_62 : decode cX0_come 62 = .ok (.iload_n 2, 1) := by decide +kernel
theorem dX0_come_63 : decode cX0_come 63 = .ok (.iconst 4, 1) := by decide +kernel
theorem dX0_come_64 : decode cX0_come 64 = .ok (.imul, 1) := by decide +kernel
theorem dX0_come_65 : decode cX0_come 65 = .ok (.aload_n 0, 1) := by decide +kernel
theorem dX0_come_66 : decode cX0_come 66 = .ok (.getfield 24, 3) := by decide +kernel
theorem dX0_come_69 : decode cX0_come 69 = .ok (.iconst 0, 1) := by decide +kernel
theorem dX0_come_70 : decode cX0_come 70 = .ok (.iconst 4, 1) := by decide +kernel
theorem dX0_come_71 : decode cX0_come 71 = .ok (.invokestatic 44, 3) := by decide +kernel
theorem dX0_come_74 : decode cX0_come 74 = .ok (.aload_n 0, 1) := by decide +kernel
theorem dX0_come_75 : decode cX0_come 75 = .ok (.aload_n 0, 1) := by decide +kernel
theorem dX0_come_76 : decode cX0_come 76 = .ok (.getfield 53, 3) := by decide +kernel
theorem dX0_come_79 : decode cX0_come 79 = .ok (.ifCond .ne 15, 3) := by decide +kernel
theorem dX0_come_82 : decode cX0_come 82 = .ok (.aload_n 0, 1) := by decide +kernel
theorem dX0_come_83 : decode cX0_come 83 = .ok (.iload_n 1, 1) := by decide +kernel
theorem dX0_come_84 : decode cX0_come 84 = .ok (.invokevirtual 67, 3) := by decide +kernel
theorem dX0_come_87 : decode cX0_come 87 = .ok (.ifCond .ne 7, 3) := by decide +kernel
theorem dX0_come_90 : decode cX0_come 90 = .ok (.iconst 1, 1) := by decide +kernel
theorem dX0_come_91 : decode cX0_come 91 = .ok (.goto 4, 3) := by decide +kernel
theorem dX0_come_94 : decode cX0_come 94 = .ok (.iconst 0, 1) := by decide +kernel
theorem dX0_come_95 : decode cX0_come 95 = .ok (.putfield 56, 3) := by decide +kernel
theorem dX0_come_98 : decode cX0_come 98 = .ok (.return_, 1) := by decide +kernel
theorem dX0_cameFurtherOutThan_0 : decode cX0_cameFurtherOutThan 0 = .ok (.iconst 1, 1) := by decide +kernel
theorem dX0_cameFurtherOutThan_1 : decode cX0_cameFurtherOutThan 1 = .ok (.istore_n 2, 1) := by decide +kernel
theorem dX0_cameFurtherOutThan_2 : decode cX0_cameFurtherOutThan 2 = .ok (.iload_n 2, 1) := by decide +kernel
theorem dX0_cameFurtherOutThan_3 : decode cX0_cameFurtherOutThan 3 = .ok (.iconst 4, 1) := by decide +kernel
theorem dX0_cameFurtherOutThan_4 : decode cX0_cameFurtherOutThan 4 = .ok (.if_icmp .ge 24, 3) := by decide +kernel
theorem dX0_cameFurtherOutThan_7 : decode cX0_cameFurtherOutThan 7 = .ok (.aload_n 0, 1) := by decide +kernel
theorem dX0_cameFurtherOutThan_8 : decode cX0_cameFurtherOutThan 8 = .ok (.getfield 24, 3) := by decide +kernel
theorem dX0_cameFurtherOutThan_11 : decode cX0_cameFurtherOutThan 11 = .ok (.iload_n 2, 1) := by decide +kernel
theorem dX0_cameFurtherOutThan_12 : decode cX0_cameFurtherOutThan 12 = .ok (.iaload, 1) := by decide +kernel
theorem dX0_cameFurtherOutThan_13 : decode cX0_cameFurtherOutThan 13 = .ok (.invokestatic 71, 3) := by decide +kernel
theorem dX0_cameFurtherOutThan_16 : decode cX0_cameFurtherOutThan 16 = .ok (.iload_n 1, 1) := by decide +kernel
theorem dX0_cameFurtherOutThan_17 : decode cX0_cameFurtherOutThan 17 = .ok (.if_icmp .le 5, 3) := by decide +kernel
theorem dX0_cameFurtherOutThan_20 : decode cX0_cameFurtherOutThan 20 = .ok (.iconst 1, 1) := by decide +kernel
theorem dX0_cameFurtherOutThan_21 : decode cX0_cameFurtherOutThan 21 = .ok (.ireturn, 1) := by decide +kernel
theorem dX0_cameFurtherOutThan_22 : decode cX0_cameFurtherOutThan 22 = .ok (.iinc 2 1, 3) := by decide +kernel
theorem dX0_cameFurtherOutThan_25 : decode cX0_cameFurtherOutThan 25 = .ok (.goto (-23), 3) := by decide +kernel
theorem dX0_cameFurtherOutThan_28 : decode cX0_cameFurtherOutThan 28 = .ok (.iconst 0, 1) := by decide +kernel
theorem dX0_cameFurtherOutThan_29 : decode cX0_cameFurtherOutThan 29 = .ok (.ireturn, 1) := by decide +kernel
theorem dX1_init_0 : decode cX1_init 0 = .ok (.aload_n 0, 1) := by decide +kernel
theorem dX1_init_1 : decode cX1_init 1 = .ok (.invokespecial 3, 3) := by decide +kernel
theorem dX1_init_4 : decode cX1_init 4 = .ok (.aload_n 0, 1) := by decide +kernel
theorem dX1_init_5 : decode cX1_init 5 = .ok (.bipush 6, 2) := by decide +kernel
theorem dX1_init_7 : decode cX1_init 7 = .ok (.newarray .int, 2) := by decide +kernel
theorem dX1_init_9 : decode cX1_init 9 = .ok (.putfield 9, 3) := by decide +kernel
theorem dX1_init_12 : decode cX1_init 12 = .ok (.aload_n 0, 1) := by decide +kernel
theorem dX1_init_13 : decode cX1_init 13 = .ok (.bipush 6, 2) := by decide +kernel
theorem dX1_init_15 : decode cX1_init 15 = .ok (.newarray .int, 2) := by decide +kernel
theorem dX1_init_17 : decode cX1_init 17 = .ok (.putfield 15, 3) := by decide +kernel
theorem dX1_init_20 : decode cX1_init 20 = .ok (.return_, 1) := by decide +kernel
theorem dX1_add_0 : decode cX1_add 0 = .ok (.aload_n 0, 1) := by decide +kernel
theorem dX1_add_1 : decode cX1_add 1 = .ok (.getfield 18, 3) := by decide +kernel
theorem dX1_add_4 : decode cX1_add 4 = .ok (.bipush 6, 2) := by decide +kernel
theorem dX1_add_6 : decode cX1_add 6 = .ok (.if_icmp .lt 5, 3) := by decide +kernel
theorem dX1_add_9 : decode cX1_add 9 = .ok (.iconst 0, 1) := by decide +kernel
theorem dX1_add_10 : decode cX1_add 10 = .ok (.ireturn, 1) := by decide +kernel
theorem dX1_add_11 : decode cX1_add 11 = .ok (.aload_n 0, 1) := by decide +kernel
theorem dX1_add_12 : decode cX1_add 12 = .ok (.getfield 9, 3) := by decide +kernel
theorem dX1_add_15 : decode cX1_add 15 = .ok (.aload_n 0, 1) := by decide +kernel
theorem dX1_add_16 : decode cX1_add 16 = .ok (.getfield 18, 3) := by decide +kernel
theorem dX1_add_19 : decode cX1_add 19 = .ok (.iload_n 1, 1) := by decide +kernel
theorem dX1_add_20 : decode cX1_add 20 = .ok (.iastore, 1) := by decide +kernel
theorem dX1_add_21 : decode cX1_add 21 = .ok (.aload_n 0, 1) := by decide +kernel
theorem dX1_add_22 : decode cX1_add 22 = .ok (.getfield 15, 3) := by decide +kernel
theorem dX1_add_25 : decode cX1_add 25 = .ok (.aload_n 0, 1) := by decide +kernel
theorem dX1_add_26 : decode cX1_add 26 = .ok (.getfield 18, 3) := by decide +kernel
theorem dX1_add_29 : decode cX1_add 29 = .ok (.iload_n 2, 1) := by decide +kernel
theorem dX1_add_30 : decode cX1_add 30 = .ok (.iastore, 1) := by decide +kernel
theorem dX1_add_31 : decode cX1_add 31 = .ok (.aload_n 0, 1) := by decide +kernel
theorem dX1_add_32 : decode cX1_add 32 = .ok (.dup, 1) := by decide +kernel
theorem dX1_add_33 : decode cX1_add 33 = .ok (.getfield 18, 3) := by decide +kernel
theorem dX1_add_36 : decode cX1_add 36 = .ok (.iconst 1, 1) := by decide +kernel
theorem dX1_add_37 : decode cX1_add 37 = .ok (.iadd, 1) := by decide +kernel
theorem dX1_add_38 : decode cX1_add 38 = .ok (.putfield 18, 3) := by decide +kernel
theorem dX1_add_41 : decode cX1_add 41 = .ok (.iconst 1, 1) := by decide +kernel
theorem dX1_add_42 : decode cX1_add 42 = .ok (.ireturn, 1) := by decide +kernel
theorem dX1_causes_0 : decode cX1_causes 0 = .ok (.iconst 0, 1) := by decide +kernel
theorem dX1_causes_1 : decode cX1_causes 1 = .ok (.istore_n 2, 1) := by decide +kernel
theorem dX1_causes_2 : decode cX1_causes 2 = .ok (.iconst 0, 1) := by decide +kernel
theorem dX1_causes_3 : decode cX1_causes 3 = .ok (.istore_n 3, 1) := by decide +kernel
theorem dX1_causes_4 : decode cX1_causes 4 = .ok (.iload_n 3, 1) := by decide +kernel
theorem dX1_causes_5 : decode cX1_causes 5 = .ok (.bipush 7, 2) := by decide +kernel
theorem dX1_causes_7 : decode cX1_causes 7 = .ok (.if_icmp .ge 31, 3) := by decide +kernel
theorem dX1_causes_10 : decode cX1_causes 10 = .ok (.iload_n 3, 1) := by decide +kernel
theorem dX1_causes_11 : decode cX1_causes 11 = .ok (.invokestatic 22, 3) := by decide +kernel
theorem dX1_causes_14 : decode cX1_causes 14 = .ok (.iload_n 1, 1) := by decide +kernel
theorem dX1_causes_15 : decode cX1_causes 15 = .ok (.if_icmp .ge 17, 3) := by decide +kernel
theorem dX1_causes_18 : decode cX1_causes 18 = .ok (.aload_n 0, 1) := by decide +kernel
theorem dX1_causes_19 : decode cX1_causes 19 = .ok (.iload_n 3, 1) := by decide +kernel
theorem dX1_causes_20 : decode cX1_causes 20 = .ok (.invokevirtual 26, 3) := by decide +kernel
theorem dX1_causes_23 : decode cX1_causes 23 = .ok (.ifCond .eq 9, 3) := by decide +kernel
theorem dX1_causes_26 : decode cX1_causes 26 = .ok (.iload_n 2, 1) := by decide +kernel
theorem dX1_causes_27 : decode cX1_causes 27 = .ok (.iconst 1, 1) := by decide +kernel
theorem dX1_causes_28 : decode cX1_causes 28 = .ok (.iload_n 3, 1) := by decide +kernel
theorem dX1_causes_29 : decode cX1_causes 29 = .ok (.ishl, 1) := by decide +kernel
theorem dX1_causes_30 : decode cX1_causes 30 = .ok (.ior, 1) := by decide +kernel
theorem dX1_causes_31 : decode cX1_causes 31 = .ok (.istore_n 2, 1) := by decide +kernel
theorem dX1_causes_32 : decode cX1_causes 32 = .ok (.iinc 3 1, 3) := by decide +kernel
theorem dX1_causes_35 : decode cX1_causes 35 = .ok (.goto (-31), 3) := by decide +kernel
theorem dX1_causes_38 : decode cX1_causes 38 = .ok (.iload_n 2, 1) := by decide +kernel
theorem dX1_causes_39 : decode cX1_causes 39 = .ok (.ireturn, 1) := by decide +kernel
theorem dX1_bestUnit_0 : decode cX1_bestUnit 0 = .ok (.aload_n 0, 1) := by decide +kernel
theorem dX1_bestUnit_1 : decode cX1_bestUnit 1 = .ok (.iload_n 1, 1) := by decide +kernel
theorem dX1_bestUnit_2 : decode cX1_bestUnit 2 = .ok (.invokevirtual 30, 3) := by decide +kernel
theorem dX1_bestUnit_5 : decode cX1_bestUnit 5 = .ok (.istore_n 2, 1) := by decide +kernel
theorem dX1_bestUnit_6 : decode cX1_bestUnit 6 = .ok (.iload_n 2, 1) := by decide +kernel
theorem dX1_bestUnit_7 : decode cX1_bestUnit 7 = .ok (.invokestatic 33, 3) := by decide +kernel
theorem dX1_bestUnit_10 : decode cX1_bestUnit 10 = .ok (.istore_n 3, 1) := by decide +kernel
theorem dX1_bestUnit_11 : decode cX1_bestUnit 11 = .ok (.bipush (-9), 2) := by decide +kernel
theorem dX1_bestUnit_13 : decode cX1_bestUnit 13 = .ok (.istore 4, 2) := by decide +kernel
theorem dX1_bestUnit_15 : decode cX1_bestUnit 15 = .ok (.bipush 8, 2) := by decide +kernel
theorem dX1_bestUnit_17 : decode cX1_bestUnit 17 = .ok (.istore 5, 2) := by decide +kernel
theorem dX1_bestUnit_19 : decode cX1_bestUnit 19 = .ok (.iconst 1, 1) := by decide +kernel
theorem dX1_bestUnit_20 : decode cX1_bestUnit 20 = .ok (.istore 6, 2) := by decide +kernel
theorem dX1_bestUnit_22 : decode cX1_bestUnit 22 = .ok (.iload 6, 2) := by decide +kernel
theorem dX1_bestUnit_24 : decode cX1_bestUnit 24 = .ok (.iload_n 1, 1) := by decide +kernel
theorem dX1_bestUnit_25 : decode cX1_bestUnit 25 = .ok (.if_icmp .ge 48, 3) := by decide +kernel
theorem dX1_bestUnit_28 : decode cX1_bestUnit 28 = .ok (.iload_n 3, 1) := by decide +kernel
theorem dX1_bestUnit_29 : decode cX1_bestUnit 29 = .ok (.iconst 1, 1) := by decide +kernel
theorem dX1_bestUnit_30 : decode cX1_bestUnit 30 = .ok (.if_icmp .le 43, 3) := by decide +kernel
theorem dX1_bestUnit_33 : decode cX1_bestUnit 33 = .ok (.iload_n 2, 1) := by decide +kernel
theorem dX1_bestUnit_34 : decode cX1_bestUnit 34 = .ok (.iload 6, 2) := by decide +kernel
theorem dX1_bestUnit_36 : decode cX1_bestUnit 36 = .ok (.invokestatic 38, 3) := by decide +kernel
theorem dX1_bestUnit_39 : decode cX1_bestUnit 39 = .ok (.istore 7, 2) := by decide +kernel
theorem dX1_bestUnit_41 : decode cX1_bestUnit 41 = .ok (.iload 7, 2) := by decide +kernel
theorem dX1_bestUnit_43 : decode cX1_bestUnit 43 = .ok (.iload_n 3, 1) := by decide +kernel
theorem dX1_bestUnit_44 : decode cX1_bestUnit 44 = .ok (.iload 7, 2) := by decide +kernel
theorem dX1_bestUnit_46 : decode cX1_bestUnit 46 = .ok (.isub, 1) := by decide +kernel
theorem dX1_bestUnit_47 : decode cX1_bestUnit 47 = .ok (.invokestatic 42, 3) := by decide +kernel
theorem dX1_bestUnit_50 : decode cX1_bestUnit 50 = .ok (.istore 8, 2) := by decide +kernel
theorem dX1_bestUnit_52 : decode cX1_bestUnit 52 = .ok (.iload 8, 2) := by decide +kernel
theorem dX1_bestUnit_54 : decode cX1_bestUnit 54 = .ok (.iload 5, 2) := by decide +kernel
theorem dX1_bestUnit_56 : decode cX1_bestUnit 56 = .ok (.if_icmp .ge 11, 3) := by decide +kernel
theorem dX1_bestUnit_59 : decode cX1_bestUnit 59 = .ok (.iload 8, 2) := by decide +kernel
theorem dX1_bestUnit_61 : decode cX1_bestUnit 61 = .ok (.istore 5, 2) := by decide +kernel
theorem dX1_bestUnit_63 : decode cX1_bestUnit 63 = .ok (.iload 6, 2) := by decide +kernel
theorem dX1_bestUnit_65 : decode cX1_bestUnit 65 = .ok (.istore 4, 2) := by decide +kernel
theorem dX1_bestUnit_67 : decode cX1_bestUnit 67 = .ok (.iinc 6 1, 3) := by decide +kernel
theorem dX1_bestUnit_70 : decode cX1_bestUnit 70 = .ok (.goto (-48), 3) := by decide +kernel
theorem dX1_bestUnit_73 : decode cX1_bestUnit 73 = .ok (.iload 4, 2) := by decide +kernel
theorem dX1_bestUnit_75 : decode cX1_bestUnit 75 = .ok (.ireturn, 1) := by decide +kernel
theorem dX1_unitOf_0 : decode cX1_unitOf 0 = .ok (.iload_n 0, 1) := by decide +kernel
theorem dX1_unitOf_1 : decode cX1_unitOf 1 = .ok (.iconst 4, 1) := by decide +kernel
theorem dX1_unitOf_2 : decode cX1_unitOf 2 = .ok (.if_icmp .ge 7, 3) := by decide +kernel
theorem dX1_unitOf_5 : decode cX1_unitOf 5 = .ok (.iload_n 0, 1) := by decide +kernel
theorem dX1_unitOf_6 : decode cX1_unitOf 6 = .ok (.goto 8, 3) := by decide +kernel
theorem dX1_unitOf_9 : decode cX1_unitOf 9 = .ok (.iload_n 0, 1) := by decide +kernel
theorem dX1_unitOf_10 : decode cX1_unitOf 10 = .ok (.iconst 4, 1) := by decide +kernel
theorem dX1_unitOf_11 : decode cX1_unitOf 11 = .ok (.isub, 1) := by decide +kernel
theorem dX1_unitOf_12 : decode cX1_unitOf 12 = .ok (.iconst 1, 1) := by decide +kernel
theorem dX1_unitOf_13 : decode cX1_unitOf 13 = .ok (.iadd, 1) := by decide +kernel
theorem dX1_unitOf_14 : decode cX1_unitOf 14 = .ok (.ireturn, 1) := by decide +kernel
theorem dX1_fitsAny_0 : decode cX1_fitsAny 0 = .ok (.bipush (-20), 2) := by decide +kernel
theorem dX1_fitsAny_2 : decode cX1_fitsAny 2 = .ok (.istore_n 2, 1) := by decide +kernel
theorem dX1_fitsAny_3 : decode cX1_fitsAny 3 = .ok (.iload_n 2, 1) := by decide +kernel
theorem dX1_fitsAny_4 : decode cX1_fitsAny 4 = .ok (.bipush 20, 2) := by decide +kernel
theorem dX1_fitsAny_6 : decode cX1_fitsAny 6 = .ok (.if_icmp .gt 24, 3) := by decide +kernel
theorem dX1_fitsAny_9 : decode cX1_fitsAny 9 = .ok (.iload_n 2, 1) := by decide +kernel
theorem dX1_fitsAny_10 : decode cX1_fitsAny 10 = .ok (.ifCond .eq 14, 3) := by decide +kernel
theorem dX1_fitsAny_13 : decode cX1_fitsAny 13 = .ok (.aload_n 0, 1) := by decide +kernel
theorem dX1_fitsAny_14 : decode cX1_fitsAny 14 = .ok (.iload_n 1, 1) := by decide +kernel
theorem dX1_fitsAny_15 : decode cX1_fitsAny 15 = .ok (.iload_n 2, 1) := by decide +kernel
theorem dX1_fitsAny_16 : decode cX1_fitsAny 16 = .ok (.invokevirtual 47, 3) := by decide +kernel
theorem dX1_fitsAny_19 : decode cX1_fitsAny 19 = .ok (.ifCond .eq 5, 3) := by decide +kernel
theorem dX1_fitsAny_22 : decode cX1_fitsAny 22 = .ok (.iconst 1, 1) := by decide +kernel
theorem dX1_fitsAny_23 : decode cX1_fitsAny 23 = .ok (.ireturn, 1) := by decide +kernel
theorem dX1_fitsAny_24 : decode cX1_fitsAny 24 = .ok (.iinc 2 1, 3) := by decide +kernel
theorem dX1_fitsAny_27 : decode cX1_fitsAny 27 = .ok (.goto (-24), 3) := by decide +kernel
theorem dX1_fitsAny_30 : decode cX1_fitsAny 30 = .ok (.iconst 0, 1) := by decide +kernel
theorem dX1_fitsAny_31 : decode cX1_fitsAny 31 = .ok (.ireturn, 1) := by decide +kernel
theorem dX1_fits_0 : decode cX1_fits 0 = .ok (.iconst 0, 1) := by decide +kernel
theorem dX1_fits_1 : decode cX1_fits 1 = .ok (.istore_n 3, 1) := by decide +kernel
theorem dX1_fits_2 : decode cX1_fits 2 = .ok (.iload_n 3, 1) := by decide +kernel
theorem dX1_fits_3 : decode cX1_fits 3 = .ok (.aload_n 0, 1) := by decide +kernel
theorem dX1_fits_4 : decode cX1_fits 4 = .ok (.getfield 18, 3) := by decide +kernel
theorem dX1_fits_7 : decode cX1_fits 7 = .ok (.if_icmp .ge 31, 3) := by decide +kernel
theorem dX1_fits_10 : decode cX1_fits 10 = .ok (.iload_n 1, 1) := by decide +kernel
theorem dX1_fits_11 : decode cX1_fits 11 = .ok (.aload_n 0, 1) := by decide +kernel
theorem dX1_fits_12 : decode cX1_fits 12 = .ok (.getfield 9, 3) := by decide +kernel
theorem dX1_fits_15 : decode cX1_fits 15 = .ok (.iload_n 3, 1) := by decide +kernel
theorem dX1_fits_16 : decode cX1_fits 16 = .ok (.iaload, 1) := by decide +kernel
theorem dX1_fits_17 : decode cX1_fits 17 = .ok (.iload_n 2, 1) := by decide +kernel
theorem dX1_fits_18 : decode cX1_fits 18 = .ok (.invokestatic 51, 3) := by decide +kernel
theorem dX1_fits_21 : decode cX1_fits 21 = .ok (.aload_n 0, 1) := by decide +kernel
theorem dX1_fits_22 : decode cX1_fits 22 = .ok (.getfield 15, 3) := by decide +kernel
theorem dX1_fits_25 : decode cX1_fits 25 = .ok (.iload_n 3, 1) := by decide +kernel
theorem dX1_fits_26 : decode cX1_fits 26 = .ok (.iaload, 1) := by decide +kernel
theorem dX1_fits_27 : decode cX1_fits 27 = .ok (.if_icmp .eq 5, 3) := by decide +kernel
theorem dX1_fits_30 : decode cX1_fits 30 = .ok (.iconst 0, 1) := by decide +kernel
theorem dX1_fits_31 : decode cX1_fits 31 = .ok (.ireturn, 1) := by decide +kernel
theorem dX1_fits_32 : decode cX1_fits 32 = .ok (.iinc 3 1, 3) := by decide +kernel
theorem dX1_fits_35 : decode cX1_fits 35 = .ok (.goto (-33), 3) := by decide +kernel
theorem dX1_fits_38 : decode cX1_fits 38 = .ok (.iconst 1, 1) := by decide +kernel
theorem dX1_fits_39 : decode cX1_fits 39 = .ok (.ireturn, 1) := by decide +kernel
theorem dX1_silentAt_0 : decode cX1_silentAt 0 = .ok (.iconst 0, 1) := by decide +kernel
theorem dX1_silentAt_1 : decode cX1_silentAt 1 = .ok (.istore_n 2, 1) := by decide +kernel
theorem dX1_silentAt_2 : decode cX1_silentAt 2 = .ok (.iconst 0, 1) := by decide +kernel
theorem dX1_silentAt_3 : decode cX1_silentAt 3 = .ok (.istore_n 3, 1) := by decide +kernel
theorem dX1_silentAt_4 : decode cX1_silentAt 4 = .ok (.iload_n 3, 1) := by decide +kernel
theorem dX1_silentAt_5 : decode cX1_silentAt 5 = .ok (.bipush 7, 2) := by decide +kernel
theorem dX1_silentAt_7 : decode cX1_silentAt 7 = .ok (.if_icmp .ge 29, 3) := by decide +kernel
theorem dX1_silentAt_10 : decode cX1_silentAt 10 = .ok (.iload_n 0, 1) := by decide +kernel
theorem dX1_silentAt_11 : decode cX1_silentAt 11 = .ok (.iconst 1, 1) := by decide +kernel
theorem dX1_silentAt_12 : decode cX1_silentAt 12 = .ok (.iload_n 3, 1) := by decide +kernel
theorem dX1_silentAt_13 : decode cX1_silentAt 13 = .ok (.ishl, 1) := by decide +kernel
theorem dX1_silentAt_14 : decode cX1_silentAt 14 = .ok (.iand, 1) := by decide +kernel
theorem dX1_silentAt_15 : decode cX1_silentAt 15 = .ok (.ifCond .eq 15, 3) := by decide +kernel
theorem dX1_silentAt_18 : decode cX1_silentAt 18 = .ok (.iload_n 3, 1) := by decide +kernel
theorem dX1_silentAt_19 : decode cX1_silentAt 19 = .ok (.iload_n 1, 1) := by decide +kernel
theorem dX1_silentAt_20 : decode cX1_silentAt 20 = .ok (.iconst 1, 1) := by decide +kernel
theorem dX1_silentAt_21 : decode cX1_silentAt 21 = .ok (.invokestatic 51, 3) := by decide +kernel
theorem dX1_silentAt_24 : decode cX1_silentAt 24 = .ok (.ifCond .ne 6, 3) := by decide +kernel
theorem dX1_silentAt_27 : decode cX1_silentAt 27 = .ok (.iinc 2 1, 3) := by decide +kernel
theorem dX1_silentAt_30 : decode cX1_silentAt 30 = .ok (.iinc 3 1, 3) := by decide +kernel
theorem dX1_silentAt_33 : decode cX1_silentAt 33 = .ok (.goto (-29), 3) := by decide +kernel
theorem dX1_silentAt_36 : decode cX1_silentAt 36 = .ok (.iload_n 2, 1) := by decide +kernel
theorem dX1_silentAt_37 : decode cX1_silentAt 37 = .ok (.ireturn, 1) := by decide +kernel
theorem dX1_effect_0 : decode cX1_effect 0 = .ok (.iload_n 0, 1) := by decide +kernel
theorem dX1_effect_1 : decode cX1_effect 1 = .ok (.ifCond .ne 7, 3) := by decide +kernel
theorem dX1_effect_4 : decode cX1_effect 4 = .ok (.iload_n 1, 1) := by decide +kernel
theorem dX1_effect_5 : decode cX1_effect 5 = .ok (.iload_n 2, 1) := by decide +kernel
theorem dX1_effect_6 : decode cX1_effect 6 = .ok (.imul, 1) := by decide +kernel
theorem dX1_effect_7 : decode cX1_effect 7 = .ok (.ireturn, 1) := by decide +kernel
theorem dX1_effect_8 : decode cX1_effect 8 = .ok (.iload_n 0, 1) := by decide +kernel
theorem dX1_effect_9 : decode cX1_effect 9 = .ok (.iconst 4, 1) := by decide +kernel
theorem dX1_effect_10 : decode cX1_effect 10 = .ok (.if_icmp .ge 16, 3) := by decide +kernel
theorem dX1_effect_13 : decode cX1_effect 13 = .ok (.iload_n 1, 1) := by decide +kernel
theorem dX1_effect_14 : decode cX1_effect 14 = .ok (.iload_n 0, 1) := by decide +kernel
theorem dX1_effect_15 : decode cX1_effect 15 = .ok (.if_icmp .ne 7, 3) := by decide +kernel
theorem dX1_effect_18 : decode cX1_effect 18 = .ok (.iconst 1, 1) := by decide +kernel
theorem dX1_effect_19 : decode cX1_effect 19 = .ok (.goto 20, 3) := by decide +kernel
theorem dX1_effect_22 : decode cX1_effect 22 = .ok (.iconst 0, 1) := by decide +kernel
theorem dX1_effect_23 : decode cX1_effect 23 = .ok (.goto 16, 3) := by decide +kernel
theorem dX1_effect_26 : decode cX1_effect 26 = .ok (.iload_n 1, 1) := by decide +kernel
theorem dX1_effect_27 : decode cX1_effect 27 = .ok (.iload_n 0, 1) := by decide +kernel
theorem dX1_effect_28 : decode cX1_effect 28 = .ok (.invokestatic 22, 3) := by decide +kernel
theorem dX1_effect_31 : decode cX1_effect 31 = .ok (.if_icmp .lt 7, 3) := by decide +kernel
theorem dX1_effect_34 : decode cX1_effect 34 = .ok (.iconst 1, 1) := by decide +kernel
theorem dX1_effect_35 : decode cX1_effect 35 = .ok (.goto 4, 3) := by decide +kernel
theorem dX1_effect_38 : decode cX1_effect 38 = .ok (.iconst 0, 1) := by decide +kernel
theorem dX1_effect_39 : decode cX1_effect 39 = .ok (.istore_n 3, 1) := by decide +kernel
theorem dX1_effect_40 : decode cX1_effect 40 = .ok (.iload_n 3, 1) := by decide +kernel
theorem dX1_effect_41 : decode cX1_effect 41 = .ok (.ifCond .eq 7, 3) := by decide +kernel
theorem dX1_effect_44 : decode cX1_effect 44 = .ok (.iload_n 2, 1) := by decide +kernel
theorem dX1_effect_45 : decode cX1_effect 45 = .ok (.goto 4, 3) := by decide +kernel
theorem dX1_effect_48 : decode cX1_effect 48 = .ok (.iconst 0, 1) := by decide +kernel
theorem dX1_effect_49 : decode cX1_effect 49 = .ok (.ireturn, 1) := by decide +kernel
theorem dX2_init_0 : decode cX2_init 0 = .ok (.aload_n 0, 1) := by decide +kernel
theorem dX2_init_1 : decode cX2_init 1 = .ok (.invokespecial 3, 3) := by decide +kernel
theorem dX2_init_4 : decode cX2_init 4 = .ok (.aload_n 0, 1) := by decide +kernel
theorem dX2_init_5 : decode cX2_init 5 = .ok (.bipush 6, 2) := by decide +kernel
theorem dX2_init_7 : decode cX2_init 7 = .ok (.anewarray 9, 3) := by decide +kernel
theorem dX2_init_10 : decode cX2_init 10 = .ok (.putfield 11, 3) := by decide +kernel
theorem dX2_init_13 : decode cX2_init 13 = .ok (.iconst 0, 1) := by decide +kernel
theorem dX2_init_14 : decode cX2_init 14 = .ok (.istore_n 1, 1) := by decide +kernel
theorem dX2_init_15 : decode cX2_init 15 = .ok (.iload_n 1, 1) := by decide +kernel
theorem dX2_init_16 : decode cX2_init 16 = .ok (.bipush 6, 2) := by decide +kernel
theorem dX2_init_18 : decode cX2_init 18 = .ok (.if_icmp .ge 22, 3) := by decide +kernel
theorem dX2_init_21 : decode cX2_init 21 = .ok (.aload_n 0, 1) := by decide +kernel
theorem dX2_init_22 : decode cX2_init 22 = .ok (.getfield 11, 3) := by decide +kernel
theorem dX2_init_25 : decode cX2_init 25 = .ok (.iload_n 1, 1) := by decide +kernel
theorem dX2_init_26 : decode cX2_init 26 = .ok (.new 9, 3) := by decide +kernel
theorem dX2_init_29 : decode cX2_init 29 = .ok (.dup, 1) := by decide +kernel
theorem dX2_init_30 : decode cX2_init 30 = .ok (.invokespecial 17, 3) := by decide +kernel
theorem dX2_init_33 : decode cX2_init 33 = .ok (.aastore, 1) := by decide +kernel
theorem dX2_init_34 : decode cX2_init 34 = .ok (.iinc 1 1, 3) := by decide +kernel
theorem dX2_init_37 : decode cX2_init 37 = .ok (.goto (-22), 3) := by decide +kernel
theorem dX2_init_40 : decode cX2_init 40 = .ok (.return_, 1) := by decide +kernel
theorem dX2_remember_0 : decode cX2_remember 0 = .ok (.aload_n 0, 1) := by decide +kernel
theorem dX2_remember_1 : decode cX2_remember 1 = .ok (.aload_n 0, 1) := by decide +kernel
theorem dX2_remember_2 : decode cX2_remember 2 = .ok (.getfield 18, 3) := by decide +kernel
theorem dX2_remember_5 : decode cX2_remember 5 = .ok (.iconst 1, 1) := by decide +kernel
theorem dX2_remember_6 : decode cX2_remember 6 = .ok (.iadd, 1) := by decide +kernel
theorem dX2_remember_7 : decode cX2_remember 7 = .ok (.bipush 6, 2) := by decide +kernel
theorem dX2_remember_9 : decode cX2_remember 9 = .ok (.if_icmp .ge 12, 3) := by decide +kernel
theorem dX2_remember_12 : decode cX2_remember 12 = .ok (.aload_n 0, 1) := by decide +kernel
theorem dX2_remember_13 : decode cX2_remember 13 = .ok (.getfield 18, 3) := by decide +kernel
theorem dX2_remember_16 : decode cX2_remember 16 = .ok (.iconst 1, 1) := by decide +kernel
theorem dX2_remember_17 : decode cX2_remember 17 = .ok (.iadd, 1) := by decide +kernel
theorem dX2_remember_18 : decode cX2_remember 18 = .ok (.goto 4, 3) := by decide +kernel
theorem dX2_remember_21 : decode cX2_remember 21 = .ok (.iconst 0, 1) := by decide +kernel
theorem dX2_remember_22 : decode cX2_remember 22 = .ok (.putfield 18, 3) := by decide +kernel
theorem dX2_remember_25 : decode cX2_remember 25 = .ok (.aload_n 0, 1) := by decide +kernel
theorem dX2_remember_26 : decode cX2_remember 26 = .ok (.getfield 11, 3) := by decide +kernel
theorem dX2_remember_29 : decode cX2_remember 29 = .ok (.aload_n 0, 1) := by decide +kernel
theorem dX2_remember_30 : decode cX2_remember 30 = .ok (.getfield 18, 3) := by decide +kernel
theorem dX2_remember_33 : decode cX2_remember 33 = .ok (.aaload, 1) := by decide +kernel
theorem dX2_remember_34 : decode cX2_remember 34 = .ok (.aload_n 1, 1) := by decide +kernel
theorem dX2_remember_35 : decode cX2_remember 35 = .ok (.invokevirtual 22, 3) := by decide +kernel
theorem dX2_remember_38 : decode cX2_remember 38 = .ok (.aload_n 0, 1) := by decide +kernel
theorem dX2_remember_39 : decode cX2_remember 39 = .ok (.aload_n 0, 1) := by decide +kernel
theorem dX2_remember_40 : decode cX2_remember 40 = .ok (.getfield 26, 3) := by decide +kernel
theorem dX2_remember_43 : decode cX2_remember 43 = .ok (.iconst 1, 1) := by decide +kernel
theorem dX2_remember_44 : decode cX2_remember 44 = .ok (.iadd, 1) := by decide +kernel
theorem dX2_remember_45 : decode cX2_remember 45 = .ok (.bipush 6, 2) := by decide +kernel
theorem dX2_remember_47 : decode cX2_remember 47 = .ok (.invokestatic 29, 3) := by decide +kernel
theorem dX2_remember_50 : decode cX2_remember 50 = .ok (.putfield 26, 3) := by decide +kernel
theorem dX2_remember_53 : decode cX2_remember 53 = .ok (.return_, 1) := by decide +kernel
theorem dX2_restore_0 : decode cX2_restore 0 = .ok (.aload_n 0, 1) := by decide +kernel
theorem dX2_restore_1 : decode cX2_restore 1 = .ok (.getfield 26, 3) := by decide +kernel
theorem dX2_restore_4 : decode cX2_restore 4 = .ok (.ifCond .le 47, 3) := by decide +kernel
theorem dX2_restore_7 : decode cX2_restore 7 = .ok (.aload_n 1, 1) := by decide +kernel
theorem dX2_restore_8 : decode cX2_restore 8 = .ok (.aload_n 0, 1) := by decide +kernel
theorem dX2_restore_9 : decode cX2_restore 9 = .ok (.getfield 11, 3) := by decide +kernel
theorem dX2_restore_12 : decode cX2_restore 12 = .ok (.aload_n 0, 1) := by decide +kernel
theorem dX2_restore_13 : decode cX2_restore 13 = .ok (.getfield 18, 3) := by decide +kernel
theorem dX2_restore_16 : decode cX2_restore 16 = .ok (.aaload, 1) := by decide +kernel
theorem dX2_restore_17 : decode cX2_restore 17 = .ok (.invokevirtual 22, 3) := by decide +kernel
theorem dX2_restore_20 : decode cX2_restore 20 = .ok (.aload_n 0, 1) := by decide +kernel
theorem dX2_restore_21 : decode cX2_restore 21 = .ok (.aload_n 0, 1) := by decide +kernel
theorem dX2_restore_22 : decode cX2_restore 22 = .ok (.getfield 18, 3) := by decide +kernel
theorem dX2_restore_25 : decode cX2_restore 25 = .ok (.ifCond .le 12, 3) := by decide +kernel
theorem dX2_restore_28 : decode cX2_restore 28 = .ok (.aload_n 0, 1) := by decide +kernel
theorem dX2_restore_29 : decode cX2_restore 29 = .ok (.getfield 18, 3) := by decide +kernel
theorem dX2_restore_32 : decode cX2_restore 32 = .ok (.iconst 1, 1) := by decide +kernel
theorem dX2_restore_33 : decode cX2_restore 33 = .ok (.isub, 1) := by decide +kernel
theorem dX2_restore_34 : decode cX2_restore 34 = .ok (.goto 4, 3) := by decide +kernel
theorem dX2_restore_37 : decode cX2_restore 37 = .ok (.iconst 5, 1) := by decide +kernel
theorem dX2_restore_38 : decode cX2_restore 38 = .ok (.putfield 18, 3) := by decide +kernel
theorem dX2_restore_41 : decode cX2_restore 41 = .ok (.aload_n 0, 1) := by decide +kernel
theorem dX2_restore_42 : decode cX2_restore 42 = .ok (.dup, 1) := by decide +kernel
theorem dX2_restore_43 : decode cX2_restore 43 = .ok (.getfield 26, 3) := by decide +kernel
theorem dX2_restore_46 : decode cX2_restore 46 = .ok (.iconst 1, 1) := by decide +kernel
theorem dX2_restore_47 : decode cX2_restore 47 = .ok (.isub, 1) := by decide +kernel
theorem dX2_restore_48 : decode cX2_restore 48 = .ok (.putfield 26, 3) := by decide +kernel
theorem dX2_restore_51 : decode cX2_restore 51 = .ok (.return_, 1) := by decide +kernel
theorem dX3_init_0 : decode cX3_init 0 = .ok (.aload_n 0, 1) := by decide +kernel
theorem dX3_init_1 : decode cX3_init 1 = .ok (.invokespecial 3, 3) := by decide +kernel
theorem dX3_init_4 : decode cX3_init 4 = .ok (.aload_n 0, 1) := by decide +kernel
theorem dX3_init_5 : decode cX3_init 5 = .ok (.iconst 4, 1) := by decide +kernel
theorem dX3_init_6 : decode cX3_init 6 = .ok (.newarray .int, 2) := by decide +kernel
theorem dX3_init_8 : decode cX3_init 8 = .ok (.putfield 9, 3) := by decide +kernel
theorem dX3_init_11 : decode cX3_init 11 = .ok (.aload_n 0, 1) := by decide +kernel
theorem dX3_init_12 : decode cX3_init 12 = .ok (.iconst 4, 1) := by decide +kernel
theorem dX3_init_13 : decode cX3_init 13 = .ok (.newarray .int, 2) := by decide +kernel
theorem dX3_init_15 : decode cX3_init 15 = .ok (.putfield 15, 3) := by decide +kernel
theorem dX3_init_18 : decode cX3_init 18 = .ok (.aload_n 0, 1) := by decide +kernel
theorem dX3_init_19 : decode cX3_init 19 = .ok (.bipush 8, 2) := by decide +kernel
theorem dX3_init_21 : decode cX3_init 21 = .ok (.newarray .int, 2) := by decide +kernel
theorem dX3_init_23 : decode cX3_init 23 = .ok (.putfield 18, 3) := by decide +kernel
theorem dX3_init_26 : decode cX3_init 26 = .ok (.aload_n 0, 1) := by decide +kernel
theorem dX3_init_27 : decode cX3_init 27 = .ok (.bipush 8, 2) := by decide +kernel
theorem dX3_init_29 : decode cX3_init 29 = .ok (.newarray .int, 2) := by decide +kernel
theorem dX3_init_31 : decode cX3_init 31 = .ok (.putfield 21, 3) := by decide +kernel
theorem dX3_init_34 : decode cX3_init 34 = .ok (.aload_n 0, 1) := by decide +kernel
theorem dX3_init_35 : decode cX3_init 35 = .ok (.invokevirtual 24, 3) := by decide +kernel
theorem dX3_init_38 : decode cX3_init 38 = .ok (.return_, 1) := by decide +kernel
theorem dX3_setAsAtFirst_0 : decode cX3_setAsAtFirst 0 = .ok (.aload_n 0, 1) := by decide +kernel
theorem dX3_setAsAtFirst_1 : decode cX3_setAsAtFirst 1 = .ok (.iconst 1, 1) := by decide +kernel
theorem dX3_setAsAtFirst_2 : decode cX3_setAsAtFirst 2 = .ok (.putfield 27, 3) := by decide +kernel
theorem dX3_setAsAtFirst_5 : decode cX3_setAsAtFirst 5 = .ok (.aload_n 0, 1) := by decide +kernel
theorem dX3_setAsAtFirst_6 : decode cX3_setAsAtFirst 6 = .ok (.iconst 0, 1) := by decide +kernel
theorem dX3_setAsAtFirst_7 : decode cX3_setAsAtFirst 7 = .ok (.putfield 31, 3) := by decide +kernel
theorem dX3_setAsAtFirst_10 : decode cX3_setAsAtFirst 10 = .ok (.aload_n 0, 1) := by decide +kernel
theorem dX3_setAsAtFirst_11 : decode cX3_setAsAtFirst 11 = .ok (.iconst 3, 1) := by decide +kernel
theorem dX3_setAsAtFirst_12 : decode cX3_setAsAtFirst 12 = .ok (.putfield 34, 3) := by decide +kernel
theorem dX3_setAsAtFirst_15 : decode cX3_setAsAtFirst 15 = .ok (.aload_n 0, 1) := by decide +kernel
theorem dX3_setAsAtFirst_16 : decode cX3_setAsAtFirst 16 = .ok (.iconst 3, 1) := by decide +kernel
theorem dX3_setAsAtFirst_17 : decode cX3_setAsAtFirst 17 = .ok (.putfield 37, 3) := by decide +kernel
theorem dX3_setAsAtFirst_20 : decode cX3_setAsAtFirst 20 = .ok (.aload_n 0, 1) := by decide +kernel
theorem dX3_setAsAtFirst_21 : decode cX3_setAsAtFirst 21 = .ok (.iconst 1, 1) := by decide +kernel
theorem dX3_setAsAtFirst_22 : decode cX3_setAsAtFirst 22 = .ok (.putfield 40, 3) := by decide +kernel
theorem dX3_setAsAtFirst_25 : decode cX3_setAsAtFirst 25 = .ok (.aload_n 0, 1) := by decide +kernel
theorem dX3_setAsAtFirst_26 : decode cX3_setAsAtFirst 26 = .ok (.iconst 5, 1) := by decide +kernel
theorem dX3_setAsAtFirst_27 : decode cX3_setAsAtFirst 27 = .ok (.putfield 43, 3) := by decide +kernel
theorem dX3_setAsAtFirst_30 : decode cX3_setAsAtFirst 30 = .ok (.return_, 1) := by decide +kernel
theorem dX3_addUnit_0 : decode cX3_addUnit 0 = .ok (.aload_n 0, 1) := by decide +kernel
theorem dX3_addUnit_1 : decode cX3_addUnit 1 = .ok (.getfield 27, 3) := by decide +kernel
theorem dX3_addUnit_4 : decode cX3_addUnit 4 = .ok (.iconst 1, 1) := by decide +kernel
theorem dX3_addUnit_5 : decode cX3_addUnit 5 = .ok (.iconst 3, 1) := by decide +kernel
theorem dX3_addUnit_6 : decode cX3_addUnit 6 = .ok (.invokestatic 46, 3) := by decide +kernel
theorem dX3_addUnit_9 : decode cX3_addUnit 9 = .ok (.ifCond .eq 45, 3) := by decide +kernel
theorem dX3_addUnit_12 : decode cX3_addUnit 12 = .ok (.aload_n 0, 1) := by decide +kernel
theorem dX3_addUnit_13 : decode cX3_addUnit 13 = .ok (.getfield 9, 3) := by decide +kernel
theorem dX3_addUnit_16 : decode cX3_addUnit 16 = .ok (.aload_n 0, 1) := by decide +kernel
theorem dX3_addUnit_17 : decode cX3_addUnit 17 = .ok (.getfield 27, 3) := by decide +kernel
theorem dX3_addUnit_20 : decode cX3_addUnit 20 = .ok (.iload_n 1, 1) := by decide +kernel
theorem dX3_addUnit_21 : decode cX3_addUnit 21 = .ok (.iastore, 1) := by decide +kernel
theorem dX3_addUnit_22 : decode cX3_addUnit 22 = .ok (.aload_n 0, 1) := by decide +kernel
theorem dX3_addUnit_23 : decode cX3_addUnit 23 = .ok (.getfield 15, 3) := by decide +kernel
theorem dX3_addUnit_26 : decode cX3_addUnit 26 = .ok (.aload_n 0, 1) := by decide +kernel
theorem dX3_addUnit_27 : decode cX3_addUnit 27 = .ok (.getfield 27, 3) := by decide +kernel
theorem dX3_addUnit_30 : decode cX3_addUnit 30 = .ok (.aload_n 0, 1) := by decide +kernel
theorem dX3_addUnit_31 : decode cX3_addUnit 31 = .ok (.getfield 15, 3) := by decide +kernel
theorem dX3_addUnit_34 : decode cX3_addUnit 34 = .ok (.aload_n 0, 1) := by decide +kernel
theorem dX3_addUnit_35 : decode cX3_addUnit 35 = .ok (.getfield 27, 3) := by decide +kernel
theorem dX3_addUnit_38 : decode cX3_addUnit 38 = .ok (.iconst 1, 1) := by decide +kernel
theorem dX3_addUnit_39 : decode cX3_addUnit 39 = .ok (.isub, 1) := by decide +kernel
theorem dX3_addUnit_40 : decode cX3_addUnit 40 = .ok (.iaload, 1) := by decide +kernel
theorem dX3_addUnit_41 : decode cX3_addUnit 41 = .ok (.iload_n 1, 1) := by decide +kernel
theorem dX3_addUnit_42 : decode cX3_addUnit 42 = .ok (.iadd, 1) := by decide +kernel
theorem dX3_addUnit_43 : decode cX3_addUnit 43 = .ok (.iastore, 1) := by decide +kernel
theorem dX3_addUnit_44 : decode cX3_addUnit 44 = .ok (.aload_n 0, 1) := by decide +kernel
theorem dX3_addUnit_45 : decode cX3_addUnit 45 = .ok (.dup, 1) := by decide +kernel
theorem dX3_addUnit_46 : decode cX3_addUnit 46 = .ok (.getfield 27, 3) := by decide +kernel
theorem dX3_addUnit_49 : decode cX3_addUnit 49 = .ok (.iconst 1, 1) := by decide +kernel
theorem dX3_addUnit_50 : decode cX3_addUnit 50 = .ok (.iadd, 1) := by decide +kernel
theorem dX3_addUnit_51 : decode cX3_addUnit 51 = .ok (.putfield 27, 3) := by decide +kernel
theorem dX3_addUnit_54 : decode cX3_addUnit 54 = .ok (.return_, 1) := by decide +kernel
theorem dX3_addReel_0 : decode cX3_addReel 0 = .ok (.aload_n 0, 1) := by decide +kernel
theorem dX3_addReel_1 : decode cX3_addReel 1 = .ok (.getfield 31, 3) := by decide +kernel
theorem dX3_addReel_4 : decode cX3_addReel 4 = .ok (.iconst 0, 1) := by decide +kernel
theorem dX3_addReel_5 : decode cX3_addReel 5 = .ok (.bipush 7, 2) := by decide +kernel
theorem dX3_addReel_7 : decode cX3_addReel 7 = .ok (.invokestatic 46, 3) := by decide +kernel
theorem dX3_addReel_10 : decode cX3_addReel 10 = .ok (.ifCond .eq 33, 3) := by decide +kernel
theorem dX3_addReel_13 : decode cX3_addReel 13 = .ok (.aload_n 0, 1) := by decide +kernel
theorem dX3_addReel_14 : decode cX3_addReel 14 = .ok (.getfield 18, 3) := by decide +kernel
theorem dX3_addReel_17 : decode cX3_addReel 17 = .ok (.aload_n 0, 1) := by decide +kernel
theorem dX3_addReel_18 : decode cX3_addReel 18 = .ok (.getfield 31, 3) := by decide +kernel
theorem dX3_addReel_21 : decode cX3_addReel 21 = .ok (.iload_n 1, 1) := by decide +kernel
theorem dX3_addReel_22 : decode cX3_addReel 22 = .ok (.iastore, 1) := by decide +kernel
theorem dX3_addReel_23 : decode cX3_addReel 23 = .ok (.aload_n 0, 1) := by decide +kernel
theorem dX3_addReel_24 : decode cX3_addReel 24 = .ok (.getfield 21, 3) := by decide +kernel
theorem dX3_addReel_27 : decode cX3_addReel 27 = .ok (.aload_n 0, 1) := by decide +kernel
theorem dX3_addReel_28 : decode cX3_addReel 28 = .ok (.getfield 31, 3) := by decide +kernel
theorem dX3_addReel_31 : decode cX3_addReel 31 = .ok (.iload_n 2, 1) := by decide +kernel
theorem dX3_addReel_32 : decode cX3_addReel 32 = .ok (.iastore, 1) := by decide +kernel
theorem dX3_addReel_33 : decode cX3_addReel 33 = .ok (.aload_n 0, 1) := by decide +kernel
theorem dX3_addReel_34 : decode cX3_addReel 34 = .ok (.dup, 1) := by decide +kernel
theorem dX3_addReel_35 : decode cX3_addReel 35 = .ok (.getfield 31, 3) := by decide +kernel
theorem dX3_addReel_38 : decode cX3_addReel 38 = .ok (.iconst 1, 1) := by decide +kernel
theorem dX3_addReel_39 : decode cX3_addReel 39 = .ok (.iadd, 1) := by decide +kernel
theorem dX3_addReel_40 : decode cX3_addReel 40 = .ok (.putfield 31, 3) := by decide +kernel
theorem dX3_addReel_43 : decode cX3_addReel 43 = .ok (.return_, 1) := by decide +kernel
theorem dX3_hasUnit_0 : decode cX3_hasUnit 0 = .ok (.iload_n 1, 1) := by decide +kernel
theorem dX3_hasUnit_1 : decode cX3_hasUnit 1 = .ok (.ifCond .lt 15, 3) := by decide +kernel
theorem dX3_hasUnit_4 : decode cX3_hasUnit 4 = .ok (.iload_n 1, 1) := by decide +kernel
theorem dX3_hasUnit_5 : decode cX3_hasUnit 5 = .ok (.aload_n 0, 1) := by decide +kernel
theorem dX3_hasUnit_6 : decode cX3_hasUnit 6 = .ok (.getfield 27, 3) := by decide +kernel
theorem dX3_hasUnit_9 : decode cX3_hasUnit 9 = .ok (.if_icmp .ge 7, 3) := by decide +kernel
theorem dX3_hasUnit_12 : decode cX3_hasUnit 12 = .ok (.iconst 1, 1) := by decide +kernel
theorem dX3_hasUnit_13 : decode cX3_hasUnit 13 = .ok (.goto 4, 3) := by decide +kernel
theorem dX3_hasUnit_16 : decode cX3_hasUnit 16 = .ok (.iconst 0, 1) := by decide +kernel
theorem dX3_hasUnit_17 : decode cX3_hasUnit 17 = .ok (.ireturn, 1) := by decide +kernel
theorem dX3_isMovable_0 : decode cX3_isMovable 0 = .ok (.iload_n 1, 1) := by decide +kernel
theorem dX3_isMovable_1 : decode cX3_isMovable 1 = .ok (.iconst 1, 1) := by decide +kernel
theorem dX3_isMovable_2 : decode cX3_isMovable 2 = .ok (.if_icmp .lt 15, 3) := by decide +kernel
theorem dX3_isMovable_5 : decode cX3_isMovable 5 = .ok (.iload_n 1, 1) := by decide +kernel
theorem dX3_isMovable_6 : decode cX3_isMovable 6 = .ok (.aload_n 0, 1) := by decide +kernel
theorem dX3_isMovable_7 : decode cX3_isMovable 7 = .ok (.getfield 27, 3) := by decide +kernel
theorem dX3_isMovable_10 : decode cX3_isMovable 10 = .ok (.if_icmp .ge 7, 3) := by decide +kernel
theorem dX3_isMovable_13 : decode cX3_isMovable 13 = .ok (.iconst 1, 1) := by decide +kernel
theorem dX3_isMovable_14 : decode cX3_isMovable 14 = .ok (.goto 4, 3) := by decide +kernel
theorem dX3_isMovable_17 : decode cX3_isMovable 17 = .ok (.iconst 0, 1) := by decide +kernel
theorem dX3_isMovable_18 : decode cX3_isMovable 18 = .ok (.ireturn, 1) := by decide +kernel
theorem dX3_hasReel_0 : decode cX3_hasReel 0 = .ok (.iload_n 1, 1) := by decide +kernel
theorem dX3_hasReel_1 : decode cX3_hasReel 1 = .ok (.ifCond .lt 15, 3) := by decide +kernel
theorem dX3_hasReel_4 : decode cX3_hasReel 4 = .ok (.iload_n 1, 1) := by decide +kernel
theorem dX3_hasReel_5 : decode cX3_hasReel 5 = .ok (.aload_n 0, 1) := by decide +kernel
theorem dX3_hasReel_6 : decode cX3_hasReel 6 = .ok (.getfield 31, 3) := by decide +kernel
theorem dX3_hasReel_9 : decode cX3_hasReel 9 = .ok (.if_icmp .ge 7, 3) := by decide +kernel
theorem dX3_hasReel_12 : decode cX3_hasReel 12 = .ok (.iconst 1, 1) := by decide +kernel
theorem dX3_hasReel_13 : decode cX3_hasReel 13 = .ok (.goto 4, 3) := by decide +kernel
theorem dX3_hasReel_16 : decode cX3_hasReel 16 = .ok (.iconst 0, 1) := by decide +kernel
theorem dX3_hasReel_17 : decode cX3_hasReel 17 = .ok (.ireturn, 1) := by decide +kernel
theorem dX3_ticksToCameraFrom_0 : decode cX3_ticksToCameraFrom 0 = .ok (.aload_n 0, 1) := by decide +kernel
theorem dX3_ticksToCameraFrom_1 : decode cX3_ticksToCameraFrom 1 = .ok (.getfield 15, 3) := by decide +kernel
theorem dX3_ticksToCameraFrom_4 : decode cX3_ticksToCameraFrom 4 = .ok (.aload_n 0, 1) := by decide +kernel
theorem dX3_ticksToCameraFrom_5 : decode cX3_ticksToCameraFrom 5 = .ok (.getfield 27, 3) := by decide +kernel
theorem dX3_ticksToCameraFrom_8 : decode cX3_ticksToCameraFrom 8 = .ok (.iconst 1, 1) := by decide +kernel
theorem dX3_ticksToCameraFrom_9 : decode cX3_ticksToCameraFrom 9 = .ok (.isub, 1) := by decide +kernel
theorem dX3_ticksToCameraFrom_10 : decode cX3_ticksToCameraFrom 10 = .ok (.iaload, 1) := by decide +kernel
theorem dX3_ticksToCameraFrom_11 : decode cX3_ticksToCameraFrom 11 = .ok (.aload_n 0, 1) := by decide +kernel
theorem dX3_ticksToCameraFrom_12 : decode cX3_ticksToCameraFrom 12 = .ok (.getfield 15, 3) := by decide +kernel
theorem dX3_ticksToCameraFrom_15 : decode cX3_ticksToCameraFrom 15 = .ok (.iload_n 1, 1) := by decide +kernel
theorem dX3_ticksToCameraFrom_16 : decode cX3_ticksToCameraFrom 16 = .ok (.iaload, 1) := by decide +kernel
theorem dX3_ticksToCameraFrom_17 : decode cX3_ticksToCameraFrom 17 = .ok (.isub, 1) := by decide +kernel
theorem dX3_ticksToCameraFrom_18 : decode cX3_ticksToCameraFrom 18 = .ok (.aload_n 0, 1) := by decide +kernel
theorem dX3_ticksToCameraFrom_19 : decode cX3_ticksToCameraFrom 19 = .ok (.getfield 34, 3) := by decide +kernel
theorem dX3_ticksToCameraFrom_22 : decode cX3_ticksToCameraFrom 22 = .ok (.iadd, 1) := by decide +kernel
theorem dX3_ticksToCameraFrom_23 : decode cX3_ticksToCameraFrom 23 = .ok (.ireturn, 1) := by decide +kernel
