theorem dX6_init_0 : decode cX6_init 0 = .ok (.aload_n 0, 1) := by decide +kernel
theorem dX6_init_1 : decode cX6_init 1 = .ok (.invokespecial 1, 3) := by decide +kernel
theorem dX6_init_4 : decode cX6_init 4 = .ok (.aload_n 0, 1) := by decide +kernel
theorem dX6_init_5 : decode cX6_init 5 = .ok (.new 7, 3) := by decide +kernel
theorem dX6_init_8 : decode cX6_init 8 = .ok (.dup, 1) := by decide +kernel
theorem dX6_init_9 : decode cX6_init 9 = .ok (.invokespecial 9, 3) := by decide +kernel
theorem dX6_init_12 : decode cX6_init 12 = .ok (.putfield 10, 3) := by decide +kernel
theorem dX6_init_15 : decode cX6_init 15 = .ok (.aload_n 0, 1) := by decide +kernel
theorem dX6_init_16 : decode cX6_init 16 = .ok (.new 16, 3) := by decide +kernel
theorem dX6_init_19 : decode cX6_init 19 = .ok (.dup, 1) := by decide +kernel
theorem dX6_init_20 : decode cX6_init 20 = .ok (.invokespecial 18, 3) := by decide +kernel
theorem dX6_init_23 : decode cX6_init 23 = .ok (.putfield 19, 3) := by decide +kernel
theorem dX6_init_26 : decode cX6_init 26 = .ok (.aload_n 0, 1) := by decide +kernel
theorem dX6_init_27 : decode cX6_init 27 = .ok (.new 16, 3) := by decide +kernel
theorem dX6_init_30 : decode cX6_init 30 = .ok (.dup, 1) := by decide +kernel
theorem dX6_init_31 : decode cX6_init 31 = .ok (.invokespecial 18, 3) := by decide +kernel
theorem dX6_init_34 : decode cX6_init 34 = .ok (.putfield 23, 3) := by decide +kernel
theorem dX6_init_37 : decode cX6_init 37 = .ok (.aload_n 0, 1) := by decide +kernel
theorem dX6_init_38 : decode cX6_init 38 = .ok (.new 26, 3) := by decide +kernel
theorem dX6_init_41 : decode cX6_init 41 = .ok (.dup, 1) := by decide +kernel
theorem dX6_init_42 : decode cX6_init 42 = .ok (.invokespecial 28, 3) := by decide +kernel
theorem dX6_init_45 : decode cX6_init 45 = .ok (.putfield 29, 3) := by decide +kernel
theorem dX6_init_48 : decode cX6_init 48 = .ok (.aload_n 0, 1) := by decide +kernel
theorem dX6_init_49 : decode cX6_init 49 = .ok (.new 26, 3) := by decide +kernel
theorem dX6_init_52 : decode cX6_init 52 = .ok (.dup, 1) := by decide +kernel
theorem dX6_init_53 : decode cX6_init 53 = .ok (.invokespecial 28, 3) := by decide +kernel
theorem dX6_init_56 : decode cX6_init 56 = .ok (.putfield 33, 3) := by decide +kernel
theorem dX6_init_59 : decode cX6_init 59 = .ok (.aload_n 0, 1) := by decide +kernel
theorem dX6_init_60 : decode cX6_init 60 = .ok (.new 36, 3) := by decide +kernel
theorem dX6_init_63 : decode cX6_init 63 = .ok (.dup, 1) := by decide +kernel
theorem dX6_init_64 : decode cX6_init 64 = .ok (.invokespecial 38, 3) := by decide +kernel
theorem dX6_init_67 : decode cX6_init 67 = .ok (.putfield 39, 3) := by decide +kernel
theorem dX6_init_70 : decode cX6_init 70 = .ok (.aload_n 0, 1) := by decide +kernel
theorem dX6_init_71 : decode cX6_init 71 = .ok (.iconst 2, 1) := by decide +kernel
theorem dX6_init_72 : decode cX6_init 72 = .ok (.anewarray 26, 3) := by decide +kernel
theorem dX6_init_75 : decode cX6_init 75 = .ok (.putfield 43, 3) := by decide +kernel
theorem dX6_init_78 : decode cX6_init 78 = .ok (.aload_n 0, 1) := by decide +kernel
theorem dX6_init_79 : decode cX6_init 79 = .ok (.iconst 2, 1) := by decide +kernel
theorem dX6_init_80 : decode cX6_init 80 = .ok (.newarray .boolean, 2) := by decide +kernel
theorem dX6_init_82 : decode cX6_init 82 = .ok (.putfield 47, 3) := by decide +kernel
theorem dX6_init_85 : decode cX6_init 85 = .ok (.aload_n 0, 1) := by decide +kernel
theorem dX6_init_86 : decode cX6_init 86 = .ok (.new 51, 3) := by decide +kernel
theorem dX6_init_89 : decode cX6_init 89 = .ok (.dup, 1) := by decide +kernel
theorem dX6_init_90 : decode cX6_init 90 = .ok (.invokespecial 53, 3) := by decide +kernel
theorem dX6_init_93 : decode cX6_init 93 = .ok (.putfield 54, 3) := by decide +kernel
theorem dX6_init_96 : decode cX6_init 96 = .ok (.iconst 0, 1) := by decide +kernel
theorem dX6_init_97 : decode cX6_init 97 = .ok (.istore_n 1, 1) := by decide +kernel
theorem dX6_init_98 : decode cX6_init 98 = .ok (.iload_n 1, 1) := by decide +kernel
theorem dX6_init_99 : decode cX6_init 99 = .ok (.iconst 2, 1) := by decide +kernel
theorem dX6_init_100 : decode cX6_init 100 = .ok (.if_icmp .ge 22, 3) := by decide +kernel
theorem dX6_init_103 : decode cX6_init 103 = .ok (.aload_n 0, 1) := by decide +kernel
theorem dX6_init_104 : decode cX6_init 104 = .ok (.getfield 43, 3) := by decide +kernel
theorem dX6_init_107 : decode cX6_init 107 = .ok (.iload_n 1, 1) := by decide +kernel
theorem dX6_init_108 : decode cX6_init 108 = .ok (.new 26, 3) := by decide +kernel
theorem dX6_init_111 : decode cX6_init 111 = .ok (.dup, 1) := by decide +kernel
theorem dX6_init_112 : decode cX6_init 112 = .ok (.invokespecial 28, 3) := by decide +kernel
theorem dX6_init_115 : decode cX6_init 115 = .ok (.aastore, 1) := by decide +kernel
theorem dX6_init_116 : decode cX6_init 116 = .ok (.iinc 1 1, 3) := by decide +kernel
theorem dX6_init_119 : decode cX6_init 119 = .ok (.goto (-21), 3) := by decide +kernel
theorem dX6_init_122 : decode cX6_init 122 = .ok (.aload_n 0, 1) := by decide +kernel
theorem dX6_init_123 : decode cX6_init 123 = .ok (.getfield 29, 3) := by decide +kernel
theorem dX6_init_126 : decode cX6_init 126 = .ok (.aload_n 0, 1) := by decide +kernel
theorem dX6_init_127 : decode cX6_init 127 = .ok (.getfield 19, 3) := by decide +kernel
theorem dX6_init_130 : decode cX6_init 130 = .ok (.invokevirtual 58, 3) := by decide +kernel
theorem dX6_init_133 : decode cX6_init 133 = .ok (.return_, 1) := by decide +kernel
theorem dX6_type_0 : decode cX6_type 0 = .ok (.iload_n 1, 1) := by decide +kernel
theorem dX6_type_1 : decode cX6_type 1 = .ok (.iconst 0, 1) := by decide +kernel
theorem dX6_type_2 : decode cX6_type 2 = .ok (.sipush 255, 3) := by decide +kernel
theorem dX6_type_5 : decode cX6_type 5 = .ok (.invokestatic 62, 3) := by decide +kernel
theorem dX6_type_8 : decode cX6_type 8 = .ok (.ifCond .ne 5, 3) := by decide +kernel
theorem dX6_type_11 : decode cX6_type 11 = .ok (.iconst (-1), 1) := by decide +kernel
theorem dX6_type_12 : decode cX6_type 12 = .ok (.ireturn, 1) := by decide +kernel
theorem dX6_type_13 : decode cX6_type 13 = .ok (.aload_n 0, 1) := by decide +kernel
theorem dX6_type_14 : decode cX6_type 14 = .ok (.getfield 10, 3) := by decide +kernel
theorem dX6_type_17 : decode cX6_type 17 = .ok (.iload_n 1, 1) := by decide +kernel
theorem dX6_type_18 : decode cX6_type 18 = .ok (.invokevirtual 66, 3) := by decide +kernel
theorem dX6_type_21 : decode cX6_type 21 = .ok (.ifCond .eq 13, 3) := by decide +kernel
theorem dX6_type_24 : decode cX6_type 24 = .ok (.aload_n 0, 1) := by decide +kernel
theorem dX6_type_25 : decode cX6_type 25 = .ok (.getfield 10, 3) := by decide +kernel
theorem dX6_type_28 : decode cX6_type 28 = .ok (.getfield 70, 3) := by decide +kernel
theorem dX6_type_31 : decode cX6_type 31 = .ok (.goto 5, 3) := by decide +kernel
theorem dX6_type_34 : decode cX6_type 34 = .ok (.bipush (-3), 2) := by decide +kernel
theorem dX6_type_36 : decode cX6_type 36 = .ok (.ireturn, 1) := by decide +kernel
theorem dX6_clear_0 : decode cX6_clear 0 = .ok (.aload_n 0, 1) := by decide +kernel
theorem dX6_clear_1 : decode cX6_clear 1 = .ok (.getfield 10, 3) := by decide +kernel
theorem dX6_clear_4 : decode cX6_clear 4 = .ok (.getfield 70, 3) := by decide +kernel
theorem dX6_clear_7 : decode cX6_clear 7 = .ok (.istore_n 1, 1) := by decide +kernel
theorem dX6_clear_8 : decode cX6_clear 8 = .ok (.aload_n 0, 1) := by decide +kernel
theorem dX6_clear_9 : decode cX6_clear 9 = .ok (.getfield 10, 3) := by decide +kernel
theorem dX6_clear_12 : decode cX6_clear 12 = .ok (.iconst 0, 1) := by decide +kernel
theorem dX6_clear_13 : decode cX6_clear 13 = .ok (.putfield 70, 3) := by decide +kernel
theorem dX6_clear_16 : decode cX6_clear 16 = .ok (.iload_n 1, 1) := by decide +kernel
theorem dX6_clear_17 : decode cX6_clear 17 = .ok (.ireturn, 1) := by decide +kernel
theorem dX6_tells_0 : decode cX6_tells 0 = .ok (.aload_n 0, 1) := by decide +kernel
theorem dX6_tells_1 : decode cX6_tells 1 = .ok (.getfield 10, 3) := by decide +kernel
theorem dX6_tells_4 : decode cX6_tells 4 = .ok (.aload_n 0, 1) := by decide +kernel
theorem dX6_tells_5 : decode cX6_tells 5 = .ok (.getfield 23, 3) := by decide +kernel
theorem dX6_tells_8 : decode cX6_tells 8 = .ok (.invokevirtual 74, 3) := by decide +kernel
theorem dX6_tells_11 : decode cX6_tells 11 = .ok (.istore_n 1, 1) := by decide +kernel
theorem dX6_tells_12 : decode cX6_tells 12 = .ok (.iload_n 1, 1) := by decide +kernel
theorem dX6_tells_13 : decode cX6_tells 13 = .ok (.ifCond .ge 5, 3) := by decide +kernel
theorem dX6_tells_16 : decode cX6_tells 16 = .ok (.iload_n 1, 1) := by decide +kernel
theorem dX6_tells_17 : decode cX6_tells 17 = .ok (.ireturn, 1) := by decide +kernel
theorem dX6_tells_18 : decode cX6_tells 18 = .ok (.aload_n 0, 1) := by decide +kernel
theorem dX6_tells_19 : decode cX6_tells 19 = .ok (.getfield 19, 3) := by decide +kernel
theorem dX6_tells_22 : decode cX6_tells 22 = .ok (.astore_n 2, 1) := by decide +kernel
theorem dX6_tells_23 : decode cX6_tells 23 = .ok (.aload_n 0, 1) := by decide +kernel
theorem dX6_tells_24 : decode cX6_tells 24 = .ok (.aload_n 0, 1) := by decide +kernel
theorem dX6_tells_25 : decode cX6_tells 25 = .ok (.getfield 23, 3) := by decide +kernel
theorem dX6_tells_28 : decode cX6_tells 28 = .ok (.putfield 19, 3) := by decide +kernel
theorem dX6_tells_31 : decode cX6_tells 31 = .ok (.aload_n 0, 1) := by decide +kernel
theorem dX6_tells_32 : decode cX6_tells 32 = .ok (.aload_n 2, 1) := by decide +kernel
theorem dX6_tells_33 : decode cX6_tells 33 = .ok (.putfield 23, 3) := by decide +kernel
theorem dX6_tells_36 : decode cX6_tells 36 = .ok (.aload_n 0, 1) := by decide +kernel
theorem dX6_tells_37 : decode cX6_tells 37 = .ok (.getfield 10, 3) := by decide +kernel
theorem dX6_tells_40 : decode cX6_tells 40 = .ok (.iconst 0, 1) := by decide +kernel
theorem dX6_tells_41 : decode cX6_tells 41 = .ok (.putfield 70, 3) := by decide +kernel
theorem dX6_tells_44 : decode cX6_tells 44 = .ok (.aload_n 0, 1) := by decide +kernel
theorem dX6_tells_45 : decode cX6_tells 45 = .ok (.getfield 29, 3) := by decide +kernel
theorem dX6_tells_48 : decode cX6_tells 48 = .ok (.aload_n 0, 1) := by decide +kernel
theorem dX6_tells_49 : decode cX6_tells 49 = .ok (.getfield 19, 3) := by decide +kernel
theorem dX6_tells_52 : decode cX6_tells 52 = .ok (.invokevirtual 58, 3) := by decide +kernel
theorem dX6_tells_55 : decode cX6_tells 55 = .ok (.aload_n 0, 1) := by decide +kernel
theorem dX6_tells_56 : decode cX6_tells 56 = .ok (.getfield 39, 3) := by decide +kernel
theorem dX6_tells_59 : decode cX6_tells 59 = .ok (.iconst 0, 1) := by decide +kernel
theorem dX6_tells_60 : decode cX6_tells 60 = .ok (.putfield 78, 3) := by decide +kernel
theorem dX6_tells_63 : decode cX6_tells 63 = .ok (.aload_n 0, 1) := by decide +kernel
theorem dX6_tells_64 : decode cX6_tells 64 = .ok (.getfield 54, 3) := by decide +kernel
theorem dX6_tells_67 : decode cX6_tells 67 = .ok (.iconst 0, 1) := by decide +kernel
theorem dX6_tells_68 : decode cX6_tells 68 = .ok (.putfield 81, 3) := by decide +kernel
theorem dX6_tells_71 : decode cX6_tells 71 = .ok (.iconst 0, 1) := by decide +kernel
theorem dX6_tells_72 : decode cX6_tells 72 = .ok (.istore_n 3, 1) := by decide +kernel
theorem dX6_tells_73 : decode cX6_tells 73 = .ok (.iload_n 3, 1) := by decide +kernel
theorem dX6_tells_74 : decode cX6_tells 74 = .ok (.iconst 2, 1) := by decide +kernel
theorem dX6_tells_75 : decode cX6_tells 75 = .ok (.if_icmp .ge 16, 3) := by decide +kernel
theorem dX6_tells_78 : decode cX6_tells 78 = .ok (.aload_n 0, 1) := by decide +kernel
theorem dX6_tells_79 : decode cX6_tells 79 = .ok (.getfield 47, 3) := by decide +kernel
theorem dX6_tells_82 : decode cX6_tells 82 = .ok (.iload_n 3, 1) := by decide +kernel
theorem dX6_tells_83 : decode cX6_tells 83 = .ok (.iconst 0, 1) := by decide +kernel
theorem dX6_tells_84 : decode cX6_tells 84 = .ok (.bastore, 1) := by decide +kernel
theorem dX6_tells_85 : decode cX6_tells 85 = .ok (.iinc 3 1, 3) := by decide +kernel
theorem dX6_tells_88 : decode cX6_tells 88 = .ok (.goto (-15), 3) := by decide +kernel
theorem dX6_tells_91 : decode cX6_tells 91 = .ok (.iload_n 1, 1) := by decide +kernel
theorem dX6_tells_92 : decode cX6_tells 92 = .ok (.ireturn, 1) := by decide +kernel
theorem dX6_ticks_0 : decode cX6_ticks 0 = .ok (.iload_n 1, 1) := by decide +kernel
theorem dX6_ticks_1 : decode cX6_ticks 1 = .ok (.iconst 1, 1) := by decide +kernel
theorem dX6_ticks_2 : decode cX6_ticks 2 = .ok (.bipush 60, 2) := by decide +kernel
theorem dX6_ticks_4 : decode cX6_ticks 4 = .ok (.invokestatic 62, 3) := by decide +kernel
theorem dX6_ticks_7 : decode cX6_ticks 7 = .ok (.ifCond .ne 5, 3) := by decide +kernel
theorem dX6_ticks_10 : decode cX6_ticks 10 = .ok (.iconst (-1), 1) := by decide +kernel
theorem dX6_ticks_11 : decode cX6_ticks 11 = .ok (.ireturn, 1) := by decide +kernel
theorem dX6_ticks_12 : decode cX6_ticks 12 = .ok (.aload_n 0, 1) := by decide +kernel
theorem dX6_ticks_13 : decode cX6_ticks 13 = .ok (.getfield 29, 3) := by decide +kernel
theorem dX6_ticks_16 : decode cX6_ticks 16 = .ok (.getfield 82, 3) := by decide +kernel
theorem dX6_ticks_19 : decode cX6_ticks 19 = .ok (.ifCond .ne 6, 3) := by decide +kernel
theorem dX6_ticks_22 : decode cX6_ticks 22 = .ok (.bipush (-2), 2) := by decide +kernel
theorem dX6_ticks_24 : decode cX6_ticks 24 = .ok (.ireturn, 1) := by decide +kernel
theorem dX6_ticks_25 : decode cX6_ticks 25 = .ok (.aload_n 0, 1) := by decide +kernel
theorem dX6_ticks_26 : decode cX6_ticks 26 = .ok (.getfield 29, 3) := by decide +kernel
theorem dX6_ticks_29 : decode cX6_ticks 29 = .ok (.getfield 86, 3) := by decide +kernel
theorem dX6_ticks_32 : decode cX6_ticks 32 = .ok (.iload_n 1, 1) := by decide +kernel
theorem dX6_ticks_33 : decode cX6_ticks 33 = .ok (.iadd, 1) := by decide +kernel
theorem dX6_ticks_34 : decode cX6_ticks 34 = .ok (.sipush 9999, 3) := by decide +kernel
theorem dX6_ticks_37 : decode cX6_ticks 37 = .ok (.if_icmp .le 6, 3) := by decide +kernel
theorem dX6_ticks_40 : decode cX6_ticks 40 = .ok (.bipush (-3), 2) := by decide +kernel
theorem dX6_ticks_42 : decode cX6_ticks 42 = .ok (.ireturn, 1) := by decide +kernel
theorem dX6_ticks_43 : decode cX6_ticks 43 = .ok (.aload_n 0, 1) := by decide +kernel
theorem dX6_ticks_44 : decode cX6_ticks 44 = .ok (.getfield 39, 3) := by decide +kernel
theorem dX6_ticks_47 : decode cX6_ticks 47 = .ok (.aload_n 0, 1) := by decide +kernel
theorem dX6_ticks_48 : decode cX6_ticks 48 = .ok (.getfield 29, 3) := by decide +kernel
theorem dX6_ticks_51 : decode cX6_ticks 51 = .ok (.invokevirtual 89, 3) := by decide +kernel
theorem dX6_ticks_54 : decode cX6_ticks 54 = .ok (.aload_n 0, 1) := by decide +kernel
theorem dX6_ticks_55 : decode cX6_ticks 55 = .ok (.getfield 29, 3) := by decide +kernel
theorem dX6_ticks_58 : decode cX6_ticks 58 = .ok (.getfield 93, 3) := by decide +kernel
theorem dX6_ticks_61 : decode cX6_ticks 61 = .ok (.istore_n 2, 1) := by decide +kernel
theorem dX6_ticks_62 : decode cX6_ticks 62 = .ok (.iconst 0, 1) := by decide +kernel
theorem dX6_ticks_63 : decode cX6_ticks 63 = .ok (.istore_n 3, 1) := by decide +kernel
theorem dX6_ticks_64 : decode cX6_ticks 64 = .ok (.iload_n 3, 1) := by decide +kernel
theorem dX6_ticks_65 : decode cX6_ticks 65 = .ok (.iload_n 1, 1) := by decide +kernel
theorem dX6_ticks_66 : decode cX6_ticks 66 = .ok (.if_icmp .ge 31, 3) := by decide +kernel
theorem dX6_ticks_69 : decode cX6_ticks 69 = .ok (.aload_n 0, 1) := by decide +kernel
theorem dX6_ticks_70 : decode cX6_ticks 70 = .ok (.getfield 29, 3) := by decide +kernel
theorem dX6_ticks_73 : decode cX6_ticks 73 = .ok (.getfield 82, 3) := by decide +kernel
theorem dX6_ticks_76 : decode cX6_ticks 76 = .ok (.ifCond .eq 21, 3) := by decide +kernel
theorem dX6_ticks_79 : decode cX6_ticks 79 = .ok (.aload_n 0, 1) := by decide +kernel
theorem dX6_ticks_80 : decode cX6_ticks 80 = .ok (.getfield 29, 3) := by decide +kernel
theorem dX6_ticks_83 : decode cX6_ticks 83 = .ok (.aload_n 0, 1) := by decide +kernel
theorem dX6_ticks_84 : decode cX6_ticks 84 = .ok (.getfield 19, 3) := by decide +kernel
theorem dX6_ticks_87 : decode cX6_ticks 87 = .ok (.invokevirtual 96, 3) := by decide +kernel
theorem dX6_ticks_90 : decode cX6_ticks 90 = .ok (.pop, 1) := by decide +kernel
theorem dX6_ticks_91 : decode cX6_ticks 91 = .ok (.iinc 3 1, 3) := by decide +kernel
theorem dX6_ticks_94 : decode cX6_ticks 94 = .ok (.goto (-30), 3) := by decide +kernel
theorem dX6_ticks_97 : decode cX6_ticks 97 = .ok (.aload_n 0, 1) := by decide +kernel
theorem dX6_ticks_98 : decode cX6_ticks 98 = .ok (.getfield 29, 3) := by decide +kernel
theorem dX6_ticks_101 : decode cX6_ticks 101 = .ok (.getfield 93, 3) := by decide +kernel
theorem dX6_ticks_104 : decode cX6_ticks 104 = .ok (.iload_n 2, 1) := by decide +kernel
theorem dX6_ticks_105 : decode cX6_ticks 105 = .ok (.isub, 1) := by decide +kernel
theorem dX6_ticks_106 : decode cX6_ticks 106 = .ok (.ireturn, 1) := by decide +kernel
theorem dX6_drifts_0 : decode cX6_drifts 0 = .ok (.aload_n 0, 1) := by decide +kernel
theorem dX6_drifts_1 : decode cX6_drifts 1 = .ok (.getfield 19, 3) := by decide +kernel
theorem dX6_drifts_4 : decode cX6_drifts 4 = .ok (.iload_n 1, 1) := by decide +kernel
theorem dX6_drifts_5 : decode cX6_drifts 5 = .ok (.invokevirtual 100, 3) := by decide +kernel
theorem dX6_drifts_8 : decode cX6_drifts 8 = .ok (.ifCond .eq 14, 3) := by decide +kernel
theorem dX6_drifts_11 : decode cX6_drifts 11 = .ok (.iload_n 2, 1) := by decide +kernel
theorem dX6_drifts_12 : decode cX6_drifts 12 = .ok (.bipush (-20), 2) := by decide +kernel
theorem dX6_drifts_14 : decode cX6_drifts 14 = .ok (.bipush 20, 2) := by decide +kernel
theorem dX6_drifts_16 : decode cX6_drifts 16 = .ok (.invokestatic 62, 3) := by decide +kernel
theorem dX6_drifts_19 : decode cX6_drifts 19 = .ok (.ifCond .ne 5, 3) := by decide +kernel
theorem dX6_drifts_22 : decode cX6_drifts 22 = .ok (.iconst (-1), 1) := by decide +kernel
theorem dX6_drifts_23 : decode cX6_drifts 23 = .ok (.ireturn, 1) := by decide +kernel
theorem dX6_drifts_24 : decode cX6_drifts 24 = .ok (.aload_n 0, 1) := by decide +kernel
theorem dX6_drifts_25 : decode cX6_drifts 25 = .ok (.getfield 29, 3) := by decide +kernel
theorem dX6_drifts_28 : decode cX6_drifts 28 = .ok (.getfield 103, 3) := by decide +kernel
theorem dX6_drifts_31 : decode cX6_drifts 31 = .ok (.iload_n 1, 1) := by decide +kernel
theorem dX6_drifts_32 : decode cX6_drifts 32 = .ok (.iaload, 1) := by decide +kernel
theorem dX6_drifts_33 : decode cX6_drifts 33 = .ok (.iload_n 2, 1) := by decide +kernel
theorem dX6_drifts_34 : decode cX6_drifts 34 = .ok (.if_icmp .ne 6, 3) := by decide +kernel
theorem dX6_drifts_37 : decode cX6_drifts 37 = .ok (.bipush (-2), 2) := by decide +kernel
theorem dX6_drifts_39 : decode cX6_drifts 39 = .ok (.ireturn, 1) := by decide +kernel
theorem dX6_drifts_40 : decode cX6_drifts 40 = .ok (.aload_n 0, 1) := by decide +kernel
theorem dX6_drifts_41 : decode cX6_drifts 41 = .ok (.getfield 39, 3) := by decide +kernel
theorem dX6_drifts_44 : decode cX6_drifts 44 = .ok (.aload_n 0, 1) := by decide +kernel
theorem dX6_drifts_45 : decode cX6_drifts 45 = .ok (.getfield 29, 3) := by decide +kernel
theorem dX6_drifts_48 : decode cX6_drifts 48 = .ok (.invokevirtual 89, 3) := by decide +kernel
theorem dX6_drifts_51 : decode cX6_drifts 51 = .ok (.aload_n 0, 1) := by decide +kernel
theorem dX6_drifts_52 : decode cX6_drifts 52 = .ok (.getfield 29, 3) := by decide +kernel
theorem dX6_drifts_55 : decode cX6_drifts 55 = .ok (.getfield 103, 3) := by decide +kernel
theorem dX6_drifts_58 : decode cX6_drifts 58 = .ok (.iload_n 1, 1) := by decide +kernel
theorem dX6_drifts_59 : decode cX6_drifts 59 = .ok (.iload_n 2, 1) := by decide +kernel
theorem dX6_drifts_60 : decode cX6_drifts 60 = .ok (.iastore, 1) := by decide +kernel
theorem dX6_drifts_61 : decode cX6_drifts 61 = .ok (.iconst 1, 1) := by decide +kernel
theorem dX6_drifts_62 : decode cX6_drifts 62 = .ok (.ireturn, 1) := by decide +kernel
theorem dX6_corrects_0 : decode cX6_corrects 0 = .ok (.aload_n 0, 1) := by decide +kernel
theorem dX6_corrects_1 : decode cX6_corrects 1 = .ok (.getfield 19, 3) := by decide +kernel
theorem dX6_corrects_4 : decode cX6_corrects 4 = .ok (.iload_n 1, 1) := by decide +kernel
theorem dX6_corrects_5 : decode cX6_corrects 5 = .ok (.invokevirtual 100, 3) := by decide +kernel
theorem dX6_corrects_8 : decode cX6_corrects 8 = .ok (.ifCond .eq 18, 3) := by decide +kernel
theorem dX6_corrects_11 : decode cX6_corrects 11 = .ok (.iload_n 2, 1) := by decide +kernel
theorem dX6_corrects_12 : decode cX6_corrects 12 = .ok (.bipush (-20), 2) := by decide +kernel
theorem dX6_corrects_14 : decode cX6_corrects 14 = .ok (.bipush 20, 2) := by decide +kernel
theorem dX6_corrects_16 : decode cX6_corrects 16 = .ok (.invokestatic 62, 3) := by decide +kernel
theorem dX6_corrects_19 : decode cX6_corrects 19 = .ok (.ifCond .eq 7, 3) := by decide +kernel
theorem dX6_corrects_22 : decode cX6_corrects 22 = .ok (.iload_n 2, 1) := by decide +kernel
theorem dX6_corrects_23 : decode cX6_corrects 23 = .ok (.ifCond .ne 5, 3) := by decide +kernel
theorem dX6_corrects_26 : decode cX6_corrects 26 = .ok (.iconst (-1), 1) := by decide +kernel
theorem dX6_corrects_27 : decode cX6_corrects 27 = .ok (.ireturn, 1) := by decide +kernel
theorem dX6_corrects_28 : decode cX6_corrects 28 = .ok (.aload_n 0, 1) := by decide +kernel
theorem dX6_corrects_29 : decode cX6_corrects 29 = .ok (.getfield 39, 3) := by decide +kernel
theorem dX6_corrects_32 : decode cX6_corrects 32 = .ok (.aload_n 0, 1) := by decide +kernel
theorem dX6_corrects_33 : decode cX6_corrects 33 = .ok (.getfield 29, 3) := by decide +kernel
theorem dX6_corrects_36 : decode cX6_corrects 36 = .ok (.invokevirtual 89, 3) := by decide +kernel
theorem dX6_corrects_39 : decode cX6_corrects 39 = .ok (.aload_n 0, 1) := by decide +kernel
theorem dX6_corrects_40 : decode cX6_corrects 40 = .ok (.getfield 29, 3) := by decide +kernel
theorem dX6_corrects_43 : decode cX6_corrects 43 = .ok (.aload_n 0, 1) := by decide +kernel
theorem dX6_corrects_44 : decode cX6_corrects 44 = .ok (.getfield 19, 3) := by decide +kernel
theorem dX6_corrects_47 : decode cX6_corrects 47 = .ok (.iload_n 1, 1) := by decide +kernel
theorem dX6_corrects_48 : decode cX6_corrects 48 = .ok (.iload_n 2, 1) := by decide +kernel
theorem dX6_corrects_49 : decode cX6_corrects 49 = .ok (.invokevirtual 107, 3) := by decide +kernel
theorem dX6_corrects_52 : decode cX6_corrects 52 = .ok (.aload_n 0, 1) := by decide +kernel
theorem dX6_corrects_53 : decode cX6_corrects 53 = .ok (.getfield 29, 3) := by decide +kernel
theorem dX6_corrects_56 : decode cX6_corrects 56 = .ok (.getfield 111, 3) := by decide +kernel
theorem dX6_corrects_59 : decode cX6_corrects 59 = .ok (.iload_n 1, 1) := by decide +kernel
theorem dX6_corrects_60 : decode cX6_corrects 60 = .ok (.iaload, 1) := by decide +kernel
theorem dX6_corrects_61 : decode cX6_corrects 61 = .ok (.ireturn, 1) := by decide +kernel
theorem dX6_spins_0 : decode cX6_spins 0 = .ok (.aload_n 0, 1) := by decide +kernel
theorem dX6_spins_1 : decode cX6_spins 1 = .ok (.getfield 29, 3) := by decide +kernel
theorem dX6_spins_4 : decode cX6_spins 4 = .ok (.aload_n 0, 1) := by decide +kernel
theorem dX6_spins_5 : decode cX6_spins 5 = .ok (.getfield 19, 3) := by decide +kernel
theorem dX6_spins_8 : decode cX6_spins 8 = .ok (.invokevirtual 114, 3) := by decide +kernel
theorem dX6_spins_11 : decode cX6_spins 11 = .ok (.istore_n 1, 1) := by decide +kernel
theorem dX6_spins_12 : decode cX6_spins 12 = .ok (.aload_n 0, 1) := by decide +kernel
theorem dX6_spins_13 : decode cX6_spins 13 = .ok (.getfield 29, 3) := by decide +kernel
theorem dX6_spins_16 : decode cX6_spins 16 = .ok (.getfield 82, 3) := by decide +kernel
theorem dX6_spins_19 : decode cX6_spins 19 = .ok (.ifCond .eq 19, 3) := by decide +kernel
theorem dX6_spins_22 : decode cX6_spins 22 = .ok (.iload_n 1, 1) := by decide +kernel
theorem dX6_spins_23 : decode cX6_spins 23 = .ok (.bipush (-9), 2) := by decide +kernel
theorem dX6_spins_25 : decode cX6_spins 25 = .ok (.if_icmp .eq 13, 3) := by decide +kernel
theorem dX6_spins_28 : decode cX6_spins 28 = .ok (.aload_n 0, 1) := by decide +kernel
theorem dX6_spins_29 : decode cX6_spins 29 = .ok (.getfield 29, 3) := by decide +kernel
theorem dX6_spins_32 : decode cX6_spins 32 = .ok (.getfield 117, 3) := by decide +kernel
theorem dX6_spins_35 : decode cX6_spins 35 = .ok (.ifCond .le 6, 3) := by decide +kernel
theorem dX6_spins_38 : decode cX6_spins 38 = .ok (.bipush (-2), 2) := by decide +kernel
theorem dX6_spins_40 : decode cX6_spins 40 = .ok (.ireturn, 1) := by decide +kernel
theorem dX6_spins_41 : decode cX6_spins 41 = .ok (.aload_n 0, 1) := by decide +kernel
theorem dX6_spins_42 : decode cX6_spins 42 = .ok (.getfield 39, 3) := by decide +kernel
theorem dX6_spins_45 : decode cX6_spins 45 = .ok (.aload_n 0, 1) := by decide +kernel
theorem dX6_spins_46 : decode cX6_spins 46 = .ok (.getfield 29, 3) := by decide +kernel
theorem dX6_spins_49 : decode cX6_spins 49 = .ok (.invokevirtual 89, 3) := by decide +kernel
theorem dX6_spins_52 : decode cX6_spins 52 = .ok (.aload_n 0, 1) := by decide +kernel
theorem dX6_spins_53 : decode cX6_spins 53 = .ok (.getfield 29, 3) := by decide +kernel
theorem dX6_spins_56 : decode cX6_spins 56 = .ok (.iconst 1, 1) := by decide +kernel
theorem dX6_spins_57 : decode cX6_spins 57 = .ok (.putfield 117, 3) := by decide +kernel
theorem dX6_spins_60 : decode cX6_spins 60 = .ok (.iload_n 1, 1) := by decide +kernel
theorem dX6_spins_61 : decode cX6_spins 61 = .ok (.ireturn, 1) := by decide +kernel
theorem dX6_starts_0 : decode cX6_starts 0 = .ok (.aload_n 0, 1) := by decide +kernel
theorem dX6_starts_1 : decode cX6_starts 1 = .ok (.getfield 29, 3) := by decide +kernel
theorem dX6_starts_4 : decode cX6_starts 4 = .ok (.getfield 82, 3) := by decide +kernel
theorem dX6_starts_7 : decode cX6_starts 7 = .ok (.ifCond .ne 19, 3) := by decide +kernel
theorem dX6_starts_10 : decode cX6_starts 10 = .ok (.aload_n 0, 1) := by decide +kernel
theorem dX6_starts_11 : decode cX6_starts 11 = .ok (.getfield 29, 3) := by decide +kernel
theorem dX6_starts_14 : decode cX6_starts 14 = .ok (.aload_n 0, 1) := by decide +kernel
theorem dX6_starts_15 : decode cX6_starts 15 = .ok (.getfield 19, 3) := by decide +kernel
theorem dX6_starts_18 : decode cX6_starts 18 = .ok (.invokevirtual 114, 3) := by decide +kernel
theorem dX6_starts_21 : decode cX6_starts 21 = .ok (.bipush (-9), 2) := by decide +kernel
theorem dX6_starts_23 : decode cX6_starts 23 = .ok (.if_icmp .ne 6, 3) := by decide +kernel
theorem dX6_starts_26 : decode cX6_starts 26 = .ok (.bipush (-2), 2) := by decide +kernel
theorem dX6_starts_28 : decode cX6_starts 28 = .ok (.ireturn, 1) := by decide +kernel
theorem dX6_starts_29 : decode cX6_starts 29 = .ok (.aload_n 0, 1) := by decide +kernel
theorem dX6_starts_30 : decode cX6_starts 30 = .ok (.getfield 39, 3) := by decide +kernel
theorem dX6_starts_33 : decode cX6_starts 33 = .ok (.aload_n 0, 1) := by decide +kernel
theorem dX6_starts_34 : decode cX6_starts 34 = .ok (.getfield 29, 3) := by decide +kernel
theorem dX6_starts_37 : decode cX6_starts 37 = .ok (.invokevirtual 89, 3) := by decide +kernel
theorem dX6_starts_40 : decode cX6_starts 40 = .ok (.aload_n 0, 1) := by decide +kernel
theorem dX6_starts_41 : decode cX6_starts 41 = .ok (.getfield 29, 3) := by decide +kernel
theorem dX6_starts_44 : decode cX6_starts 44 = .ok (.aload_n 0, 1) := by decide +kernel
theorem dX6_starts_45 : decode cX6_starts 45 = .ok (.getfield 19, 3) := by decide +kernel
theorem dX6_starts_48 : decode cX6_starts 48 = .ok (.invokevirtual 120, 3) := by decide +kernel
theorem dX6_starts_51 : decode cX6_starts 51 = .ok (.aload_n 0, 1) := by decide +kernel
theorem dX6_starts_52 : decode cX6_starts 52 = .ok (.getfield 29, 3) := by decide +kernel
theorem dX6_starts_55 : decode cX6_starts 55 = .ok (.getfield 123, 3) := by decide +kernel
theorem dX6_starts_58 : decode cX6_starts 58 = .ok (.ireturn, 1) := by decide +kernel
theorem dX6_aheads_0 : decode cX6_aheads 0 = .ok (.iload_n 1, 1) := by decide +kernel
theorem dX6_aheads_1 : decode cX6_aheads 1 = .ok (.iconst 0, 1) := by decide +kernel
theorem dX6_aheads_2 : decode cX6_aheads 2 = .ok (.iconst 1, 1) := by decide +kernel
theorem dX6_aheads_3 : decode cX6_aheads 3 = .ok (.invokestatic 62, 3) := by decide +kernel
theorem dX6_aheads_6 : decode cX6_aheads 6 = .ok (.ifCond .ne 5, 3) := by decide +kernel
theorem dX6_aheads_9 : decode cX6_aheads 9 = .ok (.iconst (-1), 1) := by decide +kernel
theorem dX6_aheads_10 : decode cX6_aheads 10 = .ok (.ireturn, 1) := by decide +kernel
theorem dX6_aheads_11 : decode cX6_aheads 11 = .ok (.aload_n 0, 1) := by decide +kernel
theorem dX6_aheads_12 : decode cX6_aheads 12 = .ok (.getfield 29, 3) := by decide +kernel
theorem dX6_aheads_15 : decode cX6_aheads 15 = .ok (.getfield 126, 3) := by decide +kernel
theorem dX6_aheads_18 : decode cX6_aheads 18 = .ok (.iload_n 1, 1) := by decide +kernel
theorem dX6_aheads_19 : decode cX6_aheads 19 = .ok (.iconst 1, 1) := by decide +kernel
theorem dX6_aheads_20 : decode cX6_aheads 20 = .ok (.if_icmp .ne 7, 3) := by decide +kernel
theorem dX6_aheads_23 : decode cX6_aheads 23 = .ok (.iconst 1, 1) := by decide +kernel
theorem dX6_aheads_24 : decode cX6_aheads 24 = .ok (.goto 4, 3) := by decide +kernel
theorem dX6_aheads_27 : decode cX6_aheads 27 = .ok (.iconst 0, 1) := by decide +kernel
theorem dX6_aheads_28 : decode cX6_aheads 28 = .ok (.if_icmp .ne 6, 3) := by decide +kernel
theorem dX6_aheads_31 : decode cX6_aheads 31 = .ok (.bipush (-2), 2) := by decide +kernel
theorem dX6_aheads_33 : decode cX6_aheads 33 = .ok (.ireturn, 1) := by decide +kernel
theorem dX6_aheads_34 : decode cX6_aheads 34 = .ok (.aload_n 0, 1) := by decide +kernel
theorem dX6_aheads_35 : decode cX6_aheads 35 = .ok (.getfield 39, 3) := by decide +kernel
theorem dX6_aheads_38 : decode cX6_aheads 38 = .ok (.aload_n 0, 1) := by decide +kernel
theorem dX6_aheads_39 : decode cX6_aheads 39 = .ok (.getfield 29, 3) := by decide +kernel
theorem dX6_aheads_42 : decode cX6_aheads 42 = .ok (.invokevirtual 89, 3) := by decide +kernel
theorem dX6_aheads_45 : decode cX6_aheads 45 = .ok (.aload_n 0, 1) := by decide +kernel
theorem dX6_aheads_46 : decode cX6_aheads 46 = .ok (.getfield 29, 3) := by decide +kernel
theorem dX6_aheads_49 : decode cX6_aheads 49 = .ok (.iload_n 1, 1) := by decide +kernel
theorem dX6_aheads_50 : decode cX6_aheads 50 = .ok (.iconst 1, 1) := by decide +kernel
theorem dX6_aheads_51 : decode cX6_aheads 51 = .ok (.if_icmp .ne 7, 3) := by decide +kernel
theorem dX6_aheads_54 : decode cX6_aheads 54 = .ok (.iconst 1, 1) := by decide +kernel
theorem dX6_aheads_55 : decode cX6_aheads 55 = .ok (.goto 4, 3) := by decide +kernel
theorem dX6_aheads_58 : decode cX6_aheads 58 = .ok (.iconst 0, 1) := by decide +kernel
theorem dX6_aheads_59 : decode cX6_aheads 59 = .ok (.putfield 126, 3) := by decide +kernel
theorem dX6_aheads_62 : decode cX6_aheads 62 = .ok (.iconst 1, 1) := by decide +kernel
theorem dX6_aheads_63 : decode cX6_aheads 63 = .ok (.ireturn, 1) := by decide +kernel
theorem dX6_undo_0 : decode cX6_undo 0 = .ok (.aload_n 0, 1) := by decide +kernel
theorem dX6_undo_1 : decode cX6_undo 1 = .ok (.getfield 39, 3) := by decide +kernel
theorem dX6_undo_4 : decode cX6_undo 4 = .ok (.getfield 78, 3) := by decide +kernel
theorem dX6_undo_7 : decode cX6_undo 7 = .ok (.ifCond .ne 6, 3) := by decide +kernel
theorem dX6_undo_10 : decode cX6_undo 10 = .ok (.bipush (-2), 2) := by decide +kernel
theorem dX6_undo_12 : decode cX6_undo 12 = .ok (.ireturn, 1) := by decide +kernel
theorem dX6_undo_13 : decode cX6_undo 13 = .ok (.aload_n 0, 1) := by decide +kernel
theorem dX6_undo_14 : decode cX6_undo 14 = .ok (.getfield 39, 3) := by decide +kernel
theorem dX6_undo_17 : decode cX6_undo 17 = .ok (.aload_n 0, 1) := by decide +kernel
theorem dX6_undo_18 : decode cX6_undo 18 = .ok (.getfield 29, 3) := by decide +kernel
theorem dX6_undo_21 : decode cX6_undo 21 = .ok (.invokevirtual 129, 3) := by decide +kernel
theorem dX6_undo_24 : decode cX6_undo 24 = .ok (.aload_n 0, 1) := by decide +kernel
theorem dX6_undo_25 : decode cX6_undo 25 = .ok (.getfield 39, 3) := by decide +kernel
theorem dX6_undo_28 : decode cX6_undo 28 = .ok (.getfield 78, 3) := by decide +kernel
theorem dX6_undo_31 : decode cX6_undo 31 = .ok (.ireturn, 1) := by decide +kernel
theorem dX6_unit_0 : decode cX6_unit 0 = .ok (.aload_n 0, 1) := by decide +kernel
theorem dX6_unit_1 : decode cX6_unit 1 = .ok (.getfield 19, 3) := by decide +kernel
theorem dX6_unit_4 : decode cX6_unit 4 = .ok (.iload_n 1, 1) := by decide +kernel
theorem dX6_unit_5 : decode cX6_unit 5 = .ok (.invokevirtual 132, 3) := by decide +kernel
theorem dX6_unit_8 : decode cX6_unit 8 = .ok (.ifCond .ne 6, 3) := by decide +kernel
theorem dX6_unit_11 : decode cX6_unit 11 = .ok (.ldc 135, 2) := by decide +kernel
theorem dX6_unit_13 : decode cX6_unit 13 = .ok (.ireturn, 1) := by decide +kernel
theorem dX6_unit_14 : decode cX6_unit 14 = .ok (.iload_n 2, 1) := by decide +kernel
theorem dX6_unit_15 : decode cX6_unit 15 = .ok (.tableswitch 96 0 5 #[37, 47, 57, 67, 77, 87], 37) := by decide +kernel
theorem dX6_unit_52 : decode cX6_unit 52 = .ok (.aload_n 0, 1) := by decide +kernel
theorem dX6_unit_53 : decode cX6_unit 53 = .ok (.getfield 19, 3) := by decide +kernel
theorem dX6_unit_56 : decode cX6_unit 56 = .ok (.getfield 136, 3) := by decide +kernel
theorem dX6_unit_59 : decode cX6_unit 59 = .ok (.iload_n 1, 1) := by decide +kernel
theorem dX6_unit_60 : decode cX6_unit 60 = .ok (.iaload, 1) := by decide +kernel
theorem dX6_unit_61 : decode cX6_unit 61 = .ok (.ireturn, 1) := by decide +kernel
theorem dX6_unit_62 : decode cX6_unit 62 = .ok (.aload_n 0, 1) := by decide +kernel
theorem dX6_unit_63 : decode cX6_unit 63 = .ok (.getfield 19, 3) := by decide +kernel
theorem dX6_unit_66 : decode cX6_unit 66 = .ok (.getfield 139, 3) := by decide +kernel
theorem dX6_unit_69 : decode cX6_unit 69 = .ok (.iload_n 1, 1) := by decide +kernel
theorem dX6_unit_70 : decode cX6_unit 70 = .ok (.iaload, 1) := by decide +kernel
theorem dX6_unit_71 : decode cX6_unit 71 = .ok (.ireturn, 1) := by decide +kernel
theorem dX6_unit_72 : decode cX6_unit 72 = .ok (.aload_n 0, 1) := by decide +kernel
theorem dX6_unit_73 : decode cX6_unit 73 = .ok (.getfield 29, 3) := by decide +kernel
theorem dX6_unit_76 : decode cX6_unit 76 = .ok (.getfield 103, 3) := by decide +kernel
theorem dX6_unit_79 : decode cX6_unit 79 = .ok (.iload_n 1, 1) := by decide +kernel
theorem dX6_unit_80 : decode cX6_unit 80 = .ok (.iaload, 1) := by decide +kernel
theorem dX6_unit_81 : decode cX6_unit 81 = .ok (.ireturn, 1) := by decide +kernel
theorem dX6_unit_82 : decode cX6_unit 82 = .ok (.aload_n 0, 1) := by decide +kernel
theorem dX6_unit_83 : decode cX6_unit 83 = .ok (.getfield 29, 3) := by decide +kernel
theorem dX6_unit_86 : decode cX6_unit 86 = .ok (.getfield 142, 3) := by decide +kernel
theorem dX6_unit_89 : decode cX6_unit 89 = .ok (.iload_n 1, 1) := by decide +kernel
theorem dX6_unit_90 : decode cX6_unit 90 = .ok (.iaload, 1) := by decide +kernel
theorem dX6_unit_91 : decode cX6_unit 91 = .ok (.ireturn, 1) := by decide +kernel
theorem dX6_unit_92 : decode cX6_unit 92 = .ok (.aload_n 0, 1) := by decide +kernel
theorem dX6_unit_93 : decode cX6_unit 93 = .ok (.getfield 29, 3) := by decide +kernel
theorem dX6_unit_96 : decode cX6_unit 96 = .ok (.getfield 111, 3) := by decide +kernel
theorem dX6_unit_99 : decode cX6_unit 99 = .ok (.iload_n 1, 1) := by decide +kernel
theorem dX6_unit_100 : decode cX6_unit 100 = .ok (.iaload, 1) := by decide +kernel
theorem dX6_unit_101 : decode cX6_unit 101 = .ok (.ireturn, 1) := by decide +kernel
theorem dX6_unit_102 : decode cX6_unit 102 = .ok (.aload_n 0, 1) := by decide +kernel
theorem dX6_unit_103 : decode cX6_unit 103 = .ok (.getfield 29, 3) := by decide +kernel
theorem dX6_unit_106 : decode cX6_unit 106 = .ok (.iload_n 1, 1) := by decide +kernel
theorem dX6_unit_107 : decode cX6_unit 107 = .ok (.invokevirtual 145, 3) := by decide +kernel
theorem dX6_unit_110 : decode cX6_unit 110 = .ok (.ireturn, 1) := by decide +kernel
theorem dX6_unit_111 : decode cX6_unit 111 = .ok (.ldc 135, 2) := by decide +kernel
theorem dX6_unit_113 : decode cX6_unit 113 = .ok (.ireturn, 1) := by decide +kernel
theorem dX6_reel_0 : decode cX6_reel 0 = .ok (.aload_n 0, 1) := by decide +kernel
theorem dX6_reel_1 : decode cX6_reel 1 = .ok (.getfield 19, 3) := by decide +kernel
theorem dX6_reel_4 : decode cX6_reel 4 = .ok (.iload_n 1, 1) := by decide +kernel
theorem dX6_reel_5 : decode cX6_reel 5 = .ok (.invokevirtual 149, 3) := by decide +kernel
theorem dX6_reel_8 : decode cX6_reel 8 = .ok (.ifCond .ne 6, 3) := by decide +kernel
theorem dX6_reel_11 : decode cX6_reel 11 = .ok (.ldc 135, 2) := by decide +kernel
theorem dX6_reel_13 : decode cX6_reel 13 = .ok (.ireturn, 1) := by decide +kernel
theorem dX6_reel_14 : decode cX6_reel 14 = .ok (.iload_n 2, 1) := by decide +kernel
theorem dX6_reel_15 : decode cX6_reel 15 = .ok (.tableswitch 58 0 2 #[25, 35, 45], 25) := by decide +kernel
theorem dX6_reel_40 : decode cX6_reel 40 = .ok (.aload_n 0, 1) := by decide +kernel
theorem dX6_reel_41 : decode cX6_reel 41 = .ok (.getfield 19, 3) := by decide +kernel
theorem dX6_reel_44 : decode cX6_reel 44 = .ok (.getfield 152, 3) := by decide +kernel
theorem dX6_reel_47 : decode cX6_reel 47 = .ok (.iload_n 1, 1) := by decide +kernel
theorem dX6_reel_48 : decode cX6_reel 48 = .ok (.iaload, 1) := by decide +kernel
theorem dX6_reel_49 : decode cX6_reel 49 = .ok (.ireturn, 1) := by decide +kernel
theorem dX6_reel_50 : decode cX6_reel 50 = .ok (.aload_n 0, 1) := by decide +kernel
theorem dX6_reel_51 : decode cX6_reel 51 = .ok (.getfield 19, 3) := by decide +kernel
theorem dX6_reel_54 : decode cX6_reel 54 = .ok (.getfield 155, 3) := by decide +kernel
theorem dX6_reel_57 : decode cX6_reel 57 = .ok (.iload_n 1, 1) := by decide +kernel
theorem dX6_reel_58 : decode cX6_reel 58 = .ok (.iaload, 1) := by decide +kernel
theorem dX6_reel_59 : decode cX6_reel 59 = .ok (.ireturn, 1) := by decide +kernel
theorem dX6_reel_60 : decode cX6_reel 60 = .ok (.aload_n 0, 1) := by decide +kernel
theorem dX6_reel_61 : decode cX6_reel 61 = .ok (.getfield 29, 3) := by decide +kernel
theorem dX6_reel_64 : decode cX6_reel 64 = .ok (.aload_n 0, 1) := by decide +kernel
theorem dX6_reel_65 : decode cX6_reel 65 = .ok (.getfield 19, 3) := by decide +kernel
theorem dX6_reel_68 : decode cX6_reel 68 = .ok (.iload_n 1, 1) := by decide +kernel
theorem dX6_reel_69 : decode cX6_reel 69 = .ok (.invokevirtual 158, 3) := by decide +kernel
theorem dX6_reel_72 : decode cX6_reel 72 = .ok (.ireturn, 1) := by decide +kernel
theorem dX6_reel_73 : decode cX6_reel 73 = .ok (.ldc 135, 2) := by decide +kernel
theorem dX6_reel_75 : decode cX6_reel 75 = .ok (.ireturn, 1) := by decide +kernel
theorem dX6_last_0 : decode cX6_last 0 = .ok (.iload_n 1, 1) := by decide +kernel
theorem dX6_last_1 : decode cX6_last 1 = .ok (.iconst 0, 1) := by decide +kernel
theorem dX6_last_2 : decode cX6_last 2 = .ok (.bipush 6, 2) := by decide +kernel
theorem dX6_last_4 : decode cX6_last 4 = .ok (.invokestatic 62, 3) := by decide +kernel
theorem dX6_last_7 : decode cX6_last 7 = .ok (.ifCond .ne 6, 3) := by decide +kernel
theorem dX6_last_10 : decode cX6_last 10 = .ok (.ldc 135, 2) := by decide +kernel
theorem dX6_last_12 : decode cX6_last 12 = .ok (.ireturn, 1) := by decide +kernel
theorem dX6_last_13 : decode cX6_last 13 = .ok (.aload_n 0, 1) := by decide +kernel
theorem dX6_last_14 : decode cX6_last 14 = .ok (.getfield 29, 3) := by decide +kernel
theorem dX6_last_17 : decode cX6_last 17 = .ok (.getfield 162, 3) := by decide +kernel
theorem dX6_last_20 : decode cX6_last 20 = .ok (.astore_n 2, 1) := by decide +kernel
theorem dX6_last_21 : decode cX6_last 21 = .ok (.aload_n 2, 1) := by decide +kernel
theorem dX6_last_22 : decode cX6_last 22 = .ok (.getfield 166, 3) := by decide +kernel
theorem dX6_last_25 : decode cX6_last 25 = .ok (.ifCond .ne 6, 3) := by decide +kernel
theorem dX6_last_28 : decode cX6_last 28 = .ok (.ldc 171, 2) := by decide +kernel
theorem dX6_last_30 : decode cX6_last 30 = .ok (.ireturn, 1) := by decide +kernel
theorem dX6_last_31 : decode cX6_last 31 = .ok (.iload_n 1, 1) := by decide +kernel
theorem dX6_last_32 : decode cX6_last 32 = .ok (.tableswitch 59 0 2 #[28, 33, 46], 28) := by decide +kernel
theorem dX6_last_60 : decode cX6_last 60 = .ok (.aload_n 2, 1) := by decide +kernel
theorem dX6_last_61 : decode cX6_last 61 = .ok (.getfield 172, 3) := by decide +kernel
theorem dX6_last_64 : decode cX6_last 64 = .ok (.ireturn, 1) := by decide +kernel
theorem dX6_last_65 : decode cX6_last 65 = .ok (.aload_n 2, 1) := by decide +kernel
theorem dX6_last_66 : decode cX6_last 66 = .ok (.getfield 175, 3) := by decide +kernel
theorem dX6_last_69 : decode cX6_last 69 = .ok (.ifCond .eq 7, 3) := by decide +kernel
theorem dX6_last_72 : decode cX6_last 72 = .ok (.iconst 1, 1) := by decide +kernel
theorem dX6_last_73 : decode cX6_last 73 = .ok (.goto 4, 3) := by decide +kernel
theorem dX6_last_76 : decode cX6_last 76 = .ok (.iconst 0, 1) := by decide +kernel
theorem dX6_last_77 : decode cX6_last 77 = .ok (.ireturn, 1) := by decide +kernel
theorem dX6_last_78 : decode cX6_last 78 = .ok (.aload_n 2, 1) := by decide +kernel
theorem dX6_last_79 : decode cX6_last 79 = .ok (.getfield 178, 3) := by decide +kernel
theorem dX6_last_82 : decode cX6_last 82 = .ok (.ifCond .eq 7, 3) := by decide +kernel
theorem dX6_last_85 : decode cX6_last 85 = .ok (.iconst 1, 1) := by decide +kernel
theorem dX6_last_86 : decode cX6_last 86 = .ok (.goto 4, 3) := by decide +kernel
theorem dX6_last_89 : decode cX6_last 89 = .ok (.iconst 0, 1) := by decide +kernel
theorem dX6_last_90 : decode cX6_last 90 = .ok (.ireturn, 1) := by decide +kernel
theorem dX6_last_91 : decode cX6_last 91 = .ok (.aload_n 2, 1) := by decide +kernel
theorem dX6_last_92 : decode cX6_last 92 = .ok (.getfield 181, 3) := by decide +kernel
theorem dX6_last_95 : decode cX6_last 95 = .ok (.iload_n 1, 1) := by decide +kernel
theorem dX6_last_96 : decode cX6_last 96 = .ok (.iconst 3, 1) := by decide +kernel
theorem dX6_last_97 : decode cX6_last 97 = .ok (.isub, 1) := by decide +kernel
theorem dX6_last_98 : decode cX6_last 98 = .ok (.iaload, 1) := by decide +kernel
theorem dX6_last_99 : decode cX6_last 99 = .ok (.ireturn, 1) := by decide +kernel
theorem dX6_error_0 : decode cX6_error 0 = .ok (.aload_n 0, 1) := by decide +kernel
theorem dX6_error_1 : decode cX6_error 1 = .ok (.getfield 19, 3) := by decide +kernel
theorem dX6_error_4 : decode cX6_error 4 = .ok (.iload_n 1, 1) := by decide +kernel
theorem dX6_error_5 : decode cX6_error 5 = .ok (.invokevirtual 132, 3) := by decide +kernel
theorem dX6_error_8 : decode cX6_error 8 = .ok (.ifCond .eq 7, 3) := by decide +kernel
theorem dX6_error_11 : decode cX6_error 11 = .ok (.iload_n 2, 1) := by decide +kernel
theorem dX6_error_12 : decode cX6_error 12 = .ok (.ifCond .ge 6, 3) := by decide +kernel
theorem dX6_error_15 : decode cX6_error 15 = .ok (.ldc 135, 2) := by decide +kernel
theorem dX6_error_17 : decode cX6_error 17 = .ok (.ireturn, 1) := by decide +kernel
theorem dX6_error_18 : decode cX6_error 18 = .ok (.aload_n 0, 1) := by decide +kernel
theorem dX6_error_19 : decode cX6_error 19 = .ok (.getfield 29, 3) := by decide +kernel
theorem dX6_error_22 : decode cX6_error 22 = .ok (.getfield 162, 3) := by decide +kernel
theorem dX6_error_25 : decode cX6_error 25 = .ok (.astore_n 3, 1) := by decide +kernel
theorem dX6_error_26 : decode cX6_error 26 = .ok (.iload_n 2, 1) := by decide +kernel
theorem dX6_error_27 : decode cX6_error 27 = .ok (.aload_n 3, 1) := by decide +kernel
theorem dX6_error_28 : decode cX6_error 28 = .ok (.getfield 184, 3) := by decide +kernel
theorem dX6_error_31 : decode cX6_error 31 = .ok (.if_icmp .ge 16, 3) := by decide +kernel
theorem dX6_error_34 : decode cX6_error 34 = .ok (.iload_n 2, 1) := by decide +kernel
theorem dX6_error_35 : decode cX6_error 35 = .ok (.aload_n 0, 1) := by decide +kernel
theorem dX6_error_36 : decode cX6_error 36 = .ok (.getfield 19, 3) := by decide +kernel
theorem dX6_error_39 : decode cX6_error 39 = .ok (.getfield 139, 3) := by decide +kernel
theorem dX6_error_42 : decode cX6_error 42 = .ok (.iload_n 1, 1) := by decide +kernel
theorem dX6_error_43 : decode cX6_error 43 = .ok (.iaload, 1) := by decide +kernel
theorem dX6_error_44 : decode cX6_error 44 = .ok (.if_icmp .ge 6, 3) := by decide +kernel
theorem dX6_error_47 : decode cX6_error 47 = .ok (.ldc 171, 2) := by decide +kernel
theorem dX6_error_49 : decode cX6_error 49 = .ok (.ireturn, 1) := by decide +kernel
theorem dX6_error_50 : decode cX6_error 50 = .ok (.aload_n 3, 1) := by decide +kernel
theorem dX6_error_51 : decode cX6_error 51 = .ok (.iload_n 2, 1) := by decide +kernel
theorem dX6_error_52 : decode cX6_error 52 = .ok (.iload_n 1, 1) := by decide +kernel
theorem dX6_error_53 : decode cX6_error 53 = .ok (.invokevirtual 187, 3) := by decide +kernel
theorem dX6_error_56 : decode cX6_error 56 = .ok (.ireturn, 1) := by decide +kernel
theorem dX6_steady_0 : decode cX6_steady 0 = .ok (.aload_n 0, 1) := by decide +kernel
theorem dX6_steady_1 : decode cX6_steady 1 = .ok (.getfield 29, 3) := by decide +kernel
theorem dX6_steady_4 : decode cX6_steady 4 = .ok (.getfield 82, 3) := by decide +kernel
theorem dX6_steady_7 : decode cX6_steady 7 = .ok (.ifCond .eq 15, 3) := by decide +kernel
theorem dX6_steady_10 : decode cX6_steady 10 = .ok (.aload_n 0, 1) := by decide +kernel
theorem dX6_steady_11 : decode cX6_steady 11 = .ok (.getfield 29, 3) := by decide +kernel
theorem dX6_steady_14 : decode cX6_steady 14 = .ok (.getfield 123, 3) := by decide +kernel
theorem dX6_steady_17 : decode cX6_steady 17 = .ok (.bipush (-9), 2) := by decide +kernel
theorem dX6_steady_19 : decode cX6_steady 19 = .ok (.if_icmp .ne 6, 3) := by decide +kernel
theorem dX6_steady_22 : decode cX6_steady 22 = .ok (.bipush (-9), 2) := by decide +kernel
theorem dX6_steady_24 : decode cX6_steady 24 = .ok (.ireturn, 1) := by decide +kernel
theorem dX6_steady_25 : decode cX6_steady 25 = .ok (.aload_n 0, 1) := by decide +kernel
theorem dX6_steady_26 : decode cX6_steady 26 = .ok (.getfield 33, 3) := by decide +kernel
theorem dX6_steady_29 : decode cX6_steady 29 = .ok (.aload_n 0, 1) := by decide +kernel
theorem dX6_steady_30 : decode cX6_steady 30 = .ok (.getfield 29, 3) := by decide +kernel
theorem dX6_steady_33 : decode cX6_steady 33 = .ok (.invokevirtual 191, 3) := by decide +kernel
theorem dX6_steady_36 : decode cX6_steady 36 = .ok (.aload_n 0, 1) := by decide +kernel
theorem dX6_steady_37 : decode cX6_steady 37 = .ok (.getfield 33, 3) := by decide +kernel
theorem dX6_steady_40 : decode cX6_steady 40 = .ok (.sipush 1000, 3) := by decide +kernel
theorem dX6_steady_43 : decode cX6_steady 43 = .ok (.putfield 194, 3) := by decide +kernel
theorem dX6_steady_46 : decode cX6_steady 46 = .ok (.iconst 0, 1) := by decide +kernel
theorem dX6_steady_47 : decode cX6_steady 47 = .ok (.istore_n 1, 1) := by decide +kernel
theorem dX6_steady_48 : decode cX6_steady 48 = .ok (.iconst 1, 1) := by decide +kernel
theorem dX6_steady_49 : decode cX6_steady 49 = .ok (.istore_n 2, 1) := by decide +kernel
theorem dX6_steady_50 : decode cX6_steady 50 = .ok (.iload_n 2, 1) := by decide +kernel
theorem dX6_steady_51 : decode cX6_steady 51 = .ok (.sipush 300, 3) := by decide +kernel
theorem dX6_steady_54 : decode cX6_steady 54 = .ok (.if_icmp .gt 45, 3) := by decide +kernel
theorem dX6_steady_57 : decode cX6_steady 57 = .ok (.aload_n 0, 1) := by decide +kernel
theorem dX6_steady_58 : decode cX6_steady 58 = .ok (.getfield 33, 3) := by decide +kernel
theorem dX6_steady_61 : decode cX6_steady 61 = .ok (.aload_n 0, 1) := by decide +kernel
theorem dX6_steady_62 : decode cX6_steady 62 = .ok (.getfield 19, 3) := by decide +kernel
theorem dX6_steady_65 : decode cX6_steady 65 = .ok (.invokevirtual 96, 3) := by decide +kernel
theorem dX6_steady_68 : decode cX6_steady 68 = .ok (.ifCond .eq 25, 3) := by decide +kernel
theorem dX6_steady_71 : decode cX6_steady 71 = .ok (.aload_n 0, 1) := by decide +kernel
theorem dX6_steady_72 : decode cX6_steady 72 = .ok (.getfield 33, 3) := by decide +kernel
theorem dX6_steady_75 : decode cX6_steady 75 = .ok (.getfield 162, 3) := by decide +kernel
theorem dX6_steady_78 : decode cX6_steady 78 = .ok (.aload_n 0, 1) := by decide +kernel
theorem dX6_steady_79 : decode cX6_steady 79 = .ok (.getfield 19, 3) := by decide +kernel
theorem dX6_steady_82 : decode cX6_steady 82 = .ok (.getfield 197, 3) := by decide +kernel
theorem dX6_steady_85 : decode cX6_steady 85 = .ok (.invokevirtual 200, 3) := by decide +kernel
theorem dX6_steady_88 : decode cX6_steady 88 = .ok (.ifCond .eq 5, 3) := by decide +kernel
theorem dX6_steady_91 : decode cX6_steady 91 = .ok (.iload_n 2, 1) := by decide +kernel
theorem dX6_steady_92 : decode cX6_steady 92 = .ok (.istore_n 1, 1) := by decide +kernel
theorem dX6_steady_93 : decode cX6_steady 93 = .ok (.iinc 2 1, 3) := by decide +kernel
theorem dX6_steady_96 : decode cX6_steady 96 = .ok (.goto (-46), 3) := by decide +kernel
theorem dX6_steady_99 : decode cX6_steady 99 = .ok (.iload_n 1, 1) := by decide +kernel
theorem dX6_steady_100 : decode cX6_steady 100 = .ok (.sipush 200, 3) := by decide +kernel
theorem dX6_steady_103 : decode cX6_steady 103 = .ok (.if_icmp .gt 7, 3) := by decide +kernel
theorem dX6_steady_106 : decode cX6_steady 106 = .ok (.iload_n 1, 1) := by decide +kernel
theorem dX6_steady_107 : decode cX6_steady 107 = .ok (.goto 5, 3) := by decide +kernel
theorem dX6_steady_110 : decode cX6_steady 110 = .ok (.bipush (-9), 2) := by decide +kernel
theorem dX6_steady_112 : decode cX6_steady 112 = .ok (.ireturn, 1) := by decide +kernel
theorem dX6_cost_0 : decode cX6_cost 0 = .ok (.aload_n 0, 1) := by decide +kernel
theorem dX6_cost_1 : decode cX6_cost 1 = .ok (.getfield 29, 3) := by decide +kernel
theorem dX6_cost_4 : decode cX6_cost 4 = .ok (.getfield 82, 3) := by decide +kernel
theorem dX6_cost_7 : decode cX6_cost 7 = .ok (.ifCond .eq 19, 3) := by decide +kernel
theorem dX6_cost_10 : decode cX6_cost 10 = .ok (.aload_n 0, 1) := by decide +kernel
theorem dX6_cost_11 : decode cX6_cost 11 = .ok (.getfield 29, 3) := by decide +kernel
theorem dX6_cost_14 : decode cX6_cost 14 = .ok (.aload_n 0, 1) := by decide +kernel
theorem dX6_cost_15 : decode cX6_cost 15 = .ok (.getfield 19, 3) := by decide +kernel
theorem dX6_cost_18 : decode cX6_cost 18 = .ok (.invokevirtual 114, 3) := by decide +kernel
theorem dX6_cost_21 : decode cX6_cost 21 = .ok (.bipush (-9), 2) := by decide +kernel
theorem dX6_cost_23 : decode cX6_cost 23 = .ok (.if_icmp .ne 6, 3) := by decide +kernel
theorem dX6_cost_26 : decode cX6_cost 26 = .ok (.ldc 171, 2) := by decide +kernel
theorem dX6_cost_28 : decode cX6_cost 28 = .ok (.ireturn, 1) := by decide +kernel
theorem dX6_cost_29 : decode cX6_cost 29 = .ok (.aload_n 0, 1) := by decide +kernel
theorem dX6_cost_30 : decode cX6_cost 30 = .ok (.getfield 33, 3) := by decide +kernel
theorem dX6_cost_33 : decode cX6_cost 33 = .ok (.aload_n 0, 1) := by decide +kernel
theorem dX6_cost_34 : decode cX6_cost 34 = .ok (.getfield 29, 3) := by decide +kernel
theorem dX6_cost_37 : decode cX6_cost 37 = .ok (.invokevirtual 191, 3) := by decide +kernel
theorem dX6_cost_40 : decode cX6_cost 40 = .ok (.aload_n 0, 1) := by decide +kernel
theorem dX6_cost_41 : decode cX6_cost 41 = .ok (.getfield 33, 3) := by decide +kernel
theorem dX6_cost_44 : decode cX6_cost 44 = .ok (.sipush 1000, 3) := by decide +kernel
theorem dX6_cost_47 : decode cX6_cost 47 = .ok (.putfield 194, 3) := by decide +kernel
theorem dX6_cost_50 : decode cX6_cost 50 = .ok (.aload_n 0, 1) := by decide +kernel
theorem dX6_cost_51 : decode cX6_cost 51 = .ok (.getfield 33, 3) := by decide +kernel
theorem dX6_cost_54 : decode cX6_cost 54 = .ok (.aload_n 0, 1) := by decide +kernel
theorem dX6_cost_55 : decode cX6_cost 55 = .ok (.getfield 19, 3) := by decide +kernel
theorem dX6_cost_58 : decode cX6_cost 58 = .ok (.sipush 200, 3) := by decide +kernel
theorem dX6_cost_61 : decode cX6_cost 61 = .ok (.invokevirtual 203, 3) := by decide +kernel
theorem dX6_cost_64 : decode cX6_cost 64 = .ok (.aload_n 0, 1) := by decide +kernel
theorem dX6_cost_65 : decode cX6_cost 65 = .ok (.getfield 33, 3) := by decide +kernel
theorem dX6_cost_68 : decode cX6_cost 68 = .ok (.getfield 207, 3) := by decide +kernel
theorem dX6_cost_71 : decode cX6_cost 71 = .ok (.istore_n 1, 1) := by decide +kernel
theorem dX6_cost_72 : decode cX6_cost 72 = .ok (.aload_n 0, 1) := by decide +kernel
theorem dX6_cost_73 : decode cX6_cost 73 = .ok (.getfield 33, 3) := by decide +kernel
theorem dX6_cost_76 : decode cX6_cost 76 = .ok (.aload_n 0, 1) := by decide +kernel
theorem dX6_cost_77 : decode cX6_cost 77 = .ok (.getfield 29, 3) := by decide +kernel
theorem dX6_cost_80 : decode cX6_cost 80 = .ok (.invokevirtual 191, 3) := by decide +kernel
theorem dX6_cost_83 : decode cX6_cost 83 = .ok (.aload_n 0, 1) := by decide +kernel
theorem dX6_cost_84 : decode cX6_cost 84 = .ok (.getfield 33, 3) := by decide +kernel
theorem dX6_cost_87 : decode cX6_cost 87 = .ok (.aload_n 0, 1) := by decide +kernel
theorem dX6_cost_88 : decode cX6_cost 88 = .ok (.getfield 19, 3) := by decide +kernel
theorem dX6_cost_91 : decode cX6_cost 91 = .ok (.invokevirtual 210, 3) := by decide +kernel
theorem dX6_cost_94 : decode cX6_cost 94 = .ok (.aload_n 0, 1) := by decide +kernel
theorem dX6_cost_95 : decode cX6_cost 95 = .ok (.getfield 33, 3) := by decide +kernel
theorem dX6_cost_98 : decode cX6_cost 98 = .ok (.aload_n 0, 1) := by decide +kernel
theorem dX6_cost_99 : decode cX6_cost 99 = .ok (.getfield 19, 3) := by decide +kernel
theorem dX6_cost_102 : decode cX6_cost 102 = .ok (.invokevirtual 96, 3) := by decide +kernel
theorem dX6_cost_105 : decode cX6_cost 105 = .ok (.pop, 1) := by decide +kernel
theorem dX6_cost_106 : decode cX6_cost 106 = .ok (.aload_n 0, 1) := by decide +kernel
theorem dX6_cost_107 : decode cX6_cost 107 = .ok (.getfield 33, 3) := by decide +kernel
theorem dX6_cost_110 : decode cX6_cost 110 = .ok (.sipush 1000, 3) := by decide +kernel
theorem dX6_cost_113 : decode cX6_cost 113 = .ok (.putfield 194, 3) := by decide +kernel
theorem dX6_cost_116 : decode cX6_cost 116 = .ok (.aload_n 0, 1) := by decide +kernel
theorem dX6_cost_117 : decode cX6_cost 117 = .ok (.getfield 33, 3) := by decide +kernel
theorem dX6_cost_120 : decode cX6_cost 120 = .ok (.aload_n 0, 1) := by decide +kernel
theorem dX6_cost_121 : decode cX6_cost 121 = .ok (.getfield 19, 3) := by decide +kernel
theorem dX6_cost_124 : decode cX6_cost 124 = .ok (.sipush 199, 3) := by decide +kernel
theorem dX6_cost_127 : decode cX6_cost 127 = .ok (.invokevirtual 203, 3) := by decide +kernel
theorem dX6_cost_130 : decode cX6_cost 130 = .ok (.aload_n 0, 1) := by decide +kernel
theorem dX6_cost_131 : decode cX6_cost 131 = .ok (.getfield 33, 3) := by decide +kernel
theorem dX6_cost_134 : decode cX6_cost 134 = .ok (.getfield 207, 3) := by decide +kernel
theorem dX6_cost_137 : decode cX6_cost 137 = .ok (.iload_n 1, 1) := by decide +kernel
theorem dX6_cost_138 : decode cX6_cost 138 = .ok (.isub, 1) := by decide +kernel
theorem dX6_cost_139 : decode cX6_cost 139 = .ok (.ireturn, 1) := by decide +kernel
theorem dX6_sees_0 : decode cX6_sees 0 = .ok (.aload_n 0, 1) := by decide +kernel
theorem dX6_sees_1 : decode cX6_sees 1 = .ok (.getfield 19, 3) := by decide +kernel
theorem dX6_sees_4 : decode cX6_sees 4 = .ok (.iload_n 1, 1) := by decide +kernel
theorem dX6_sees_5 : decode cX6_sees 5 = .ok (.invokevirtual 100, 3) := by decide +kernel
theorem dX6_sees_8 : decode cX6_sees 8 = .ok (.ifCond .eq 14, 3) := by decide +kernel
theorem dX6_sees_11 : decode cX6_sees 11 = .ok (.iload_n 2, 1) := by decide +kernel
theorem dX6_sees_12 : decode cX6_sees 12 = .ok (.bipush (-99), 2) := by decide +kernel
theorem dX6_sees_14 : decode cX6_sees 14 = .ok (.bipush 99, 2) := by decide +kernel
theorem dX6_sees_16 : decode cX6_sees 16 = .ok (.invokestatic 62, 3) := by decide +kernel
theorem dX6_sees_19 : decode cX6_sees 19 = .ok (.ifCond .ne 5, 3) := by decide +kernel
theorem dX6_sees_22 : decode cX6_sees 22 = .ok (.iconst (-1), 1) := by decide +kernel
theorem dX6_sees_23 : decode cX6_sees 23 = .ok (.ireturn, 1) := by decide +kernel
theorem dX6_sees_24 : decode cX6_sees 24 = .ok (.aload_n 0, 1) := by decide +kernel
theorem dX6_sees_25 : decode cX6_sees 25 = .ok (.getfield 54, 3) := by decide +kernel
theorem dX6_sees_28 : decode cX6_sees 28 = .ok (.iload_n 1, 1) := by decide +kernel
theorem dX6_sees_29 : decode cX6_sees 29 = .ok (.iload_n 2, 1) := by decide +kernel
theorem dX6_sees_30 : decode cX6_sees 30 = .ok (.invokevirtual 213, 3) := by decide +kernel
theorem dX6_sees_33 : decode cX6_sees 33 = .ok (.ifCond .eq 13, 3) := by decide +kernel
theorem dX6_sees_36 : decode cX6_sees 36 = .ok (.aload_n 0, 1) := by decide +kernel
theorem dX6_sees_37 : decode cX6_sees 37 = .ok (.getfield 54, 3) := by decide +kernel
theorem dX6_sees_40 : decode cX6_sees 40 = .ok (.getfield 81, 3) := by decide +kernel
theorem dX6_sees_43 : decode cX6_sees 43 = .ok (.goto 5, 3) := by decide +kernel
theorem dX6_sees_46 : decode cX6_sees 46 = .ok (.bipush (-3), 2) := by decide +kernel
theorem dX6_sees_48 : decode cX6_sees 48 = .ok (.ireturn, 1) := by decide +kernel
theorem dX6_forget_0 : decode cX6_forget 0 = .ok (.aload_n 0, 1) := by decide +kernel
theorem dX6_forget_1 : decode cX6_forget 1 = .ok (.getfield 54, 3) := by decide +kernel
theorem dX6_forget_4 : decode cX6_forget 4 = .ok (.getfield 81, 3) := by decide +kernel
theorem dX6_forget_7 : decode cX6_forget 7 = .ok (.istore_n 1, 1) := by decide +kernel
theorem dX6_forget_8 : decode cX6_forget 8 = .ok (.aload_n 0, 1) := by decide +kernel
theorem dX6_forget_9 : decode cX6_forget 9 = .ok (.getfield 54, 3) := by decide +kernel
theorem dX6_forget_12 : decode cX6_forget 12 = .ok (.iconst 0, 1) := by decide +kernel
theorem dX6_forget_13 : decode cX6_forget 13 = .ok (.putfield 81, 3) := by decide +kernel
theorem dX6_forget_16 : decode cX6_forget 16 = .ok (.iload_n 1, 1) := by decide +kernel
theorem dX6_forget_17 : decode cX6_forget 17 = .ok (.ireturn, 1) := by decide +kernel
theorem dX6_which_0 : decode cX6_which 0 = .ok (.aload_n 0, 1) := by decide +kernel
theorem dX6_which_1 : decode cX6_which 1 = .ok (.getfield 54, 3) := by decide +kernel
theorem dX6_which_4 : decode cX6_which 4 = .ok (.aload_n 0, 1) := by decide +kernel
theorem dX6_which_5 : decode cX6_which 5 = .ok (.getfield 19, 3) := by decide +kernel
theorem dX6_which_8 : decode cX6_which 8 = .ok (.getfield 216, 3) := by decide +kernel
theorem dX6_which_11 : decode cX6_which 11 = .ok (.invokevirtual 219, 3) := by decide +kernel
theorem dX6_which_14 : decode cX6_which 14 = .ok (.ireturn, 1) := by decide +kernel
theorem dX6_look_0 : decode cX6_look 0 = .ok (.aload_n 0, 1) := by decide +kernel
theorem dX6_look_1 : decode cX6_look 1 = .ok (.getfield 54, 3) := by decide +kernel
theorem dX6_look_4 : decode cX6_look 4 = .ok (.aload_n 0, 1) := by decide +kernel
theorem dX6_look_5 : decode cX6_look 5 = .ok (.getfield 19, 3) := by decide +kernel
theorem dX6_look_8 : decode cX6_look 8 = .ok (.getfield 216, 3) := by decide +kernel
theorem dX6_look_11 : decode cX6_look 11 = .ok (.invokevirtual 222, 3) := by decide +kernel
theorem dX6_look_14 : decode cX6_look 14 = .ok (.ireturn, 1) := by decide +kernel
theorem dX6_keep_0 : decode cX6_keep 0 = .ok (.iload_n 1, 1) := by decide +kernel
theorem dX6_keep_1 : decode cX6_keep 1 = .ok (.iconst 0, 1) := by decide +kernel
theorem dX6_keep_2 : decode cX6_keep 2 = .ok (.iconst 1, 1) := by decide +kernel
theorem dX6_keep_3 : decode cX6_keep 3 = .ok (.invokestatic 62, 3) := by decide +kernel
theorem dX6_keep_6 : decode cX6_keep 6 = .ok (.ifCond .ne 5, 3) := by decide +kernel
theorem dX6_keep_9 : decode cX6_keep 9 = .ok (.iconst (-1), 1) := by decide +kernel
theorem dX6_keep_10 : decode cX6_keep 10 = .ok (.ireturn, 1) := by decide +kernel
theorem dX6_keep_11 : decode cX6_keep 11 = .ok (.aload_n 0, 1) := by decide +kernel
theorem dX6_keep_12 : decode cX6_keep 12 = .ok (.getfield 43, 3) := by decide +kernel
theorem dX6_keep_15 : decode cX6_keep 15 = .ok (.iload_n 1, 1) := by decide +kernel
theorem dX6_keep_16 : decode cX6_keep 16 = .ok (.aaload, 1) := by decide +kernel
theorem dX6_keep_17 : decode cX6_keep 17 = .ok (.aload_n 0, 1) := by decide +kernel
theorem dX6_keep_18 : decode cX6_keep 18 = .ok (.getfield 29, 3) := by decide +kernel
theorem dX6_keep_21 : decode cX6_keep 21 = .ok (.invokevirtual 191, 3) := by decide +kernel
theorem dX6_keep_24 : decode cX6_keep 24 = .ok (.aload_n 0, 1) := by decide +kernel
theorem dX6_keep_25 : decode cX6_keep 25 = .ok (.getfield 47, 3) := by decide +kernel
theorem dX6_keep_28 : decode cX6_keep 28 = .ok (.iload_n 1, 1) := by decide +kernel
theorem dX6_keep_29 : decode cX6_keep 29 = .ok (.iconst 1, 1) := by decide +kernel
theorem dX6_keep_30 : decode cX6_keep 30 = .ok (.bastore, 1) := by decide +kernel
theorem dX6_keep_31 : decode cX6_keep 31 = .ok (.aload_n 0, 1) := by decide +kernel
theorem dX6_keep_32 : decode cX6_keep 32 = .ok (.getfield 29, 3) := by decide +kernel
theorem dX6_keep_35 : decode cX6_keep 35 = .ok (.getfield 86, 3) := by decide +kernel
theorem dX6_keep_38 : decode cX6_keep 38 = .ok (.ireturn, 1) := by decide +kernel
theorem dX6_back_0 : decode cX6_back 0 = .ok (.iload_n 1, 1) := by decide +kernel
theorem dX6_back_1 : decode cX6_back 1 = .ok (.iconst 0, 1) := by decide +kernel
theorem dX6_back_2 : decode cX6_back 2 = .ok (.iconst 1, 1) := by decide +kernel
theorem dX6_back_3 : decode cX6_back 3 = .ok (.invokestatic 62, 3) := by decide +kernel
theorem dX6_back_6 : decode cX6_back 6 = .ok (.ifCond .ne 5, 3) := by decide +kernel
theorem dX6_back_9 : decode cX6_back 9 = .ok (.iconst (-1), 1) := by decide +kernel
theorem dX6_back_10 : decode cX6_back 10 = .ok (.ireturn, 1) := by decide +kernel
theorem dX6_back_11 : decode cX6_back 11 = .ok (.aload_n 0, 1) := by decide +kernel
theorem dX6_back_12 : decode cX6_back 12 = .ok (.getfield 47, 3) := by decide +kernel
theorem dX6_back_15 : decode cX6_back 15 = .ok (.iload_n 1, 1) := by decide +kernel
theorem dX6_back_16 : decode cX6_back 16 = .ok (.baload, 1) := by decide +kernel
theorem dX6_back_17 : decode cX6_back 17 = .ok (.ifCond .ne 6, 3) := by decide +kernel
theorem dX6_back_20 : decode cX6_back 20 = .ok (.bipush (-2), 2) := by decide +kernel
theorem dX6_back_22 : decode cX6_back 22 = .ok (.ireturn, 1) := by decide +kernel
theorem dX6_back_23 : decode cX6_back 23 = .ok (.aload_n 0, 1) := by decide +kernel
theorem dX6_back_24 : decode cX6_back 24 = .ok (.getfield 29, 3) := by decide +kernel
theorem dX6_back_27 : decode cX6_back 27 = .ok (.aload_n 0, 1) := by decide +kernel
theorem dX6_back_28 : decode cX6_back 28 = .ok (.getfield 43, 3) := by decide +kernel
theorem dX6_back_31 : decode cX6_back 31 = .ok (.iload_n 1, 1) := by decide +kernel
theorem dX6_back_32 : decode cX6_back 32 = .ok (.aaload, 1) := by decide +kernel
theorem dX6_back_33 : decode cX6_back 33 = .ok (.invokevirtual 191, 3) := by decide +kernel
theorem dX6_back_36 : decode cX6_back 36 = .ok (.aload_n 0, 1) := by decide +kernel
theorem dX6_back_37 : decode cX6_back 37 = .ok (.getfield 39, 3) := by decide +kernel
theorem dX6_back_40 : decode cX6_back 40 = .ok (.iconst 0, 1) := by decide +kernel
theorem dX6_back_41 : decode cX6_back 41 = .ok (.putfield 78, 3) := by decide +kernel
theorem dX6_back_44 : decode cX6_back 44 = .ok (.aload_n 0, 1) := by decide +kernel
theorem dX6_back_45 : decode cX6_back 45 = .ok (.getfield 29, 3) := by decide +kernel
theorem dX6_back_48 : decode cX6_back 48 = .ok (.getfield 86, 3) := by decide +kernel
theorem dX6_back_51 : decode cX6_back 51 = .ok (.ireturn, 1) := by decide +kernel
theorem dX6_count_0 : decode cX6_count 0 = .ok (.iload_n 1, 1) := by decide +kernel
theorem dX6_count_1 : decode cX6_count 1 = .ok (.tableswitch 281 0 19 #[95, 103, 111, 119, 130, 138, 146, 157, 165, 177, 185, 201, 217, 225, 233, 241, 249, 257, 265, 273], 95) := by decide +kernel
theorem dX6_count_96 : decode cX6_count 96 = .ok (.aload_n 0, 1) := by decide +kernel
theorem dX6_count_97 : decode cX6_count 97 = .ok (.getfield 19, 3) := by decide +kernel
theorem dX6_count_100 : decode cX6_count 100 = .ok (.getfield 216, 3) := by decide +kernel
theorem dX6_count_103 : decode cX6_count 103 = .ok (.ireturn, 1) := by decide +kernel
theorem dX6_count_104 : decode cX6_count 104 = .ok (.aload_n 0, 1) := by decide +kernel
theorem dX6_count_105 : decode cX6_count 105 = .ok (.getfield 19, 3) := by decide +kernel
theorem dX6_count_108 : decode cX6_count 108 = .ok (.getfield 225, 3) := by decide +kernel
theorem dX6_count_111 : decode cX6_count 111 = .ok (.ireturn, 1) := by decide +kernel
theorem dX6_count_112 : decode cX6_count 112 = .ok (.aload_n 0, 1) := by decide +kernel
theorem dX6_count_113 : decode cX6_count 113 = .ok (.getfield 29, 3) := by decide +kernel
theorem dX6_count_116 : decode cX6_count 116 = .ok (.getfield 86, 3) := by decide +kernel
theorem dX6_count_119 : decode cX6_count 119 = .ok (.ireturn, 1) := by decide +kernel
theorem dX6_count_120 : decode cX6_count 120 = .ok (.aload_n 0, 1) := by decide +kernel
theorem dX6_count_121 : decode cX6_count 121 = .ok (.getfield 29, 3) := by decide +kernel
theorem dX6_count_124 : decode cX6_count 124 = .ok (.getfield 162, 3) := by decide +kernel
theorem dX6_count_127 : decode cX6_count 127 = .ok (.getfield 228, 3) := by decide +kernel
theorem dX6_count_130 : decode cX6_count 130 = .ok (.ireturn, 1) := by decide +kernel
theorem dX6_count_131 : decode cX6_count 131 = .ok (.aload_n 0, 1) := by decide +kernel
theorem dX6_count_132 : decode cX6_count 132 = .ok (.getfield 29, 3) := by decide +kernel
theorem dX6_count_135 : decode cX6_count 135 = .ok (.getfield 93, 3) := by decide +kernel
theorem dX6_count_138 : decode cX6_count 138 = .ok (.ireturn, 1) := by decide +kernel
theorem dX6_count_139 : decode cX6_count 139 = .ok (.aload_n 0, 1) := by decide +kernel
theorem dX6_count_140 : decode cX6_count 140 = .ok (.getfield 29, 3) := by decide +kernel
theorem dX6_count_143 : decode cX6_count 143 = .ok (.getfield 207, 3) := by decide +kernel
theorem dX6_count_146 : decode cX6_count 146 = .ok (.ireturn, 1) := by decide +kernel
theorem dX6_count_147 : decode cX6_count 147 = .ok (.aload_n 0, 1) := by decide +kernel
theorem dX6_count_148 : decode cX6_count 148 = .ok (.getfield 29, 3) := by decide +kernel
theorem dX6_count_151 : decode cX6_count 151 = .ok (.getfield 162, 3) := by decide +kernel
theorem dX6_count_154 : decode cX6_count 154 = .ok (.getfield 184, 3) := by decide +kernel
theorem dX6_count_157 : decode cX6_count 157 = .ok (.ireturn, 1) := by decide +kernel
theorem dX6_count_158 : decode cX6_count 158 = .ok (.aload_n 0, 1) := by decide +kernel
theorem dX6_count_159 : decode cX6_count 159 = .ok (.getfield 29, 3) := by decide +kernel
theorem dX6_count_162 : decode cX6_count 162 = .ok (.getfield 123, 3) := by decide +kernel
theorem dX6_count_165 : decode cX6_count 165 = .ok (.ireturn, 1) := by decide +kernel
theorem dX6_count_166 : decode cX6_count 166 = .ok (.aload_n 0, 1) := by decide +kernel
theorem dX6_count_167 : decode cX6_count 167 = .ok (.getfield 29, 3) := by decide +kernel
theorem dX6_count_170 : decode cX6_count 170 = .ok (.aload_n 0, 1) := by decide +kernel
theorem dX6_count_171 : decode cX6_count 171 = .ok (.getfield 19, 3) := by decide +kernel
theorem dX6_count_174 : decode cX6_count 174 = .ok (.invokevirtual 114, 3) := by decide +kernel
theorem dX6_count_177 : decode cX6_count 177 = .ok (.ireturn, 1) := by decide +kernel
theorem dX6_count_178 : decode cX6_count 178 = .ok (.aload_n 0, 1) := by decide +kernel
theorem dX6_count_179 : decode cX6_count 179 = .ok (.getfield 29, 3) := by decide +kernel
theorem dX6_count_182 : decode cX6_count 182 = .ok (.getfield 117, 3) := by decide +kernel
theorem dX6_count_185 : decode cX6_count 185 = .ok (.ireturn, 1) := by decide +kernel
theorem dX6_count_186 : decode cX6_count 186 = .ok (.aload_n 0, 1) := by decide +kernel
theorem dX6_count_187 : decode cX6_count 187 = .ok (.getfield 29, 3) := by decide +kernel
theorem dX6_count_190 : decode cX6_count 190 = .ok (.getfield 82, 3) := by decide +kernel
theorem dX6_count_193 : decode cX6_count 193 = .ok (.ifCond .eq 7, 3) := by decide +kernel
theorem dX6_count_196 : decode cX6_count 196 = .ok (.iconst 1, 1) := by decide +kernel
theorem dX6_count_197 : decode cX6_count 197 = .ok (.goto 4, 3) := by decide +kernel
theorem dX6_count_200 : decode cX6_count 200 = .ok (.iconst 0, 1) := by decide +kernel
theorem dX6_count_201 : decode cX6_count 201 = .ok (.ireturn, 1) := by decide +kernel
theorem dX6_count_202 : decode cX6_count 202 = .ok (.aload_n 0, 1) := by decide +kernel
theorem dX6_count_203 : decode cX6_count 203 = .ok (.getfield 29, 3) := by decide +kernel
theorem dX6_count_206 : decode cX6_count 206 = .ok (.getfield 126, 3) := by decide +kernel
theorem dX6_count_209 : decode cX6_count 209 = .ok (.ifCond .eq 7, 3) := by decide +kernel
theorem dX6_count_212 : decode cX6_count 212 = .ok (.iconst 1, 1) := by decide +kernel
theorem dX6_count_213 : decode cX6_count 213 = .ok (.goto 4, 3) := by decide +kernel
theorem dX6_count_216 : decode cX6_count 216 = .ok (.iconst 0, 1) := by decide +kernel
theorem dX6_count_217 : decode cX6_count 217 = .ok (.ireturn, 1) := by decide +kernel
theorem dX6_count_218 : decode cX6_count 218 = .ok (.aload_n 0, 1) := by decide +kernel
theorem dX6_count_219 : decode cX6_count 219 = .ok (.getfield 29, 3) := by decide +kernel
theorem dX6_count_222 : decode cX6_count 222 = .ok (.getfield 231, 3) := by decide +kernel
theorem dX6_count_225 : decode cX6_count 225 = .ok (.ireturn, 1) := by decide +kernel
theorem dX6_count_226 : decode cX6_count 226 = .ok (.aload_n 0, 1) := by decide +kernel
theorem dX6_count_227 : decode cX6_count 227 = .ok (.getfield 19, 3) := by decide +kernel
theorem dX6_count_230 : decode cX6_count 230 = .ok (.getfield 234, 3) := by decide +kernel
theorem dX6_count_233 : decode cX6_count 233 = .ok (.ireturn, 1) := by decide +kernel
theorem dX6_count_234 : decode cX6_count 234 = .ok (.aload_n 0, 1) := by decide +kernel
theorem dX6_count_235 : decode cX6_count 235 = .ok (.getfield 19, 3) := by decide +kernel
theorem dX6_count_238 : decode cX6_count 238 = .ok (.getfield 237, 3) := by decide +kernel
theorem dX6_count_241 : decode cX6_count 241 = .ok (.ireturn, 1) := by decide +kernel
theorem dX6_count_242 : decode cX6_count 242 = .ok (.aload_n 0, 1) := by decide +kernel
theorem dX6_count_243 : decode cX6_count 243 = .ok (.getfield 19, 3) := by decide +kernel
theorem dX6_count_246 : decode cX6_count 246 = .ok (.getfield 197, 3) := by decide +kernel
theorem dX6_count_249 : decode cX6_count 249 = .ok (.ireturn, 1) := by decide +kernel
theorem dX6_count_250 : decode cX6_count 250 = .ok (.aload_n 0, 1) := by decide +kernel
theorem dX6_count_251 : decode cX6_count 251 = .ok (.getfield 19, 3) := by decide +kernel
theorem dX6_count_254 : decode cX6_count 254 = .ok (.getfield 240, 3) := by decide +kernel
theorem dX6_count_257 : decode cX6_count 257 = .ok (.ireturn, 1) := by decide +kernel
theorem dX6_count_258 : decode cX6_count 258 = .ok (.aload_n 0, 1) := by decide +kernel
theorem dX6_count_259 : decode cX6_count 259 = .ok (.getfield 54, 3) := by decide +kernel
theorem dX6_count_262 : decode cX6_count 262 = .ok (.getfield 81, 3) := by decide +kernel
theorem dX6_count_265 : decode cX6_count 265 = .ok (.ireturn, 1) := by decide +kernel
theorem dX6_count_266 : decode cX6_count 266 = .ok (.aload_n 0, 1) := by decide +kernel
theorem dX6_count_267 : decode cX6_count 267 = .ok (.getfield 10, 3) := by decide +kernel
theorem dX6_count_270 : decode cX6_count 270 = .ok (.getfield 70, 3) := by decide +kernel
theorem dX6_count_273 : decode cX6_count 273 = .ok (.ireturn, 1) := by decide +kernel
theorem dX6_count_274 : decode cX6_count 274 = .ok (.aload_n 0, 1) := by decide +kernel
theorem dX6_count_275 : decode cX6_count 275 = .ok (.getfield 39, 3) := by decide +kernel
theorem dX6_count_278 : decode cX6_count 278 = .ok (.getfield 78, 3) := by decide +kernel
theorem dX6_count_281 : decode cX6_count 281 = .ok (.ireturn, 1) := by decide +kernel
theorem dX6_count_282 : decode cX6_count 282 = .ok (.iconst (-1), 1) := by decide +kernel
theorem dX6_count_283 : decode cX6_count 283 = .ok (.ireturn, 1) := by decide +kernel
theorem dX6_isWithin_0 : decode cX6_isWithin 0 = .ok (.iload_n 0, 1) := by decide +kernel
theorem dX6_isWithin_1 : decode cX6_isWithin 1 = .ok (.iload_n 1, 1) := by decide +kernel
theorem dX6_isWithin_2 : decode cX6_isWithin 2 = .ok (.if_icmp .lt 12, 3) := by decide +kernel
theorem dX6_isWithin_5 : decode cX6_isWithin 5 = .ok (.iload_n 0, 1) := by decide +kernel
theorem dX6_isWithin_6 : decode cX6_isWithin 6 = .ok (.iload_n 2, 1) := by decide +kernel
theorem dX6_isWithin_7 : decode cX6_isWithin 7 = .ok (.if_icmp .gt 7, 3) := by decide +kernel
theorem dX6_isWithin_10 : decode cX6_isWithin 10 = .ok (.iconst 1, 1) := by decide +kernel
theorem dX6_isWithin_11 : decode cX6_isWithin 11 = .ok (.goto 4, 3) := by decide +kernel
theorem dX6_isWithin_14 : decode cX6_isWithin 14 = .ok (.iconst 0, 1) := by decide +kernel
theorem dX6_isWithin_15 : decode cX6_isWithin 15 = .ok (.ireturn, 1) := by decide +kernel
