theorem dX7_init_0 : decode cX7_init 0 = .ok (.aload_n 0, 1) := by decide +kernel
theorem dX7_init_1 : decode cX7_init 1 = .ok (.invokespecial 1, 3) := by decide +kernel
theorem dX7_init_4 : decode cX7_init 4 = .ok (.aload_n 0, 1) := by decide +kernel
theorem dX7_init_5 : decode cX7_init 5 = .ok (.sipush 349, 3) := by decide +kernel
theorem dX7_init_8 : decode cX7_init 8 = .ok (.newarray .int, 2) := by decide +kernel
theorem dX7_init_10 : decode cX7_init 10 = .ok (.putfield 7, 3) := by decide +kernel
theorem dX7_init_13 : decode cX7_init 13 = .ok (.aload_n 0, 1) := by decide +kernel
theorem dX7_init_14 : decode cX7_init 14 = .ok (.sipush 349, 3) := by decide +kernel
theorem dX7_init_17 : decode cX7_init 17 = .ok (.newarray .int, 2) := by decide +kernel
theorem dX7_init_19 : decode cX7_init 19 = .ok (.putfield 13, 3) := by decide +kernel
theorem dX7_init_22 : decode cX7_init 22 = .ok (.aload_n 0, 1) := by decide +kernel
theorem dX7_init_23 : decode cX7_init 23 = .ok (.sipush 2094, 3) := by decide +kernel
theorem dX7_init_26 : decode cX7_init 26 = .ok (.newarray .int, 2) := by decide +kernel
theorem dX7_init_28 : decode cX7_init 28 = .ok (.putfield 16, 3) := by decide +kernel
theorem dX7_init_31 : decode cX7_init 31 = .ok (.aload_n 0, 1) := by decide +kernel
theorem dX7_init_32 : decode cX7_init 32 = .ok (.sipush 698, 3) := by decide +kernel
theorem dX7_init_35 : decode cX7_init 35 = .ok (.newarray .int, 2) := by decide +kernel
theorem dX7_init_37 : decode cX7_init 37 = .ok (.putfield 19, 3) := by decide +kernel
theorem dX7_init_40 : decode cX7_init 40 = .ok (.aload_n 0, 1) := by decide +kernel
theorem dX7_init_41 : decode cX7_init 41 = .ok (.iconst 2, 1) := by decide +kernel
theorem dX7_init_42 : decode cX7_init 42 = .ok (.newarray .boolean, 2) := by decide +kernel
theorem dX7_init_44 : decode cX7_init 44 = .ok (.putfield 22, 3) := by decide +kernel
theorem dX7_init_47 : decode cX7_init 47 = .ok (.aload_n 0, 1) := by decide +kernel
theorem dX7_init_48 : decode cX7_init 48 = .ok (.bipush 120, 2) := by decide +kernel
theorem dX7_init_50 : decode cX7_init 50 = .ok (.newarray .int, 2) := by decide +kernel
theorem dX7_init_52 : decode cX7_init 52 = .ok (.putfield 26, 3) := by decide +kernel
theorem dX7_init_55 : decode cX7_init 55 = .ok (.aload_n 0, 1) := by decide +kernel
theorem dX7_init_56 : decode cX7_init 56 = .ok (.bipush 12, 2) := by decide +kernel
theorem dX7_init_58 : decode cX7_init 58 = .ok (.newarray .int, 2) := by decide +kernel
theorem dX7_init_60 : decode cX7_init 60 = .ok (.putfield 29, 3) := by decide +kernel
theorem dX7_init_63 : decode cX7_init 63 = .ok (.aload_n 0, 1) := by decide +kernel
theorem dX7_init_64 : decode cX7_init 64 = .ok (.iconst 4, 1) := by decide +kernel
theorem dX7_init_65 : decode cX7_init 65 = .ok (.newarray .int, 2) := by decide +kernel
theorem dX7_init_67 : decode cX7_init 67 = .ok (.putfield 32, 3) := by decide +kernel
theorem dX7_init_70 : decode cX7_init 70 = .ok (.aload_n 0, 1) := by decide +kernel
theorem dX7_init_71 : decode cX7_init 71 = .ok (.iconst 4, 1) := by decide +kernel
theorem dX7_init_72 : decode cX7_init 72 = .ok (.newarray .int, 2) := by decide +kernel
theorem dX7_init_74 : decode cX7_init 74 = .ok (.putfield 35, 3) := by decide +kernel
theorem dX7_init_77 : decode cX7_init 77 = .ok (.aload_n 0, 1) := by decide +kernel
theorem dX7_init_78 : decode cX7_init 78 = .ok (.bipush 8, 2) := by decide +kernel
theorem dX7_init_80 : decode cX7_init 80 = .ok (.newarray .int, 2) := by decide +kernel
theorem dX7_init_82 : decode cX7_init 82 = .ok (.putfield 38, 3) := by decide +kernel
theorem dX7_init_85 : decode cX7_init 85 = .ok (.aload_n 0, 1) := by decide +kernel
theorem dX7_init_86 : decode cX7_init 86 = .ok (.bipush 8, 2) := by decide +kernel
theorem dX7_init_88 : decode cX7_init 88 = .ok (.newarray .int, 2) := by decide +kernel
theorem dX7_init_90 : decode cX7_init 90 = .ok (.putfield 41, 3) := by decide +kernel
theorem dX7_init_93 : decode cX7_init 93 = .ok (.aload_n 0, 1) := by decide +kernel
theorem dX7_init_94 : decode cX7_init 94 = .ok (.iconst 4, 1) := by decide +kernel
theorem dX7_init_95 : decode cX7_init 95 = .ok (.newarray .int, 2) := by decide +kernel
theorem dX7_init_97 : decode cX7_init 97 = .ok (.putfield 44, 3) := by decide +kernel
theorem dX7_init_100 : decode cX7_init 100 = .ok (.aload_n 0, 1) := by decide +kernel
theorem dX7_init_101 : decode cX7_init 101 = .ok (.iconst 4, 1) := by decide +kernel
theorem dX7_init_102 : decode cX7_init 102 = .ok (.newarray .int, 2) := by decide +kernel
theorem dX7_init_104 : decode cX7_init 104 = .ok (.putfield 47, 3) := by decide +kernel
theorem dX7_init_107 : decode cX7_init 107 = .ok (.aload_n 0, 1) := by decide +kernel
theorem dX7_init_108 : decode cX7_init 108 = .ok (.bipush 8, 2) := by decide +kernel
theorem dX7_init_110 : decode cX7_init 110 = .ok (.newarray .int, 2) := by decide +kernel
theorem dX7_init_112 : decode cX7_init 112 = .ok (.putfield 50, 3) := by decide +kernel
theorem dX7_init_115 : decode cX7_init 115 = .ok (.aload_n 0, 1) := by decide +kernel
theorem dX7_init_116 : decode cX7_init 116 = .ok (.bipush 8, 2) := by decide +kernel
theorem dX7_init_118 : decode cX7_init 118 = .ok (.newarray .int, 2) := by decide +kernel
theorem dX7_init_120 : decode cX7_init 120 = .ok (.putfield 53, 3) := by decide +kernel
theorem dX7_init_123 : decode cX7_init 123 = .ok (.aload_n 0, 1) := by decide +kernel
theorem dX7_init_124 : decode cX7_init 124 = .ok (.iconst 4, 1) := by decide +kernel
theorem dX7_init_125 : decode cX7_init 125 = .ok (.newarray .int, 2) := by decide +kernel
theorem dX7_init_127 : decode cX7_init 127 = .ok (.putfield 56, 3) := by decide +kernel
theorem dX7_init_130 : decode cX7_init 130 = .ok (.aload_n 0, 1) := by decide +kernel
theorem dX7_init_131 : decode cX7_init 131 = .ok (.iconst 4, 1) := by decide +kernel
theorem dX7_init_132 : decode cX7_init 132 = .ok (.newarray .boolean, 2) := by decide +kernel
theorem dX7_init_134 : decode cX7_init 134 = .ok (.putfield 59, 3) := by decide +kernel
theorem dX7_init_137 : decode cX7_init 137 = .ok (.aload_n 0, 1) := by decide +kernel
theorem dX7_init_138 : decode cX7_init 138 = .ok (.invokevirtual 62, 3) := by decide +kernel
theorem dX7_init_141 : decode cX7_init 141 = .ok (.aload_n 0, 1) := by decide +kernel
theorem dX7_init_142 : decode cX7_init 142 = .ok (.invokevirtual 65, 3) := by decide +kernel
theorem dX7_init_145 : decode cX7_init 145 = .ok (.return_, 1) := by decide +kernel
theorem dX7_in_0 : decode cX7_in 0 = .ok (.iload_n 0, 1) := by decide +kernel
theorem dX7_in_1 : decode cX7_in 1 = .ok (.iload_n 1, 1) := by decide +kernel
theorem dX7_in_2 : decode cX7_in 2 = .ok (.if_icmp .lt 12, 3) := by decide +kernel
theorem dX7_in_5 : decode cX7_in 5 = .ok (.iload_n 0, 1) := by decide +kernel
theorem dX7_in_6 : decode cX7_in 6 = .ok (.iload_n 2, 1) := by decide +kernel
theorem dX7_in_7 : decode cX7_in 7 = .ok (.if_icmp .gt 7, 3) := by decide +kernel
theorem dX7_in_10 : decode cX7_in 10 = .ok (.iconst 1, 1) := by decide +kernel
theorem dX7_in_11 : decode cX7_in 11 = .ok (.goto 4, 3) := by decide +kernel
theorem dX7_in_14 : decode cX7_in 14 = .ok (.iconst 0, 1) := by decide +kernel
theorem dX7_in_15 : decode cX7_in 15 = .ok (.ireturn, 1) := by decide +kernel
theorem dX7_size_0 : decode cX7_size 0 = .ok (.iload_n 0, 1) := by decide +kernel
theorem dX7_size_1 : decode cX7_size 1 = .ok (.ifCond .ge 8, 3) := by decide +kernel
theorem dX7_size_4 : decode cX7_size 4 = .ok (.iload_n 0, 1) := by decide +kernel
theorem dX7_size_5 : decode cX7_size 5 = .ok (.ineg, 1) := by decide +kernel
theorem dX7_size_6 : decode cX7_size 6 = .ok (.goto 4, 3) := by decide +kernel
theorem dX7_size_9 : decode cX7_size 9 = .ok (.iload_n 0, 1) := by decide +kernel
theorem dX7_size_10 : decode cX7_size 10 = .ok (.ireturn, 1) := by decide +kernel
theorem dX7_begins_0 : decode cX7_begins 0 = .ok (.aload_n 0, 1) := by decide +kernel
theorem dX7_begins_1 : decode cX7_begins 1 = .ok (.iconst 1, 1) := by decide +kernel
theorem dX7_begins_2 : decode cX7_begins 2 = .ok (.putfield 68, 3) := by decide +kernel
theorem dX7_begins_5 : decode cX7_begins 5 = .ok (.aload_n 0, 1) := by decide +kernel
theorem dX7_begins_6 : decode cX7_begins 6 = .ok (.iconst 0, 1) := by decide +kernel
theorem dX7_begins_7 : decode cX7_begins 7 = .ok (.putfield 72, 3) := by decide +kernel
theorem dX7_begins_10 : decode cX7_begins 10 = .ok (.aload_n 0, 1) := by decide +kernel
theorem dX7_begins_11 : decode cX7_begins 11 = .ok (.getfield 56, 3) := by decide +kernel
theorem dX7_begins_14 : decode cX7_begins 14 = .ok (.iconst 0, 1) := by decide +kernel
theorem dX7_begins_15 : decode cX7_begins 15 = .ok (.iconst 3, 1) := by decide +kernel
theorem dX7_begins_16 : decode cX7_begins 16 = .ok (.iastore, 1) := by decide +kernel
theorem dX7_begins_17 : decode cX7_begins 17 = .ok (.aload_n 0, 1) := by decide +kernel
theorem dX7_begins_18 : decode cX7_begins 18 = .ok (.getfield 56, 3) := by decide +kernel
theorem dX7_begins_21 : decode cX7_begins 21 = .ok (.iconst 1, 1) := by decide +kernel
theorem dX7_begins_22 : decode cX7_begins 22 = .ok (.iconst 3, 1) := by decide +kernel
theorem dX7_begins_23 : decode cX7_begins 23 = .ok (.iastore, 1) := by decide +kernel
theorem dX7_begins_24 : decode cX7_begins 24 = .ok (.aload_n 0, 1) := by decide +kernel
theorem dX7_begins_25 : decode cX7_begins 25 = .ok (.getfield 56, 3) := by decide +kernel
theorem dX7_begins_28 : decode cX7_begins 28 = .ok (.iconst 2, 1) := by decide +kernel
theorem dX7_begins_29 : decode cX7_begins 29 = .ok (.iconst 1, 1) := by decide +kernel
theorem dX7_begins_30 : decode cX7_begins 30 = .ok (.iastore, 1) := by decide +kernel
theorem dX7_begins_31 : decode cX7_begins 31 = .ok (.aload_n 0, 1) := by decide +kernel
theorem dX7_begins_32 : decode cX7_begins 32 = .ok (.getfield 56, 3) := by decide +kernel
theorem dX7_begins_35 : decode cX7_begins 35 = .ok (.iconst 3, 1) := by decide +kernel
theorem dX7_begins_36 : decode cX7_begins 36 = .ok (.iconst 5, 1) := by decide +kernel
theorem dX7_begins_37 : decode cX7_begins 37 = .ok (.iastore, 1) := by decide +kernel
theorem dX7_begins_38 : decode cX7_begins 38 = .ok (.iconst 0, 1) := by decide +kernel
theorem dX7_begins_39 : decode cX7_begins 39 = .ok (.istore_n 1, 1) := by decide +kernel
theorem dX7_begins_40 : decode cX7_begins 40 = .ok (.iload_n 1, 1) := by decide +kernel
theorem dX7_begins_41 : decode cX7_begins 41 = .ok (.iconst 4, 1) := by decide +kernel
theorem dX7_begins_42 : decode cX7_begins 42 = .ok (.if_icmp .ge 16, 3) := by decide +kernel
theorem dX7_begins_45 : decode cX7_begins 45 = .ok (.aload_n 0, 1) := by decide +kernel
theorem dX7_begins_46 : decode cX7_begins 46 = .ok (.getfield 59, 3) := by decide +kernel
theorem dX7_begins_49 : decode cX7_begins 49 = .ok (.iload_n 1, 1) := by decide +kernel
theorem dX7_begins_50 : decode cX7_begins 50 = .ok (.iconst 0, 1) := by decide +kernel
theorem dX7_begins_51 : decode cX7_begins 51 = .ok (.bastore, 1) := by decide +kernel
theorem dX7_begins_52 : decode cX7_begins 52 = .ok (.iinc 1 1, 3) := by decide +kernel
theorem dX7_begins_55 : decode cX7_begins 55 = .ok (.goto (-15), 3) := by decide +kernel
theorem dX7_begins_58 : decode cX7_begins 58 = .ok (.return_, 1) := by decide +kernel
theorem dX7_takes_0 : decode cX7_takes 0 = .ok (.aload_n 0, 1) := by decide +kernel
theorem dX7_takes_1 : decode cX7_takes 1 = .ok (.aload_n 0, 1) := by decide +kernel
theorem dX7_takes_2 : decode cX7_takes 2 = .ok (.getfield 68, 3) := by decide +kernel
theorem dX7_takes_5 : decode cX7_takes 5 = .ok (.putfield 75, 3) := by decide +kernel
theorem dX7_takes_8 : decode cX7_takes 8 = .ok (.aload_n 0, 1) := by decide +kernel
theorem dX7_takes_9 : decode cX7_takes 9 = .ok (.aload_n 0, 1) := by decide +kernel
theorem dX7_takes_10 : decode cX7_takes 10 = .ok (.getfield 72, 3) := by decide +kernel
theorem dX7_takes_13 : decode cX7_takes 13 = .ok (.putfield 78, 3) := by decide +kernel
theorem dX7_takes_16 : decode cX7_takes 16 = .ok (.iconst 0, 1) := by decide +kernel
theorem dX7_takes_17 : decode cX7_takes 17 = .ok (.istore_n 1, 1) := by decide +kernel
theorem dX7_takes_18 : decode cX7_takes 18 = .ok (.iload_n 1, 1) := by decide +kernel
theorem dX7_takes_19 : decode cX7_takes 19 = .ok (.iconst 4, 1) := by decide +kernel
theorem dX7_takes_20 : decode cX7_takes 20 = .ok (.if_icmp .ge 70, 3) := by decide +kernel
theorem dX7_takes_23 : decode cX7_takes 23 = .ok (.aload_n 0, 1) := by decide +kernel
theorem dX7_takes_24 : decode cX7_takes 24 = .ok (.getfield 32, 3) := by decide +kernel
theorem dX7_takes_27 : decode cX7_takes 27 = .ok (.iload_n 1, 1) := by decide +kernel
theorem dX7_takes_28 : decode cX7_takes 28 = .ok (.iload_n 1, 1) := by decide +kernel
theorem dX7_takes_29 : decode cX7_takes 29 = .ok (.ifCond .ne 7, 3) := by decide +kernel
theorem dX7_takes_32 : decode cX7_takes 32 = .ok (.iconst 0, 1) := by decide +kernel
theorem dX7_takes_33 : decode cX7_takes 33 = .ok (.goto 9, 3) := by decide +kernel
theorem dX7_takes_36 : decode cX7_takes 36 = .ok (.aload_n 0, 1) := by decide +kernel
theorem dX7_takes_37 : decode cX7_takes 37 = .ok (.getfield 47, 3) := by decide +kernel
theorem dX7_takes_40 : decode cX7_takes 40 = .ok (.iload_n 1, 1) := by decide +kernel
theorem dX7_takes_41 : decode cX7_takes 41 = .ok (.iaload, 1) := by decide +kernel
theorem dX7_takes_42 : decode cX7_takes 42 = .ok (.iastore, 1) := by decide +kernel
theorem dX7_takes_43 : decode cX7_takes 43 = .ok (.aload_n 0, 1) := by decide +kernel
theorem dX7_takes_44 : decode cX7_takes 44 = .ok (.getfield 35, 3) := by decide +kernel
theorem dX7_takes_47 : decode cX7_takes 47 = .ok (.iload_n 1, 1) := by decide +kernel
theorem dX7_takes_48 : decode cX7_takes 48 = .ok (.iload_n 1, 1) := by decide +kernel
theorem dX7_takes_49 : decode cX7_takes 49 = .ok (.ifCond .ne 7, 3) := by decide +kernel
theorem dX7_takes_52 : decode cX7_takes 52 = .ok (.iconst 0, 1) := by decide +kernel
theorem dX7_takes_53 : decode cX7_takes 53 = .ok (.goto 18, 3) := by decide +kernel
theorem dX7_takes_56 : decode cX7_takes 56 = .ok (.aload_n 0, 1) := by decide +kernel
theorem dX7_takes_57 : decode cX7_takes 57 = .ok (.getfield 35, 3) := by decide +kernel
theorem dX7_takes_60 : decode cX7_takes 60 = .ok (.iload_n 1, 1) := by decide +kernel
theorem dX7_takes_61 : decode cX7_takes 61 = .ok (.iconst 1, 1) := by decide +kernel
theorem dX7_takes_62 : decode cX7_takes 62 = .ok (.isub, 1) := by decide +kernel
theorem dX7_takes_63 : decode cX7_takes 63 = .ok (.iaload, 1) := by decide +kernel
theorem dX7_takes_64 : decode cX7_takes 64 = .ok (.aload_n 0, 1) := by decide +kernel
theorem dX7_takes_65 : decode cX7_takes 65 = .ok (.getfield 32, 3) := by decide +kernel
theorem dX7_takes_68 : decode cX7_takes 68 = .ok (.iload_n 1, 1) := by decide +kernel
theorem dX7_takes_69 : decode cX7_takes 69 = .ok (.iaload, 1) := by decide +kernel
theorem dX7_takes_70 : decode cX7_takes 70 = .ok (.iadd, 1) := by decide +kernel
theorem dX7_takes_71 : decode cX7_takes 71 = .ok (.iastore, 1) := by decide +kernel
theorem dX7_takes_72 : decode cX7_takes 72 = .ok (.aload_n 0, 1) := by decide +kernel
theorem dX7_takes_73 : decode cX7_takes 73 = .ok (.getfield 44, 3) := by decide +kernel
theorem dX7_takes_76 : decode cX7_takes 76 = .ok (.iload_n 1, 1) := by decide +kernel
theorem dX7_takes_77 : decode cX7_takes 77 = .ok (.aload_n 0, 1) := by decide +kernel
theorem dX7_takes_78 : decode cX7_takes 78 = .ok (.getfield 56, 3) := by decide +kernel
theorem dX7_takes_81 : decode cX7_takes 81 = .ok (.iload_n 1, 1) := by decide +kernel
theorem dX7_takes_82 : decode cX7_takes 82 = .ok (.iaload, 1) := by decide +kernel
theorem dX7_takes_83 : decode cX7_takes 83 = .ok (.iastore, 1) := by decide +kernel
theorem dX7_takes_84 : decode cX7_takes 84 = .ok (.iinc 1 1, 3) := by decide +kernel
theorem dX7_takes_87 : decode cX7_takes 87 = .ok (.goto (-69), 3) := by decide +kernel
theorem dX7_takes_90 : decode cX7_takes 90 = .ok (.iconst 0, 1) := by decide +kernel
theorem dX7_takes_91 : decode cX7_takes 91 = .ok (.istore_n 1, 1) := by decide +kernel
theorem dX7_takes_92 : decode cX7_takes 92 = .ok (.iload_n 1, 1) := by decide +kernel
theorem dX7_takes_93 : decode cX7_takes 93 = .ok (.bipush 8, 2) := by decide +kernel
theorem dX7_takes_95 : decode cX7_takes 95 = .ok (.if_icmp .ge 33, 3) := by decide +kernel
theorem dX7_takes_98 : decode cX7_takes 98 = .ok (.aload_n 0, 1) := by decide +kernel
theorem dX7_takes_99 : decode cX7_takes 99 = .ok (.getfield 38, 3) := by decide +kernel
theorem dX7_takes_102 : decode cX7_takes 102 = .ok (.iload_n 1, 1) := by decide +kernel
theorem dX7_takes_103 : decode cX7_takes 103 = .ok (.aload_n 0, 1) := by decide +kernel
theorem dX7_takes_104 : decode cX7_takes 104 = .ok (.getfield 50, 3) := by decide +kernel
theorem dX7_takes_107 : decode cX7_takes 107 = .ok (.iload_n 1, 1) := by decide +kernel
theorem dX7_takes_108 : decode cX7_takes 108 = .ok (.iaload, 1) := by decide +kernel
theorem dX7_takes_109 : decode cX7_takes 109 = .ok (.iastore, 1) := by decide +kernel
theorem dX7_takes_110 : decode cX7_takes 110 = .ok (.aload_n 0, 1) := by decide +kernel
theorem dX7_takes_111 : decode cX7_takes 111 = .ok (.getfield 41, 3) := by decide +kernel
theorem dX7_takes_114 : decode cX7_takes 114 = .ok (.iload_n 1, 1) := by decide +kernel
theorem dX7_takes_115 : decode cX7_takes 115 = .ok (.aload_n 0, 1) := by decide +kernel
theorem dX7_takes_116 : decode cX7_takes 116 = .ok (.getfield 53, 3) := by decide +kernel
theorem dX7_takes_119 : decode cX7_takes 119 = .ok (.iload_n 1, 1) := by decide +kernel
theorem dX7_takes_120 : decode cX7_takes 120 = .ok (.iaload, 1) := by decide +kernel
theorem dX7_takes_121 : decode cX7_takes 121 = .ok (.iastore, 1) := by decide +kernel
theorem dX7_takes_122 : decode cX7_takes 122 = .ok (.iinc 1 1, 3) := by decide +kernel
theorem dX7_takes_125 : decode cX7_takes 125 = .ok (.goto (-33), 3) := by decide +kernel
theorem dX7_takes_128 : decode cX7_takes 128 = .ok (.iconst 0, 1) := by decide +kernel
theorem dX7_takes_129 : decode cX7_takes 129 = .ok (.istore_n 1, 1) := by decide +kernel
theorem dX7_takes_130 : decode cX7_takes 130 = .ok (.iload_n 1, 1) := by decide +kernel
theorem dX7_takes_131 : decode cX7_takes 131 = .ok (.sipush 349, 3) := by decide +kernel
theorem dX7_takes_134 : decode cX7_takes 134 = .ok (.if_icmp .ge 16, 3) := by decide +kernel
theorem dX7_takes_137 : decode cX7_takes 137 = .ok (.aload_n 0, 1) := by decide +kernel
theorem dX7_takes_138 : decode cX7_takes 138 = .ok (.getfield 7, 3) := by decide +kernel
theorem dX7_takes_141 : decode cX7_takes 141 = .ok (.iload_n 1, 1) := by decide +kernel
theorem dX7_takes_142 : decode cX7_takes 142 = .ok (.iconst 0, 1) := by decide +kernel
theorem dX7_takes_143 : decode cX7_takes 143 = .ok (.iastore, 1) := by decide +kernel
theorem dX7_takes_144 : decode cX7_takes 144 = .ok (.iinc 1 1, 3) := by decide +kernel
theorem dX7_takes_147 : decode cX7_takes 147 = .ok (.goto (-17), 3) := by decide +kernel
theorem dX7_takes_150 : decode cX7_takes 150 = .ok (.aload_n 0, 1) := by decide +kernel
theorem dX7_takes_151 : decode cX7_takes 151 = .ok (.getfield 7, 3) := by decide +kernel
theorem dX7_takes_154 : decode cX7_takes 154 = .ok (.iconst 0, 1) := by decide +kernel
theorem dX7_takes_155 : decode cX7_takes 155 = .ok (.iconst 1, 1) := by decide +kernel
theorem dX7_takes_156 : decode cX7_takes 156 = .ok (.iastore, 1) := by decide +kernel
theorem dX7_takes_157 : decode cX7_takes 157 = .ok (.aload_n 0, 1) := by decide +kernel
theorem dX7_takes_158 : decode cX7_takes 158 = .ok (.getfield 7, 3) := by decide +kernel
theorem dX7_takes_161 : decode cX7_takes 161 = .ok (.iconst 1, 1) := by decide +kernel
theorem dX7_takes_162 : decode cX7_takes 162 = .ok (.aload_n 0, 1) := by decide +kernel
theorem dX7_takes_163 : decode cX7_takes 163 = .ok (.getfield 78, 3) := by decide +kernel
theorem dX7_takes_166 : decode cX7_takes 166 = .ok (.ifCond .le 7, 3) := by decide +kernel
theorem dX7_takes_169 : decode cX7_takes 169 = .ok (.iconst 0, 1) := by decide +kernel
theorem dX7_takes_170 : decode cX7_takes 170 = .ok (.goto 4, 3) := by decide +kernel
theorem dX7_takes_173 : decode cX7_takes 173 = .ok (.iconst (-1), 1) := by decide +kernel
theorem dX7_takes_174 : decode cX7_takes 174 = .ok (.iastore, 1) := by decide +kernel
theorem dX7_takes_175 : decode cX7_takes 175 = .ok (.aload_n 0, 1) := by decide +kernel
theorem dX7_takes_176 : decode cX7_takes 176 = .ok (.getfield 7, 3) := by decide +kernel
theorem dX7_takes_179 : decode cX7_takes 179 = .ok (.iconst 2, 1) := by decide +kernel
theorem dX7_takes_180 : decode cX7_takes 180 = .ok (.aload_n 0, 1) := by decide +kernel
theorem dX7_takes_181 : decode cX7_takes 181 = .ok (.getfield 78, 3) := by decide +kernel
theorem dX7_takes_184 : decode cX7_takes 184 = .ok (.ifCond .le 12, 3) := by decide +kernel
theorem dX7_takes_187 : decode cX7_takes 187 = .ok (.aload_n 0, 1) := by decide +kernel
theorem dX7_takes_188 : decode cX7_takes 188 = .ok (.getfield 38, 3) := by decide +kernel
theorem dX7_takes_191 : decode cX7_takes 191 = .ok (.iconst 0, 1) := by decide +kernel
theorem dX7_takes_192 : decode cX7_takes 192 = .ok (.iaload, 1) := by decide +kernel
theorem dX7_takes_193 : decode cX7_takes 193 = .ok (.goto 4, 3) := by decide +kernel
theorem dX7_takes_196 : decode cX7_takes 196 = .ok (.iconst 0, 1) := by decide +kernel
theorem dX7_takes_197 : decode cX7_takes 197 = .ok (.iastore, 1) := by decide +kernel
theorem dX7_takes_198 : decode cX7_takes 198 = .ok (.aload_n 0, 1) := by decide +kernel
theorem dX7_takes_199 : decode cX7_takes 199 = .ok (.getfield 7, 3) := by decide +kernel
theorem dX7_takes_202 : decode cX7_takes 202 = .ok (.iconst 4, 1) := by decide +kernel
theorem dX7_takes_203 : decode cX7_takes 203 = .ok (.iconst 1, 1) := by decide +kernel
theorem dX7_takes_204 : decode cX7_takes 204 = .ok (.iastore, 1) := by decide +kernel
theorem dX7_takes_205 : decode cX7_takes 205 = .ok (.aload_n 0, 1) := by decide +kernel
theorem dX7_takes_206 : decode cX7_takes 206 = .ok (.iconst 0, 1) := by decide +kernel
theorem dX7_takes_207 : decode cX7_takes 207 = .ok (.putfield 81, 3) := by decide +kernel
theorem dX7_takes_210 : decode cX7_takes 210 = .ok (.aload_n 0, 1) := by decide +kernel
theorem dX7_takes_211 : decode cX7_takes 211 = .ok (.iconst 0, 1) := by decide +kernel
theorem dX7_takes_212 : decode cX7_takes 212 = .ok (.putfield 84, 3) := by decide +kernel
theorem dX7_takes_215 : decode cX7_takes 215 = .ok (.aload_n 0, 1) := by decide +kernel
theorem dX7_takes_216 : decode cX7_takes 216 = .ok (.getfield 22, 3) := by decide +kernel
theorem dX7_takes_219 : decode cX7_takes 219 = .ok (.iconst 0, 1) := by decide +kernel
theorem dX7_takes_220 : decode cX7_takes 220 = .ok (.iconst 0, 1) := by decide +kernel
theorem dX7_takes_221 : decode cX7_takes 221 = .ok (.bastore, 1) := by decide +kernel
theorem dX7_takes_222 : decode cX7_takes 222 = .ok (.aload_n 0, 1) := by decide +kernel
theorem dX7_takes_223 : decode cX7_takes 223 = .ok (.getfield 22, 3) := by decide +kernel
theorem dX7_takes_226 : decode cX7_takes 226 = .ok (.iconst 1, 1) := by decide +kernel
theorem dX7_takes_227 : decode cX7_takes 227 = .ok (.iconst 0, 1) := by decide +kernel
theorem dX7_takes_228 : decode cX7_takes 228 = .ok (.bastore, 1) := by decide +kernel
theorem dX7_takes_229 : decode cX7_takes 229 = .ok (.return_, 1) := by decide +kernel
theorem dX7_blanks_0 : decode cX7_blanks 0 = .ok (.aload_n 0, 1) := by decide +kernel
theorem dX7_blanks_1 : decode cX7_blanks 1 = .ok (.getfield 87, 3) := by decide +kernel
theorem dX7_blanks_4 : decode cX7_blanks 4 = .ok (.aload_n 0, 1) := by decide +kernel
theorem dX7_blanks_5 : decode cX7_blanks 5 = .ok (.getfield 90, 3) := by decide +kernel
theorem dX7_blanks_8 : decode cX7_blanks 8 = .ok (.if_icmp .ge 30, 3) := by decide +kernel
theorem dX7_blanks_11 : decode cX7_blanks 11 = .ok (.aload_n 0, 1) := by decide +kernel
theorem dX7_blanks_12 : decode cX7_blanks 12 = .ok (.getfield 26, 3) := by decide +kernel
theorem dX7_blanks_15 : decode cX7_blanks 15 = .ok (.aload_n 0, 1) := by decide +kernel
theorem dX7_blanks_16 : decode cX7_blanks 16 = .ok (.getfield 87, 3) := by decide +kernel
theorem dX7_blanks_19 : decode cX7_blanks 19 = .ok (.iaload, 1) := by decide +kernel
theorem dX7_blanks_20 : decode cX7_blanks 20 = .ok (.bipush 32, 2) := by decide +kernel
theorem dX7_blanks_22 : decode cX7_blanks 22 = .ok (.if_icmp .ne 16, 3) := by decide +kernel
theorem dX7_blanks_25 : decode cX7_blanks 25 = .ok (.aload_n 0, 1) := by decide +kernel
theorem dX7_blanks_26 : decode cX7_blanks 26 = .ok (.dup, 1) := by decide +kernel
theorem dX7_blanks_27 : decode cX7_blanks 27 = .ok (.getfield 87, 3) := by decide +kernel
theorem dX7_blanks_30 : decode cX7_blanks 30 = .ok (.iconst 1, 1) := by decide +kernel
theorem dX7_blanks_31 : decode cX7_blanks 31 = .ok (.iadd, 1) := by decide +kernel
theorem dX7_blanks_32 : decode cX7_blanks 32 = .ok (.putfield 87, 3) := by decide +kernel
theorem dX7_blanks_35 : decode cX7_blanks 35 = .ok (.goto (-35), 3) := by decide +kernel
theorem dX7_blanks_38 : decode cX7_blanks 38 = .ok (.aload_n 0, 1) := by decide +kernel
theorem dX7_blanks_39 : decode cX7_blanks 39 = .ok (.aload_n 0, 1) := by decide +kernel
theorem dX7_blanks_40 : decode cX7_blanks 40 = .ok (.getfield 87, 3) := by decide +kernel
theorem dX7_blanks_43 : decode cX7_blanks 43 = .ok (.putfield 93, 3) := by decide +kernel
theorem dX7_blanks_46 : decode cX7_blanks 46 = .ok (.return_, 1) := by decide +kernel
theorem dX7_isAt_0 : decode cX7_isAt 0 = .ok (.aload_n 0, 1) := by decide +kernel
theorem dX7_isAt_1 : decode cX7_isAt 1 = .ok (.getfield 87, 3) := by decide +kernel
theorem dX7_isAt_4 : decode cX7_isAt 4 = .ok (.aload_n 0, 1) := by decide +kernel
theorem dX7_isAt_5 : decode cX7_isAt 5 = .ok (.getfield 90, 3) := by decide +kernel
theorem dX7_isAt_8 : decode cX7_isAt 8 = .ok (.if_icmp .ge 24, 3) := by decide +kernel
theorem dX7_isAt_11 : decode cX7_isAt 11 = .ok (.aload_n 0, 1) := by decide +kernel
theorem dX7_isAt_12 : decode cX7_isAt 12 = .ok (.getfield 26, 3) := by decide +kernel
theorem dX7_isAt_15 : decode cX7_isAt 15 = .ok (.aload_n 0, 1) := by decide +kernel
theorem dX7_isAt_16 : decode cX7_isAt 16 = .ok (.getfield 87, 3) := by decide +kernel
theorem dX7_isAt_19 : decode cX7_isAt 19 = .ok (.iaload, 1) := by decide +kernel
theorem dX7_isAt_20 : decode cX7_isAt 20 = .ok (.iload_n 1, 1) := by decide +kernel
theorem dX7_isAt_21 : decode cX7_isAt 21 = .ok (.iload_n 2, 1) := by decide +kernel
theorem dX7_isAt_22 : decode cX7_isAt 22 = .ok (.invokestatic 96, 3) := by decide +kernel
theorem dX7_isAt_25 : decode cX7_isAt 25 = .ok (.ifCond .eq 7, 3) := by decide +kernel
theorem dX7_isAt_28 : decode cX7_isAt 28 = .ok (.iconst 1, 1) := by decide +kernel
theorem dX7_isAt_29 : decode cX7_isAt 29 = .ok (.goto 4, 3) := by decide +kernel
theorem dX7_isAt_32 : decode cX7_isAt 32 = .ok (.iconst 0, 1) := by decide +kernel
theorem dX7_isAt_33 : decode cX7_isAt 33 = .ok (.ireturn, 1) := by decide +kernel
theorem dX7_takesSign_0 : decode cX7_takesSign 0 = .ok (.aload_n 0, 1) := by decide +kernel
theorem dX7_takesSign_1 : decode cX7_takesSign 1 = .ok (.invokevirtual 100, 3) := by decide +kernel
theorem dX7_takesSign_4 : decode cX7_takesSign 4 = .ok (.aload_n 0, 1) := by decide +kernel
theorem dX7_takesSign_5 : decode cX7_takesSign 5 = .ok (.iload_n 1, 1) := by decide +kernel
theorem dX7_takesSign_6 : decode cX7_takesSign 6 = .ok (.iload_n 1, 1) := by decide +kernel
theorem dX7_takesSign_7 : decode cX7_takesSign 7 = .ok (.invokevirtual 103, 3) := by decide +kernel
theorem dX7_takesSign_10 : decode cX7_takesSign 10 = .ok (.istore_n 2, 1) := by decide +kernel
theorem dX7_takesSign_11 : decode cX7_takesSign 11 = .ok (.aload_n 0, 1) := by decide +kernel
theorem dX7_takesSign_12 : decode cX7_takesSign 12 = .ok (.dup, 1) := by decide +kernel
theorem dX7_takesSign_13 : decode cX7_takesSign 13 = .ok (.getfield 87, 3) := by decide +kernel
theorem dX7_takesSign_16 : decode cX7_takesSign 16 = .ok (.iload_n 2, 1) := by decide +kernel
theorem dX7_takesSign_17 : decode cX7_takesSign 17 = .ok (.ifCond .eq 7, 3) := by decide +kernel
theorem dX7_takesSign_20 : decode cX7_takesSign 20 = .ok (.iconst 1, 1) := by decide +kernel
theorem dX7_takesSign_21 : decode cX7_takesSign 21 = .ok (.goto 4, 3) := by decide +kernel
theorem dX7_takesSign_24 : decode cX7_takesSign 24 = .ok (.iconst 0, 1) := by decide +kernel
theorem dX7_takesSign_25 : decode cX7_takesSign 25 = .ok (.iadd, 1) := by decide +kernel
theorem dX7_takesSign_26 : decode cX7_takesSign 26 = .ok (.putfield 87, 3) := by decide +kernel
theorem dX7_takesSign_29 : decode cX7_takesSign 29 = .ok (.iload_n 2, 1) := by decide +kernel
theorem dX7_takesSign_30 : decode cX7_takesSign 30 = .ok (.ireturn, 1) := by decide +kernel
theorem dX7_takesNumber_0 : decode cX7_takesNumber 0 = .ok (.aload_n 0, 1) := by decide +kernel
theorem dX7_takesNumber_1 : decode cX7_takesNumber 1 = .ok (.invokevirtual 100, 3) := by decide +kernel
theorem dX7_takesNumber_4 : decode cX7_takesNumber 4 = .ok (.aload_n 0, 1) := by decide +kernel
theorem dX7_takesNumber_5 : decode cX7_takesNumber 5 = .ok (.iconst 0, 1) := by decide +kernel
theorem dX7_takesNumber_6 : decode cX7_takesNumber 6 = .ok (.putfield 107, 3) := by decide +kernel
theorem dX7_takesNumber_9 : decode cX7_takesNumber 9 = .ok (.aload_n 0, 1) := by decide +kernel
theorem dX7_takesNumber_10 : decode cX7_takesNumber 10 = .ok (.bipush 48, 2) := by decide +kernel
theorem dX7_takesNumber_12 : decode cX7_takesNumber 12 = .ok (.bipush 57, 2) := by decide +kernel
theorem dX7_takesNumber_14 : decode cX7_takesNumber 14 = .ok (.invokevirtual 103, 3) := by decide +kernel
theorem dX7_takesNumber_17 : decode cX7_takesNumber 17 = .ok (.ifCond .eq 54, 3) := by decide +kernel
theorem dX7_takesNumber_20 : decode cX7_takesNumber 20 = .ok (.aload_n 0, 1) := by decide +kernel
theorem dX7_takesNumber_21 : decode cX7_takesNumber 21 = .ok (.aload_n 0, 1) := by decide +kernel
theorem dX7_takesNumber_22 : decode cX7_takesNumber 22 = .ok (.getfield 107, 3) := by decide +kernel
theorem dX7_takesNumber_25 : decode cX7_takesNumber 25 = .ok (.bipush 99, 2) := by decide +kernel
theorem dX7_takesNumber_27 : decode cX7_takesNumber 27 = .ok (.if_icmp .le 8, 3) := by decide +kernel
theorem dX7_takesNumber_30 : decode cX7_takesNumber 30 = .ok (.bipush 100, 2) := by decide +kernel
theorem dX7_takesNumber_32 : decode cX7_takesNumber 32 = .ok (.goto 23, 3) := by decide +kernel
theorem dX7_takesNumber_35 : decode cX7_takesNumber 35 = .ok (.bipush 10, 2) := by decide +kernel
theorem dX7_takesNumber_37 : decode cX7_takesNumber 37 = .ok (.aload_n 0, 1) := by decide +kernel
theorem dX7_takesNumber_38 : decode cX7_takesNumber 38 = .ok (.getfield 107, 3) := by decide +kernel
theorem dX7_takesNumber_41 : decode cX7_takesNumber 41 = .ok (.imul, 1) := by decide +kernel
theorem dX7_takesNumber_42 : decode cX7_takesNumber 42 = .ok (.aload_n 0, 1) := by decide +kernel
theorem dX7_takesNumber_43 : decode cX7_takesNumber 43 = .ok (.getfield 26, 3) := by decide +kernel
theorem dX7_takesNumber_46 : decode cX7_takesNumber 46 = .ok (.aload_n 0, 1) := by decide +kernel
theorem dX7_takesNumber_47 : decode cX7_takesNumber 47 = .ok (.getfield 87, 3) := by decide +kernel
theorem dX7_takesNumber_50 : decode cX7_takesNumber 50 = .ok (.iaload, 1) := by decide +kernel
theorem dX7_takesNumber_51 : decode cX7_takesNumber 51 = .ok (.iadd, 1) := by decide +kernel
theorem dX7_takesNumber_52 : decode cX7_takesNumber 52 = .ok (.bipush 48, 2) := by decide +kernel
theorem dX7_takesNumber_54 : decode cX7_takesNumber 54 = .ok (.isub, 1) := by decide +kernel
theorem dX7_takesNumber_55 : decode cX7_takesNumber 55 = .ok (.putfield 107, 3) := by decide +kernel
theorem dX7_takesNumber_58 : decode cX7_takesNumber 58 = .ok (.aload_n 0, 1) := by decide +kernel
theorem dX7_takesNumber_59 : decode cX7_takesNumber 59 = .ok (.dup, 1) := by decide +kernel
theorem dX7_takesNumber_60 : decode cX7_takesNumber 60 = .ok (.getfield 87, 3) := by decide +kernel
theorem dX7_takesNumber_63 : decode cX7_takesNumber 63 = .ok (.iconst 1, 1) := by decide +kernel
theorem dX7_takesNumber_64 : decode cX7_takesNumber 64 = .ok (.iadd, 1) := by decide +kernel
theorem dX7_takesNumber_65 : decode cX7_takesNumber 65 = .ok (.putfield 87, 3) := by decide +kernel
theorem dX7_takesNumber_68 : decode cX7_takesNumber 68 = .ok (.goto (-59), 3) := by decide +kernel
theorem dX7_takesNumber_71 : decode cX7_takesNumber 71 = .ok (.aload_n 0, 1) := by decide +kernel
theorem dX7_takesNumber_72 : decode cX7_takesNumber 72 = .ok (.getfield 87, 3) := by decide +kernel
theorem dX7_takesNumber_75 : decode cX7_takesNumber 75 = .ok (.aload_n 0, 1) := by decide +kernel
theorem dX7_takesNumber_76 : decode cX7_takesNumber 76 = .ok (.getfield 93, 3) := by decide +kernel
theorem dX7_takesNumber_79 : decode cX7_takesNumber 79 = .ok (.iconst 1, 1) := by decide +kernel
theorem dX7_takesNumber_80 : decode cX7_takesNumber 80 = .ok (.iadd, 1) := by decide +kernel
theorem dX7_takesNumber_81 : decode cX7_takesNumber 81 = .ok (.if_icmp .eq 28, 3) := by decide +kernel
theorem dX7_takesNumber_84 : decode cX7_takesNumber 84 = .ok (.aload_n 0, 1) := by decide +kernel
theorem dX7_takesNumber_85 : decode cX7_takesNumber 85 = .ok (.getfield 87, 3) := by decide +kernel
theorem dX7_takesNumber_88 : decode cX7_takesNumber 88 = .ok (.aload_n 0, 1) := by decide +kernel
theorem dX7_takesNumber_89 : decode cX7_takesNumber 89 = .ok (.getfield 93, 3) := by decide +kernel
theorem dX7_takesNumber_92 : decode cX7_takesNumber 92 = .ok (.if_icmp .le 21, 3) := by decide +kernel
theorem dX7_takesNumber_95 : decode cX7_takesNumber 95 = .ok (.aload_n 0, 1) := by decide +kernel
theorem dX7_takesNumber_96 : decode cX7_takesNumber 96 = .ok (.getfield 26, 3) := by decide +kernel
theorem dX7_takesNumber_99 : decode cX7_takesNumber 99 = .ok (.aload_n 0, 1) := by decide +kernel
theorem dX7_takesNumber_100 : decode cX7_takesNumber 100 = .ok (.getfield 93, 3) := by decide +kernel
theorem dX7_takesNumber_103 : decode cX7_takesNumber 103 = .ok (.iaload, 1) := by decide +kernel
theorem dX7_takesNumber_104 : decode cX7_takesNumber 104 = .ok (.bipush 48, 2) := by decide +kernel
theorem dX7_takesNumber_106 : decode cX7_takesNumber 106 = .ok (.if_icmp .eq 7, 3) := by decide +kernel
theorem dX7_takesNumber_109 : decode cX7_takesNumber 109 = .ok (.iconst 1, 1) := by decide +kernel
theorem dX7_takesNumber_110 : decode cX7_takesNumber 110 = .ok (.goto 4, 3) := by decide +kernel
theorem dX7_takesNumber_113 : decode cX7_takesNumber 113 = .ok (.iconst 0, 1) := by decide +kernel
theorem dX7_takesNumber_114 : decode cX7_takesNumber 114 = .ok (.istore_n 3, 1) := by decide +kernel
theorem dX7_takesNumber_115 : decode cX7_takesNumber 115 = .ok (.iload_n 3, 1) := by decide +kernel
theorem dX7_takesNumber_116 : decode cX7_takesNumber 116 = .ok (.ifCond .eq 19, 3) := by decide +kernel
theorem dX7_takesNumber_119 : decode cX7_takesNumber 119 = .ok (.aload_n 0, 1) := by decide +kernel
theorem dX7_takesNumber_120 : decode cX7_takesNumber 120 = .ok (.getfield 107, 3) := by decide +kernel
theorem dX7_takesNumber_123 : decode cX7_takesNumber 123 = .ok (.iload_n 1, 1) := by decide +kernel
theorem dX7_takesNumber_124 : decode cX7_takesNumber 124 = .ok (.iload_n 2, 1) := by decide +kernel
theorem dX7_takesNumber_125 : decode cX7_takesNumber 125 = .ok (.invokestatic 96, 3) := by decide +kernel
theorem dX7_takesNumber_128 : decode cX7_takesNumber 128 = .ok (.ifCond .eq 7, 3) := by decide +kernel
theorem dX7_takesNumber_131 : decode cX7_takesNumber 131 = .ok (.iconst 1, 1) := by decide +kernel
theorem dX7_takesNumber_132 : decode cX7_takesNumber 132 = .ok (.goto 4, 3) := by decide +kernel
theorem dX7_takesNumber_135 : decode cX7_takesNumber 135 = .ok (.iconst 0, 1) := by decide +kernel
theorem dX7_takesNumber_136 : decode cX7_takesNumber 136 = .ok (.ireturn, 1) := by decide +kernel
theorem dX7_takesUnit_0 : decode cX7_takesUnit 0 = .ok (.aload_n 0, 1) := by decide +kernel
theorem dX7_takesUnit_1 : decode cX7_takesUnit 1 = .ok (.getfield 68, 3) := by decide +kernel
theorem dX7_takesUnit_4 : decode cX7_takesUnit 4 = .ok (.iconst 4, 1) := by decide +kernel
theorem dX7_takesUnit_5 : decode cX7_takesUnit 5 = .ok (.if_icmp .ne 5, 3) := by decide +kernel
theorem dX7_takesUnit_8 : decode cX7_takesUnit 8 = .ok (.iconst 0, 1) := by decide +kernel
theorem dX7_takesUnit_9 : decode cX7_takesUnit 9 = .ok (.ireturn, 1) := by decide +kernel
theorem dX7_takesUnit_10 : decode cX7_takesUnit 10 = .ok (.aload_n 0, 1) := by decide +kernel
theorem dX7_takesUnit_11 : decode cX7_takesUnit 11 = .ok (.dup, 1) := by decide +kernel
theorem dX7_takesUnit_12 : decode cX7_takesUnit 12 = .ok (.getfield 87, 3) := by decide +kernel
theorem dX7_takesUnit_15 : decode cX7_takesUnit 15 = .ok (.iconst 1, 1) := by decide +kernel
theorem dX7_takesUnit_16 : decode cX7_takesUnit 16 = .ok (.iadd, 1) := by decide +kernel
theorem dX7_takesUnit_17 : decode cX7_takesUnit 17 = .ok (.putfield 87, 3) := by decide +kernel
theorem dX7_takesUnit_20 : decode cX7_takesUnit 20 = .ok (.aload_n 0, 1) := by decide +kernel
theorem dX7_takesUnit_21 : decode cX7_takesUnit 21 = .ok (.iconst 1, 1) := by decide +kernel
theorem dX7_takesUnit_22 : decode cX7_takesUnit 22 = .ok (.bipush 6, 2) := by decide +kernel
theorem dX7_takesUnit_24 : decode cX7_takesUnit 24 = .ok (.invokevirtual 110, 3) := by decide +kernel
theorem dX7_takesUnit_27 : decode cX7_takesUnit 27 = .ok (.ifCond .ne 5, 3) := by decide +kernel
theorem dX7_takesUnit_30 : decode cX7_takesUnit 30 = .ok (.iconst 0, 1) := by decide +kernel
theorem dX7_takesUnit_31 : decode cX7_takesUnit 31 = .ok (.ireturn, 1) := by decide +kernel
theorem dX7_takesUnit_32 : decode cX7_takesUnit 32 = .ok (.aload_n 0, 1) := by decide +kernel
theorem dX7_takesUnit_33 : decode cX7_takesUnit 33 = .ok (.getfield 47, 3) := by decide +kernel
theorem dX7_takesUnit_36 : decode cX7_takesUnit 36 = .ok (.aload_n 0, 1) := by decide +kernel
theorem dX7_takesUnit_37 : decode cX7_takesUnit 37 = .ok (.getfield 68, 3) := by decide +kernel
theorem dX7_takesUnit_40 : decode cX7_takesUnit 40 = .ok (.aload_n 0, 1) := by decide +kernel
theorem dX7_takesUnit_41 : decode cX7_takesUnit 41 = .ok (.getfield 107, 3) := by decide +kernel
theorem dX7_takesUnit_44 : decode cX7_takesUnit 44 = .ok (.iastore, 1) := by decide +kernel
theorem dX7_takesUnit_45 : decode cX7_takesUnit 45 = .ok (.aload_n 0, 1) := by decide +kernel
theorem dX7_takesUnit_46 : decode cX7_takesUnit 46 = .ok (.dup, 1) := by decide +kernel
theorem dX7_takesUnit_47 : decode cX7_takesUnit 47 = .ok (.getfield 68, 3) := by decide +kernel
theorem dX7_takesUnit_50 : decode cX7_takesUnit 50 = .ok (.iconst 1, 1) := by decide +kernel
theorem dX7_takesUnit_51 : decode cX7_takesUnit 51 = .ok (.iadd, 1) := by decide +kernel
theorem dX7_takesUnit_52 : decode cX7_takesUnit 52 = .ok (.putfield 68, 3) := by decide +kernel
theorem dX7_takesUnit_55 : decode cX7_takesUnit 55 = .ok (.aload_n 0, 1) := by decide +kernel
theorem dX7_takesUnit_56 : decode cX7_takesUnit 56 = .ok (.bipush 59, 2) := by decide +kernel
theorem dX7_takesUnit_58 : decode cX7_takesUnit 58 = .ok (.invokevirtual 113, 3) := by decide +kernel
theorem dX7_takesUnit_61 : decode cX7_takesUnit 61 = .ok (.ireturn, 1) := by decide +kernel
theorem dX7_takesReel_0 : decode cX7_takesReel 0 = .ok (.aload_n 0, 1) := by decide +kernel
theorem dX7_takesReel_1 : decode cX7_takesReel 1 = .ok (.getfield 72, 3) := by decide +kernel
theorem dX7_takesReel_4 : decode cX7_takesReel 4 = .ok (.bipush 8, 2) := by decide +kernel
theorem dX7_takesReel_6 : decode cX7_takesReel 6 = .ok (.if_icmp .ne 5, 3) := by decide +kernel
theorem dX7_takesReel_9 : decode cX7_takesReel 9 = .ok (.iconst 0, 1) := by decide +kernel
theorem dX7_takesReel_10 : decode cX7_takesReel 10 = .ok (.ireturn, 1) := by decide +kernel
theorem dX7_takesReel_11 : decode cX7_takesReel 11 = .ok (.aload_n 0, 1) := by decide +kernel
theorem dX7_takesReel_12 : decode cX7_takesReel 12 = .ok (.dup, 1) := by decide +kernel
theorem dX7_takesReel_13 : decode cX7_takesReel 13 = .ok (.getfield 87, 3) := by decide +kernel
theorem dX7_takesReel_16 : decode cX7_takesReel 16 = .ok (.iconst 1, 1) := by decide +kernel
theorem dX7_takesReel_17 : decode cX7_takesReel 17 = .ok (.iadd, 1) := by decide +kernel
theorem dX7_takesReel_18 : decode cX7_takesReel 18 = .ok (.putfield 87, 3) := by decide +kernel
theorem dX7_takesReel_21 : decode cX7_takesReel 21 = .ok (.aload_n 0, 1) := by decide +kernel
theorem dX7_takesReel_22 : decode cX7_takesReel 22 = .ok (.iconst 1, 1) := by decide +kernel
theorem dX7_takesReel_23 : decode cX7_takesReel 23 = .ok (.bipush 99, 2) := by decide +kernel
theorem dX7_takesReel_25 : decode cX7_takesReel 25 = .ok (.invokevirtual 110, 3) := by decide +kernel
theorem dX7_takesReel_28 : decode cX7_takesReel 28 = .ok (.ifCond .ne 5, 3) := by decide +kernel
theorem dX7_takesReel_31 : decode cX7_takesReel 31 = .ok (.iconst 0, 1) := by decide +kernel
theorem dX7_takesReel_32 : decode cX7_takesReel 32 = .ok (.ireturn, 1) := by decide +kernel
theorem dX7_takesReel_33 : decode cX7_takesReel 33 = .ok (.aload_n 0, 1) := by decide +kernel
theorem dX7_takesReel_34 : decode cX7_takesReel 34 = .ok (.getfield 50, 3) := by decide +kernel
theorem dX7_takesReel_37 : decode cX7_takesReel 37 = .ok (.aload_n 0, 1) := by decide +kernel
theorem dX7_takesReel_38 : decode cX7_takesReel 38 = .ok (.getfield 72, 3) := by decide +kernel
theorem dX7_takesReel_41 : decode cX7_takesReel 41 = .ok (.aload_n 0, 1) := by decide +kernel
theorem dX7_takesReel_42 : decode cX7_takesReel 42 = .ok (.getfield 107, 3) := by decide +kernel
theorem dX7_takesReel_45 : decode cX7_takesReel 45 = .ok (.iastore, 1) := by decide +kernel
theorem dX7_takesReel_46 : decode cX7_takesReel 46 = .ok (.aload_n 0, 1) := by decide +kernel
theorem dX7_takesReel_47 : decode cX7_takesReel 47 = .ok (.bipush 45, 2) := by decide +kernel
theorem dX7_takesReel_49 : decode cX7_takesReel 49 = .ok (.invokevirtual 113, 3) := by decide +kernel
theorem dX7_takesReel_52 : decode cX7_takesReel 52 = .ok (.istore_n 1, 1) := by decide +kernel
theorem dX7_takesReel_53 : decode cX7_takesReel 53 = .ok (.aload_n 0, 1) := by decide +kernel
theorem dX7_takesReel_54 : decode cX7_takesReel 54 = .ok (.iconst 0, 1) := by decide +kernel
theorem dX7_takesReel_55 : decode cX7_takesReel 55 = .ok (.bipush 9, 2) := by decide +kernel
theorem dX7_takesReel_57 : decode cX7_takesReel 57 = .ok (.invokevirtual 110, 3) := by decide +kernel
theorem dX7_takesReel_60 : decode cX7_takesReel 60 = .ok (.ifCond .ne 5, 3) := by decide +kernel
theorem dX7_takesReel_63 : decode cX7_takesReel 63 = .ok (.iconst 0, 1) := by decide +kernel
theorem dX7_takesReel_64 : decode cX7_takesReel 64 = .ok (.ireturn, 1) := by decide +kernel
theorem dX7_takesReel_65 : decode cX7_takesReel 65 = .ok (.aload_n 0, 1) := by decide +kernel
theorem dX7_takesReel_66 : decode cX7_takesReel 66 = .ok (.getfield 53, 3) := by decide +kernel
theorem dX7_takesReel_69 : decode cX7_takesReel 69 = .ok (.aload_n 0, 1) := by decide +kernel
theorem dX7_takesReel_70 : decode cX7_takesReel 70 = .ok (.getfield 72, 3) := by decide +kernel
theorem dX7_takesReel_73 : decode cX7_takesReel 73 = .ok (.iload_n 1, 1) := by decide +kernel
theorem dX7_takesReel_74 : decode cX7_takesReel 74 = .ok (.ifCond .eq 11, 3) := by decide +kernel
theorem dX7_takesReel_77 : decode cX7_takesReel 77 = .ok (.aload_n 0, 1) := by decide +kernel
theorem dX7_takesReel_78 : decode cX7_takesReel 78 = .ok (.getfield 107, 3) := by decide +kernel
theorem dX7_takesReel_81 : decode cX7_takesReel 81 = .ok (.ineg, 1) := by decide +kernel
theorem dX7_takesReel_82 : decode cX7_takesReel 82 = .ok (.goto 7, 3) := by decide +kernel
theorem dX7_takesReel_85 : decode cX7_takesReel 85 = .ok (.aload_n 0, 1) := by decide +kernel
theorem dX7_takesReel_86 : decode cX7_takesReel 86 = .ok (.getfield 107, 3) := by decide +kernel
theorem dX7_takesReel_89 : decode cX7_takesReel 89 = .ok (.iastore, 1) := by decide +kernel
theorem dX7_takesReel_90 : decode cX7_takesReel 90 = .ok (.aload_n 0, 1) := by decide +kernel
theorem dX7_takesReel_91 : decode cX7_takesReel 91 = .ok (.dup, 1) := by decide +kernel
theorem dX7_takesReel_92 : decode cX7_takesReel 92 = .ok (.getfield 72, 3) := by decide +kernel
theorem dX7_takesReel_95 : decode cX7_takesReel 95 = .ok (.iconst 1, 1) := by decide +kernel
theorem dX7_takesReel_96 : decode cX7_takesReel 96 = .ok (.iadd, 1) := by decide +kernel
theorem dX7_takesReel_97 : decode cX7_takesReel 97 = .ok (.putfield 72, 3) := by decide +kernel
theorem dX7_takesReel_100 : decode cX7_takesReel 100 = .ok (.aload_n 0, 1) := by decide +kernel
theorem dX7_takesReel_101 : decode cX7_takesReel 101 = .ok (.bipush 59, 2) := by decide +kernel
theorem dX7_takesReel_103 : decode cX7_takesReel 103 = .ok (.invokevirtual 113, 3) := by decide +kernel
theorem dX7_takesReel_106 : decode cX7_takesReel 106 = .ok (.ireturn, 1) := by decide +kernel
theorem dX7_takesSetting_0 : decode cX7_takesSetting 0 = .ok (.aload_n 0, 1) := by decide +kernel
theorem dX7_takesSetting_1 : decode cX7_takesSetting 1 = .ok (.getfield 59, 3) := by decide +kernel
theorem dX7_takesSetting_4 : decode cX7_takesSetting 4 = .ok (.iload_n 1, 1) := by decide +kernel
theorem dX7_takesSetting_5 : decode cX7_takesSetting 5 = .ok (.baload, 1) := by decide +kernel
theorem dX7_takesSetting_6 : decode cX7_takesSetting 6 = .ok (.ifCond .eq 5, 3) := by decide +kernel
theorem dX7_takesSetting_9 : decode cX7_takesSetting 9 = .ok (.iconst 0, 1) := by decide +kernel
theorem dX7_takesSetting_10 : decode cX7_takesSetting 10 = .ok (.ireturn, 1) := by decide +kernel
theorem dX7_takesSetting_11 : decode cX7_takesSetting 11 = .ok (.aload_n 0, 1) := by decide +kernel
theorem dX7_takesSetting_12 : decode cX7_takesSetting 12 = .ok (.getfield 59, 3) := by decide +kernel
theorem dX7_takesSetting_15 : decode cX7_takesSetting 15 = .ok (.iload_n 1, 1) := by decide +kernel
theorem dX7_takesSetting_16 : decode cX7_takesSetting 16 = .ok (.iconst 1, 1) := by decide +kernel
theorem dX7_takesSetting_17 : decode cX7_takesSetting 17 = .ok (.bastore, 1) := by decide +kernel
theorem dX7_takesSetting_18 : decode cX7_takesSetting 18 = .ok (.aload_n 0, 1) := by decide +kernel
theorem dX7_takesSetting_19 : decode cX7_takesSetting 19 = .ok (.dup, 1) := by decide +kernel
theorem dX7_takesSetting_20 : decode cX7_takesSetting 20 = .ok (.getfield 87, 3) := by decide +kernel
theorem dX7_takesSetting_23 : decode cX7_takesSetting 23 = .ok (.iconst 1, 1) := by decide +kernel
theorem dX7_takesSetting_24 : decode cX7_takesSetting 24 = .ok (.iadd, 1) := by decide +kernel
theorem dX7_takesSetting_25 : decode cX7_takesSetting 25 = .ok (.putfield 87, 3) := by decide +kernel
theorem dX7_takesSetting_28 : decode cX7_takesSetting 28 = .ok (.aload_n 0, 1) := by decide +kernel
theorem dX7_takesSetting_29 : decode cX7_takesSetting 29 = .ok (.iload_n 1, 1) := by decide +kernel
theorem dX7_takesSetting_30 : decode cX7_takesSetting 30 = .ok (.iconst 2, 1) := by decide +kernel
theorem dX7_takesSetting_31 : decode cX7_takesSetting 31 = .ok (.if_icmp .ne 7, 3) := by decide +kernel
theorem dX7_takesSetting_34 : decode cX7_takesSetting 34 = .ok (.iconst 0, 1) := by decide +kernel
theorem dX7_takesSetting_35 : decode cX7_takesSetting 35 = .ok (.goto 4, 3) := by decide +kernel
theorem dX7_takesSetting_38 : decode cX7_takesSetting 38 = .ok (.iconst 1, 1) := by decide +kernel
theorem dX7_takesSetting_39 : decode cX7_takesSetting 39 = .ok (.iload_n 1, 1) := by decide +kernel
theorem dX7_takesSetting_40 : decode cX7_takesSetting 40 = .ok (.ifCond .eq 8, 3) := by decide +kernel
theorem dX7_takesSetting_43 : decode cX7_takesSetting 43 = .ok (.iload_n 1, 1) := by decide +kernel
theorem dX7_takesSetting_44 : decode cX7_takesSetting 44 = .ok (.iconst 2, 1) := by decide +kernel
theorem dX7_takesSetting_45 : decode cX7_takesSetting 45 = .ok (.if_icmp .ne 8, 3) := by decide +kernel
theorem dX7_takesSetting_48 : decode cX7_takesSetting 48 = .ok (.bipush 9, 2) := by decide +kernel
theorem dX7_takesSetting_50 : decode cX7_takesSetting 50 = .ok (.goto 5, 3) := by decide +kernel
theorem dX7_takesSetting_53 : decode cX7_takesSetting 53 = .ok (.bipush 20, 2) := by decide +kernel
theorem dX7_takesSetting_55 : decode cX7_takesSetting 55 = .ok (.invokevirtual 110, 3) := by decide +kernel
theorem dX7_takesSetting_58 : decode cX7_takesSetting 58 = .ok (.ifCond .ne 5, 3) := by decide +kernel
theorem dX7_takesSetting_61 : decode cX7_takesSetting 61 = .ok (.iconst 0, 1) := by decide +kernel
theorem dX7_takesSetting_62 : decode cX7_takesSetting 62 = .ok (.ireturn, 1) := by decide +kernel
theorem dX7_takesSetting_63 : decode cX7_takesSetting 63 = .ok (.aload_n 0, 1) := by decide +kernel
theorem dX7_takesSetting_64 : decode cX7_takesSetting 64 = .ok (.getfield 56, 3) := by decide +kernel
theorem dX7_takesSetting_67 : decode cX7_takesSetting 67 = .ok (.iload_n 1, 1) := by decide +kernel
theorem dX7_takesSetting_68 : decode cX7_takesSetting 68 = .ok (.aload_n 0, 1) := by decide +kernel
theorem dX7_takesSetting_69 : decode cX7_takesSetting 69 = .ok (.getfield 107, 3) := by decide +kernel
theorem dX7_takesSetting_72 : decode cX7_takesSetting 72 = .ok (.iastore, 1) := by decide +kernel
theorem dX7_takesSetting_73 : decode cX7_takesSetting 73 = .ok (.aload_n 0, 1) := by decide +kernel
theorem dX7_takesSetting_74 : decode cX7_takesSetting 74 = .ok (.bipush 59, 2) := by decide +kernel
theorem dX7_takesSetting_76 : decode cX7_takesSetting 76 = .ok (.invokevirtual 113, 3) := by decide +kernel
theorem dX7_takesSetting_79 : decode cX7_takesSetting 79 = .ok (.ireturn, 1) := by decide +kernel
theorem dX7_takesItem_0 : decode cX7_takesItem 0 = .ok (.aload_n 0, 1) := by decide +kernel
theorem dX7_takesItem_1 : decode cX7_takesItem 1 = .ok (.getfield 26, 3) := by decide +kernel
theorem dX7_takesItem_4 : decode cX7_takesItem 4 = .ok (.aload_n 0, 1) := by decide +kernel
theorem dX7_takesItem_5 : decode cX7_takesItem 5 = .ok (.getfield 87, 3) := by decide +kernel
theorem dX7_takesItem_8 : decode cX7_takesItem 8 = .ok (.iaload, 1) := by decide +kernel
theorem dX7_takesItem_9 : decode cX7_takesItem 9 = .ok (.tableswitch 117 101 117 #[93, 117, 117, 117, 105, 117, 117, 99, 117, 117, 117, 111, 117, 88, 117, 117, 83], 83) := by decide +kernel
theorem dX7_takesItem_92 : decode cX7_takesItem 92 = .ok (.aload_n 0, 1) := by decide +kernel
theorem dX7_takesItem_93 : decode cX7_takesItem 93 = .ok (.invokevirtual 117, 3) := by decide +kernel
theorem dX7_takesItem_96 : decode cX7_takesItem 96 = .ok (.ireturn, 1) := by decide +kernel
theorem dX7_takesItem_97 : decode cX7_takesItem 97 = .ok (.aload_n 0, 1) := by decide +kernel
theorem dX7_takesItem_98 : decode cX7_takesItem 98 = .ok (.invokevirtual 121, 3) := by decide +kernel
theorem dX7_takesItem_101 : decode cX7_takesItem 101 = .ok (.ireturn, 1) := by decide +kernel
theorem dX7_takesItem_102 : decode cX7_takesItem 102 = .ok (.aload_n 0, 1) := by decide +kernel
theorem dX7_takesItem_103 : decode cX7_takesItem 103 = .ok (.iconst 0, 1) := by decide +kernel
theorem dX7_takesItem_104 : decode cX7_takesItem 104 = .ok (.invokevirtual 124, 3) := by decide +kernel
theorem dX7_takesItem_107 : decode cX7_takesItem 107 = .ok (.ireturn, 1) := by decide +kernel
theorem dX7_takesItem_108 : decode cX7_takesItem 108 = .ok (.aload_n 0, 1) := by decide +kernel
theorem dX7_takesItem_109 : decode cX7_takesItem 109 = .ok (.iconst 1, 1) := by decide +kernel
theorem dX7_takesItem_110 : decode cX7_takesItem 110 = .ok (.invokevirtual 124, 3) := by decide +kernel
theorem dX7_takesItem_113 : decode cX7_takesItem 113 = .ok (.ireturn, 1) := by decide +kernel
theorem dX7_takesItem_114 : decode cX7_takesItem 114 = .ok (.aload_n 0, 1) := by decide +kernel
theorem dX7_takesItem_115 : decode cX7_takesItem 115 = .ok (.iconst 2, 1) := by decide +kernel
theorem dX7_takesItem_116 : decode cX7_takesItem 116 = .ok (.invokevirtual 124, 3) := by decide +kernel
theorem dX7_takesItem_119 : decode cX7_takesItem 119 = .ok (.ireturn, 1) := by decide +kernel
theorem dX7_takesItem_120 : decode cX7_takesItem 120 = .ok (.aload_n 0, 1) := by decide +kernel
theorem dX7_takesItem_121 : decode cX7_takesItem 121 = .ok (.iconst 3, 1) := by decide +kernel
theorem dX7_takesItem_122 : decode cX7_takesItem 122 = .ok (.invokevirtual 124, 3) := by decide +kernel
theorem dX7_takesItem_125 : decode cX7_takesItem 125 = .ok (.ireturn, 1) := by decide +kernel
theorem dX7_takesItem_126 : decode cX7_takesItem 126 = .ok (.iconst 0, 1) := by decide +kernel
theorem dX7_takesItem_127 : decode cX7_takesItem 127 = .ok (.ireturn, 1) := by decide +kernel
theorem dX7_reads_0 : decode cX7_reads 0 = .ok (.aload_n 0, 1) := by decide +kernel
theorem dX7_reads_1 : decode cX7_reads 1 = .ok (.invokevirtual 62, 3) := by decide +kernel
theorem dX7_reads_4 : decode cX7_reads 4 = .ok (.aload_n 0, 1) := by decide +kernel
theorem dX7_reads_5 : decode cX7_reads 5 = .ok (.iconst 0, 1) := by decide +kernel
theorem dX7_reads_6 : decode cX7_reads 6 = .ok (.putfield 87, 3) := by decide +kernel
theorem dX7_reads_9 : decode cX7_reads 9 = .ok (.iconst 0, 1) := by decide +kernel
theorem dX7_reads_10 : decode cX7_reads 10 = .ok (.istore_n 1, 1) := by decide +kernel
theorem dX7_reads_11 : decode cX7_reads 11 = .ok (.aload_n 0, 1) := by decide +kernel
theorem dX7_reads_12 : decode cX7_reads 12 = .ok (.invokevirtual 100, 3) := by decide +kernel
theorem dX7_reads_15 : decode cX7_reads 15 = .ok (.aload_n 0, 1) := by decide +kernel
theorem dX7_reads_16 : decode cX7_reads 16 = .ok (.getfield 87, 3) := by decide +kernel
theorem dX7_reads_19 : decode cX7_reads 19 = .ok (.aload_n 0, 1) := by decide +kernel
theorem dX7_reads_20 : decode cX7_reads 20 = .ok (.getfield 90, 3) := by decide +kernel
theorem dX7_reads_23 : decode cX7_reads 23 = .ok (.if_icmp .ge 28, 3) := by decide +kernel
theorem dX7_reads_26 : decode cX7_reads 26 = .ok (.aload_n 0, 1) := by decide +kernel
theorem dX7_reads_27 : decode cX7_reads 27 = .ok (.invokevirtual 127, 3) := by decide +kernel
theorem dX7_reads_30 : decode cX7_reads 30 = .ok (.ifCond .ne 11, 3) := by decide +kernel
theorem dX7_reads_33 : decode cX7_reads 33 = .ok (.bipush (-10), 2) := by decide +kernel
theorem dX7_reads_35 : decode cX7_reads 35 = .ok (.aload_n 0, 1) := by decide +kernel
theorem dX7_reads_36 : decode cX7_reads 36 = .ok (.getfield 93, 3) := by decide +kernel
theorem dX7_reads_39 : decode cX7_reads 39 = .ok (.isub, 1) := by decide +kernel
theorem dX7_reads_40 : decode cX7_reads 40 = .ok (.ireturn, 1) := by decide +kernel
theorem dX7_reads_41 : decode cX7_reads 41 = .ok (.iinc 1 1, 3) := by decide +kernel
theorem dX7_reads_44 : decode cX7_reads 44 = .ok (.aload_n 0, 1) := by decide +kernel
theorem dX7_reads_45 : decode cX7_reads 45 = .ok (.invokevirtual 100, 3) := by decide +kernel
theorem dX7_reads_48 : decode cX7_reads 48 = .ok (.goto (-33), 3) := by decide +kernel
theorem dX7_reads_51 : decode cX7_reads 51 = .ok (.iload_n 1, 1) := by decide +kernel
theorem dX7_reads_52 : decode cX7_reads 52 = .ok (.ireturn, 1) := by decide +kernel
theorem dX7_type_0 : decode cX7_type 0 = .ok (.iload_n 1, 1) := by decide +kernel
theorem dX7_type_1 : decode cX7_type 1 = .ok (.iconst 0, 1) := by decide +kernel
theorem dX7_type_2 : decode cX7_type 2 = .ok (.sipush 255, 3) := by decide +kernel
theorem dX7_type_5 : decode cX7_type 5 = .ok (.invokestatic 96, 3) := by decide +kernel
theorem dX7_type_8 : decode cX7_type 8 = .ok (.ifCond .ne 5, 3) := by decide +kernel
theorem dX7_type_11 : decode cX7_type 11 = .ok (.iconst (-1), 1) := by decide +kernel
theorem dX7_type_12 : decode cX7_type 12 = .ok (.ireturn, 1) := by decide +kernel
theorem dX7_type_13 : decode cX7_type 13 = .ok (.aload_n 0, 1) := by decide +kernel
theorem dX7_type_14 : decode cX7_type 14 = .ok (.getfield 90, 3) := by decide +kernel
theorem dX7_type_17 : decode cX7_type 17 = .ok (.bipush 120, 2) := by decide +kernel
theorem dX7_type_19 : decode cX7_type 19 = .ok (.if_icmp .ne 6, 3) := by decide +kernel
theorem dX7_type_22 : decode cX7_type 22 = .ok (.bipush (-3), 2) := by decide +kernel
theorem dX7_type_24 : decode cX7_type 24 = .ok (.ireturn, 1) := by decide +kernel
theorem dX7_type_25 : decode cX7_type 25 = .ok (.aload_n 0, 1) := by decide +kernel
theorem dX7_type_26 : decode cX7_type 26 = .ok (.getfield 26, 3) := by decide +kernel
theorem dX7_type_29 : decode cX7_type 29 = .ok (.aload_n 0, 1) := by decide +kernel
theorem dX7_type_30 : decode cX7_type 30 = .ok (.getfield 90, 3) := by decide +kernel
theorem dX7_type_33 : decode cX7_type 33 = .ok (.iload_n 1, 1) := by decide +kernel
theorem dX7_type_34 : decode cX7_type 34 = .ok (.iastore, 1) := by decide +kernel
theorem dX7_type_35 : decode cX7_type 35 = .ok (.aload_n 0, 1) := by decide +kernel
theorem dX7_type_36 : decode cX7_type 36 = .ok (.dup, 1) := by decide +kernel
theorem dX7_type_37 : decode cX7_type 37 = .ok (.getfield 90, 3) := by decide +kernel
theorem dX7_type_40 : decode cX7_type 40 = .ok (.iconst 1, 1) := by decide +kernel
theorem dX7_type_41 : decode cX7_type 41 = .ok (.iadd, 1) := by decide +kernel
theorem dX7_type_42 : decode cX7_type 42 = .ok (.putfield 90, 3) := by decide +kernel
theorem dX7_type_45 : decode cX7_type 45 = .ok (.aload_n 0, 1) := by decide +kernel
theorem dX7_type_46 : decode cX7_type 46 = .ok (.getfield 90, 3) := by decide +kernel
theorem dX7_type_49 : decode cX7_type 49 = .ok (.ireturn, 1) := by decide +kernel
theorem dX7_clear_0 : decode cX7_clear 0 = .ok (.aload_n 0, 1) := by decide +kernel
theorem dX7_clear_1 : decode cX7_clear 1 = .ok (.getfield 90, 3) := by decide +kernel
theorem dX7_clear_4 : decode cX7_clear 4 = .ok (.istore_n 1, 1) := by decide +kernel
theorem dX7_clear_5 : decode cX7_clear 5 = .ok (.aload_n 0, 1) := by decide +kernel
theorem dX7_clear_6 : decode cX7_clear 6 = .ok (.iconst 0, 1) := by decide +kernel
theorem dX7_clear_7 : decode cX7_clear 7 = .ok (.putfield 90, 3) := by decide +kernel
theorem dX7_clear_10 : decode cX7_clear 10 = .ok (.iload_n 1, 1) := by decide +kernel
theorem dX7_clear_11 : decode cX7_clear 11 = .ok (.ireturn, 1) := by decide +kernel
theorem dX7_tells_0 : decode cX7_tells 0 = .ok (.aload_n 0, 1) := by decide +kernel
theorem dX7_tells_1 : decode cX7_tells 1 = .ok (.invokevirtual 130, 3) := by decide +kernel
theorem dX7_tells_4 : decode cX7_tells 4 = .ok (.istore_n 1, 1) := by decide +kernel
theorem dX7_tells_5 : decode cX7_tells 5 = .ok (.iload_n 1, 1) := by decide +kernel
theorem dX7_tells_6 : decode cX7_tells 6 = .ok (.ifCond .lt 12, 3) := by decide +kernel
theorem dX7_tells_9 : decode cX7_tells 9 = .ok (.aload_n 0, 1) := by decide +kernel
theorem dX7_tells_10 : decode cX7_tells 10 = .ok (.invokevirtual 65, 3) := by decide +kernel
theorem dX7_tells_13 : decode cX7_tells 13 = .ok (.aload_n 0, 1) := by decide +kernel
theorem dX7_tells_14 : decode cX7_tells 14 = .ok (.iconst 0, 1) := by decide +kernel
theorem dX7_tells_15 : decode cX7_tells 15 = .ok (.putfield 90, 3) := by decide +kernel
theorem dX7_tells_18 : decode cX7_tells 18 = .ok (.iload_n 1, 1) := by decide +kernel
theorem dX7_tells_19 : decode cX7_tells 19 = .ok (.ireturn, 1) := by decide +kernel
theorem dX7_remembers_0 : decode cX7_remembers 0 = .ok (.aload_n 0, 1) := by decide +kernel
theorem dX7_remembers_1 : decode cX7_remembers 1 = .ok (.getfield 81, 3) := by decide +kernel
theorem dX7_remembers_4 : decode cX7_remembers 4 = .ok (.bipush 6, 2) := by decide +kernel
theorem dX7_remembers_6 : decode cX7_remembers 6 = .ok (.if_icmp .ne 44, 3) := by decide +kernel
theorem dX7_remembers_9 : decode cX7_remembers 9 = .ok (.iconst 0, 1) := by decide +kernel
theorem dX7_remembers_10 : decode cX7_remembers 10 = .ok (.istore_n 1, 1) := by decide +kernel
theorem dX7_remembers_11 : decode cX7_remembers 11 = .ok (.iload_n 1, 1) := by decide +kernel
theorem dX7_remembers_12 : decode cX7_remembers 12 = .ok (.sipush 1745, 3) := by decide +kernel
theorem dX7_remembers_15 : decode cX7_remembers 15 = .ok (.if_icmp .ge 25, 3) := by decide +kernel
theorem dX7_remembers_18 : decode cX7_remembers 18 = .ok (.aload_n 0, 1) := by decide +kernel
theorem dX7_remembers_19 : decode cX7_remembers 19 = .ok (.getfield 16, 3) := by decide +kernel
theorem dX7_remembers_22 : decode cX7_remembers 22 = .ok (.iload_n 1, 1) := by decide +kernel
theorem dX7_remembers_23 : decode cX7_remembers 23 = .ok (.aload_n 0, 1) := by decide +kernel
theorem dX7_remembers_24 : decode cX7_remembers 24 = .ok (.getfield 16, 3) := by decide +kernel
theorem dX7_remembers_27 : decode cX7_remembers 27 = .ok (.iload_n 1, 1) := by decide +kernel
theorem dX7_remembers_28 : decode cX7_remembers 28 = .ok (.sipush 349, 3) := by decide +kernel
theorem dX7_remembers_31 : decode cX7_remembers 31 = .ok (.iadd, 1) := by decide +kernel
theorem dX7_remembers_32 : decode cX7_remembers 32 = .ok (.iaload, 1) := by decide +kernel
theorem dX7_remembers_33 : decode cX7_remembers 33 = .ok (.iastore, 1) := by decide +kernel
theorem dX7_remembers_34 : decode cX7_remembers 34 = .ok (.iinc 1 1, 3) := by decide +kernel
theorem dX7_remembers_37 : decode cX7_remembers 37 = .ok (.goto (-26), 3) := by decide +kernel
theorem dX7_remembers_40 : decode cX7_remembers 40 = .ok (.aload_n 0, 1) := by decide +kernel
theorem dX7_remembers_41 : decode cX7_remembers 41 = .ok (.dup, 1) := by decide +kernel
theorem dX7_remembers_42 : decode cX7_remembers 42 = .ok (.getfield 81, 3) := by decide +kernel
theorem dX7_remembers_45 : decode cX7_remembers 45 = .ok (.iconst 1, 1) := by decide +kernel
theorem dX7_remembers_46 : decode cX7_remembers 46 = .ok (.isub, 1) := by decide +kernel
theorem dX7_remembers_47 : decode cX7_remembers 47 = .ok (.putfield 81, 3) := by decide +kernel
theorem dX7_remembers_50 : decode cX7_remembers 50 = .ok (.iconst 0, 1) := by decide +kernel
theorem dX7_remembers_51 : decode cX7_remembers 51 = .ok (.istore_n 1, 1) := by decide +kernel
theorem dX7_remembers_52 : decode cX7_remembers 52 = .ok (.iload_n 1, 1) := by decide +kernel
theorem dX7_remembers_53 : decode cX7_remembers 53 = .ok (.sipush 349, 3) := by decide +kernel
theorem dX7_remembers_56 : decode cX7_remembers 56 = .ok (.if_icmp .ge 30, 3) := by decide +kernel
theorem dX7_remembers_59 : decode cX7_remembers 59 = .ok (.aload_n 0, 1) := by decide +kernel
theorem dX7_remembers_60 : decode cX7_remembers 60 = .ok (.getfield 16, 3) := by decide +kernel
theorem dX7_remembers_63 : decode cX7_remembers 63 = .ok (.sipush 349, 3) := by decide +kernel
theorem dX7_remembers_66 : decode cX7_remembers 66 = .ok (.aload_n 0, 1) := by decide +kernel
theorem dX7_remembers_67 : decode cX7_remembers 67 = .ok (.getfield 81, 3) := by decide +kernel
theorem dX7_remembers_70 : decode cX7_remembers 70 = .ok (.imul, 1) := by decide +kernel
theorem dX7_remembers_71 : decode cX7_remembers 71 = .ok (.iload_n 1, 1) := by decide +kernel
theorem dX7_remembers_72 : decode cX7_remembers 72 = .ok (.iadd, 1) := by decide +kernel
theorem dX7_remembers_73 : decode cX7_remembers 73 = .ok (.aload_n 0, 1) := by decide +kernel
theorem dX7_remembers_74 : decode cX7_remembers 74 = .ok (.getfield 7, 3) := by decide +kernel
theorem dX7_remembers_77 : decode cX7_remembers 77 = .ok (.iload_n 1, 1) := by decide +kernel
theorem dX7_remembers_78 : decode cX7_remembers 78 = .ok (.iaload, 1) := by decide +kernel
theorem dX7_remembers_79 : decode cX7_remembers 79 = .ok (.iastore, 1) := by decide +kernel
theorem dX7_remembers_80 : decode cX7_remembers 80 = .ok (.iinc 1 1, 3) := by decide +kernel
theorem dX7_remembers_83 : decode cX7_remembers 83 = .ok (.goto (-31), 3) := by decide +kernel
theorem dX7_remembers_86 : decode cX7_remembers 86 = .ok (.aload_n 0, 1) := by decide +kernel
theorem dX7_remembers_87 : decode cX7_remembers 87 = .ok (.dup, 1) := by decide +kernel
theorem dX7_remembers_88 : decode cX7_remembers 88 = .ok (.getfield 81, 3) := by decide +kernel
theorem dX7_remembers_91 : decode cX7_remembers 91 = .ok (.iconst 1, 1) := by decide +kernel
theorem dX7_remembers_92 : decode cX7_remembers 92 = .ok (.iadd, 1) := by decide +kernel
theorem dX7_remembers_93 : decode cX7_remembers 93 = .ok (.putfield 81, 3) := by decide +kernel
theorem dX7_remembers_96 : decode cX7_remembers 96 = .ok (.return_, 1) := by decide +kernel
theorem dX7_undo_0 : decode cX7_undo 0 = .ok (.aload_n 0, 1) := by decide +kernel
theorem dX7_undo_1 : decode cX7_undo 1 = .ok (.getfield 81, 3) := by decide +kernel
theorem dX7_undo_4 : decode cX7_undo 4 = .ok (.ifCond .ne 6, 3) := by decide +kernel
theorem dX7_undo_7 : decode cX7_undo 7 = .ok (.bipush (-2), 2) := by decide +kernel
theorem dX7_undo_9 : decode cX7_undo 9 = .ok (.ireturn, 1) := by decide +kernel
theorem dX7_undo_10 : decode cX7_undo 10 = .ok (.aload_n 0, 1) := by decide +kernel
theorem dX7_undo_11 : decode cX7_undo 11 = .ok (.dup, 1) := by decide +kernel
theorem dX7_undo_12 : decode cX7_undo 12 = .ok (.getfield 81, 3) := by decide +kernel
theorem dX7_undo_15 : decode cX7_undo 15 = .ok (.iconst 1, 1) := by decide +kernel
theorem dX7_undo_16 : decode cX7_undo 16 = .ok (.isub, 1) := by decide +kernel
theorem dX7_undo_17 : decode cX7_undo 17 = .ok (.putfield 81, 3) := by decide +kernel
theorem dX7_undo_20 : decode cX7_undo 20 = .ok (.iconst 0, 1) := by decide +kernel
theorem dX7_undo_21 : decode cX7_undo 21 = .ok (.istore_n 1, 1) := by decide +kernel
theorem dX7_undo_22 : decode cX7_undo 22 = .ok (.iload_n 1, 1) := by decide +kernel
theorem dX7_undo_23 : decode cX7_undo 23 = .ok (.sipush 349, 3) := by decide +kernel
theorem dX7_undo_26 : decode cX7_undo 26 = .ok (.if_icmp .ge 30, 3) := by decide +kernel
theorem dX7_undo_29 : decode cX7_undo 29 = .ok (.aload_n 0, 1) := by decide +kernel
theorem dX7_undo_30 : decode cX7_undo 30 = .ok (.getfield 7, 3) := by decide +kernel
theorem dX7_undo_33 : decode cX7_undo 33 = .ok (.iload_n 1, 1) := by decide +kernel
theorem dX7_undo_34 : decode cX7_undo 34 = .ok (.aload_n 0, 1) := by decide +kernel
theorem dX7_undo_35 : decode cX7_undo 35 = .ok (.getfield 16, 3) := by decide +kernel
theorem dX7_undo_38 : decode cX7_undo 38 = .ok (.sipush 349, 3) := by decide +kernel
theorem dX7_undo_41 : decode cX7_undo 41 = .ok (.aload_n 0, 1) := by decide +kernel
theorem dX7_undo_42 : decode cX7_undo 42 = .ok (.getfield 81, 3) := by decide +kernel
theorem dX7_undo_45 : decode cX7_undo 45 = .ok (.imul, 1) := by decide +kernel
theorem dX7_undo_46 : decode cX7_undo 46 = .ok (.iload_n 1, 1) := by decide +kernel
theorem dX7_undo_47 : decode cX7_undo 47 = .ok (.iadd, 1) := by decide +kernel
theorem dX7_undo_48 : decode cX7_undo 48 = .ok (.iaload, 1) := by decide +kernel
theorem dX7_undo_49 : decode cX7_undo 49 = .ok (.iastore, 1) := by decide +kernel
theorem dX7_undo_50 : decode cX7_undo 50 = .ok (.iinc 1 1, 3) := by decide +kernel
theorem dX7_undo_53 : decode cX7_undo 53 = .ok (.goto (-31), 3) := by decide +kernel
theorem dX7_undo_56 : decode cX7_undo 56 = .ok (.aload_n 0, 1) := by decide +kernel
theorem dX7_undo_57 : decode cX7_undo 57 = .ok (.getfield 81, 3) := by decide +kernel
theorem dX7_undo_60 : decode cX7_undo 60 = .ok (.ireturn, 1) := by decide +kernel
theorem dX7_laysAside_0 : decode cX7_laysAside 0 = .ok (.iconst 0, 1) := by decide +kernel
theorem dX7_laysAside_1 : decode cX7_laysAside 1 = .ok (.istore_n 1, 1) := by decide +kernel
theorem dX7_laysAside_2 : decode cX7_laysAside 2 = .ok (.iload_n 1, 1) := by decide +kernel
theorem dX7_laysAside_3 : decode cX7_laysAside 3 = .ok (.sipush 349, 3) := by decide +kernel
theorem dX7_laysAside_6 : decode cX7_laysAside 6 = .ok (.if_icmp .ge 21, 3) := by decide +kernel
theorem dX7_laysAside_9 : decode cX7_laysAside 9 = .ok (.aload_n 0, 1) := by decide +kernel
theorem dX7_laysAside_10 : decode cX7_laysAside 10 = .ok (.getfield 13, 3) := by decide +kernel
theorem dX7_laysAside_13 : decode cX7_laysAside 13 = .ok (.iload_n 1, 1) := by decide +kernel
theorem dX7_laysAside_14 : decode cX7_laysAside 14 = .ok (.aload_n 0, 1) := by decide +kernel
theorem dX7_laysAside_15 : decode cX7_laysAside 15 = .ok (.getfield 7, 3) := by decide +kernel
theorem dX7_laysAside_18 : decode cX7_laysAside 18 = .ok (.iload_n 1, 1) := by decide +kernel
theorem dX7_laysAside_19 : decode cX7_laysAside 19 = .ok (.iaload, 1) := by decide +kernel
theorem dX7_laysAside_20 : decode cX7_laysAside 20 = .ok (.iastore, 1) := by decide +kernel
theorem dX7_laysAside_21 : decode cX7_laysAside 21 = .ok (.iinc 1 1, 3) := by decide +kernel
theorem dX7_laysAside_24 : decode cX7_laysAside 24 = .ok (.goto (-22), 3) := by decide +kernel
theorem dX7_laysAside_27 : decode cX7_laysAside 27 = .ok (.return_, 1) := by decide +kernel
theorem dX7_comesBack_0 : decode cX7_comesBack 0 = .ok (.iconst 0, 1) := by decide +kernel
theorem dX7_comesBack_1 : decode cX7_comesBack 1 = .ok (.istore_n 1, 1) := by decide +kernel
theorem dX7_comesBack_2 : decode cX7_comesBack 2 = .ok (.iload_n 1, 1) := by decide +kernel
theorem dX7_comesBack_3 : decode cX7_comesBack 3 = .ok (.sipush 349, 3) := by decide +kernel
theorem dX7_comesBack_6 : decode cX7_comesBack 6 = .ok (.if_icmp .ge 21, 3) := by decide +kernel
theorem dX7_comesBack_9 : decode cX7_comesBack 9 = .ok (.aload_n 0, 1) := by decide +kernel
theorem dX7_comesBack_10 : decode cX7_comesBack 10 = .ok (.getfield 7, 3) := by decide +kernel
theorem dX7_comesBack_13 : decode cX7_comesBack 13 = .ok (.iload_n 1, 1) := by decide +kernel
theorem dX7_comesBack_14 : decode cX7_comesBack 14 = .ok (.aload_n 0, 1) := by decide +kernel
theorem dX7_comesBack_15 : decode cX7_comesBack 15 = .ok (.getfield 13, 3) := by decide +kernel
theorem dX7_comesBack_18 : decode cX7_comesBack 18 = .ok (.iload_n 1, 1) := by decide +kernel
theorem dX7_comesBack_19 : decode cX7_comesBack 19 = .ok (.iaload, 1) := by decide +kernel
theorem dX7_comesBack_20 : decode cX7_comesBack 20 = .ok (.iastore, 1) := by decide +kernel
theorem dX7_comesBack_21 : decode cX7_comesBack 21 = .ok (.iinc 1 1, 3) := by decide +kernel
theorem dX7_comesBack_24 : decode cX7_comesBack 24 = .ok (.goto (-22), 3) := by decide +kernel
theorem dX7_comesBack_27 : decode cX7_comesBack 27 = .ok (.return_, 1) := by decide +kernel
theorem dX7_nextReel_0 : decode cX7_nextReel 0 = .ok (.aload_n 0, 1) := by decide +kernel
theorem dX7_nextReel_1 : decode cX7_nextReel 1 = .ok (.getfield 7, 3) := by decide +kernel
theorem dX7_nextReel_4 : decode cX7_nextReel 4 = .ok (.iconst 1, 1) := by decide +kernel
theorem dX7_nextReel_5 : decode cX7_nextReel 5 = .ok (.iaload, 1) := by decide +kernel
theorem dX7_nextReel_6 : decode cX7_nextReel 6 = .ok (.iconst 1, 1) := by decide +kernel
theorem dX7_nextReel_7 : decode cX7_nextReel 7 = .ok (.iadd, 1) := by decide +kernel
theorem dX7_nextReel_8 : decode cX7_nextReel 8 = .ok (.aload_n 0, 1) := by decide +kernel
theorem dX7_nextReel_9 : decode cX7_nextReel 9 = .ok (.getfield 78, 3) := by decide +kernel
theorem dX7_nextReel_12 : decode cX7_nextReel 12 = .ok (.if_icmp .ge 14, 3) := by decide +kernel
theorem dX7_nextReel_15 : decode cX7_nextReel 15 = .ok (.aload_n 0, 1) := by decide +kernel
theorem dX7_nextReel_16 : decode cX7_nextReel 16 = .ok (.getfield 7, 3) := by decide +kernel
theorem dX7_nextReel_19 : decode cX7_nextReel 19 = .ok (.iconst 1, 1) := by decide +kernel
theorem dX7_nextReel_20 : decode cX7_nextReel 20 = .ok (.iaload, 1) := by decide +kernel
theorem dX7_nextReel_21 : decode cX7_nextReel 21 = .ok (.iconst 1, 1) := by decide +kernel
theorem dX7_nextReel_22 : decode cX7_nextReel 22 = .ok (.iadd, 1) := by decide +kernel
theorem dX7_nextReel_23 : decode cX7_nextReel 23 = .ok (.goto 5, 3) := by decide +kernel
theorem dX7_nextReel_26 : decode cX7_nextReel 26 = .ok (.bipush (-9), 2) := by decide +kernel
theorem dX7_nextReel_28 : decode cX7_nextReel 28 = .ok (.ireturn, 1) := by decide +kernel
theorem dX7_goesOnReel_0 : decode cX7_goesOnReel 0 = .ok (.aload_n 0, 1) := by decide +kernel
theorem dX7_goesOnReel_1 : decode cX7_goesOnReel 1 = .ok (.getfield 7, 3) := by decide +kernel
theorem dX7_goesOnReel_4 : decode cX7_goesOnReel 4 = .ok (.iconst 1, 1) := by decide +kernel
theorem dX7_goesOnReel_5 : decode cX7_goesOnReel 5 = .ok (.dup2, 1) := by decide +kernel
theorem dX7_goesOnReel_6 : decode cX7_goesOnReel 6 = .ok (.iaload, 1) := by decide +kernel
theorem dX7_goesOnReel_7 : decode cX7_goesOnReel 7 = .ok (.iconst 1, 1) := by decide +kernel
theorem dX7_goesOnReel_8 : decode cX7_goesOnReel 8 = .ok (.iadd, 1) := by decide +kernel
theorem dX7_goesOnReel_9 : decode cX7_goesOnReel 9 = .ok (.iastore, 1) := by decide +kernel
theorem dX7_goesOnReel_10 : decode cX7_goesOnReel 10 = .ok (.aload_n 0, 1) := by decide +kernel
theorem dX7_goesOnReel_11 : decode cX7_goesOnReel 11 = .ok (.getfield 7, 3) := by decide +kernel
theorem dX7_goesOnReel_14 : decode cX7_goesOnReel 14 = .ok (.iconst 2, 1) := by decide +kernel
theorem dX7_goesOnReel_15 : decode cX7_goesOnReel 15 = .ok (.aload_n 0, 1) := by decide +kernel
theorem dX7_goesOnReel_16 : decode cX7_goesOnReel 16 = .ok (.getfield 38, 3) := by decide +kernel
theorem dX7_goesOnReel_19 : decode cX7_goesOnReel 19 = .ok (.aload_n 0, 1) := by decide +kernel
theorem dX7_goesOnReel_20 : decode cX7_goesOnReel 20 = .ok (.getfield 7, 3) := by decide +kernel
theorem dX7_goesOnReel_23 : decode cX7_goesOnReel 23 = .ok (.iconst 1, 1) := by decide +kernel
theorem dX7_goesOnReel_24 : decode cX7_goesOnReel 24 = .ok (.iaload, 1) := by decide +kernel
theorem dX7_goesOnReel_25 : decode cX7_goesOnReel 25 = .ok (.iaload, 1) := by decide +kernel
theorem dX7_goesOnReel_26 : decode cX7_goesOnReel 26 = .ok (.iastore, 1) := by decide +kernel
theorem dX7_goesOnReel_27 : decode cX7_goesOnReel 27 = .ok (.aload_n 0, 1) := by decide +kernel
theorem dX7_goesOnReel_28 : decode cX7_goesOnReel 28 = .ok (.getfield 7, 3) := by decide +kernel
theorem dX7_goesOnReel_31 : decode cX7_goesOnReel 31 = .ok (.iconst 3, 1) := by decide +kernel
theorem dX7_goesOnReel_32 : decode cX7_goesOnReel 32 = .ok (.iconst 0, 1) := by decide +kernel
theorem dX7_goesOnReel_33 : decode cX7_goesOnReel 33 = .ok (.iastore, 1) := by decide +kernel
theorem dX7_goesOnReel_34 : decode cX7_goesOnReel 34 = .ok (.return_, 1) := by decide +kernel
theorem dX7_copyPlace_0 : decode cX7_copyPlace 0 = .ok (.bipush 61, 2) := by decide +kernel
theorem dX7_copyPlace_2 : decode cX7_copyPlace 2 = .ok (.bipush 9, 2) := by decide +kernel
theorem dX7_copyPlace_4 : decode cX7_copyPlace 4 = .ok (.iload_n 0, 1) := by decide +kernel
theorem dX7_copyPlace_5 : decode cX7_copyPlace 5 = .ok (.bipush 32, 2) := by decide +kernel
theorem dX7_copyPlace_7 : decode cX7_copyPlace 7 = .ok (.irem, 1) := by decide +kernel
theorem dX7_copyPlace_8 : decode cX7_copyPlace 8 = .ok (.imul, 1) := by decide +kernel
theorem dX7_copyPlace_9 : decode cX7_copyPlace 9 = .ok (.iadd, 1) := by decide +kernel
theorem dX7_copyPlace_10 : decode cX7_copyPlace 10 = .ok (.ireturn, 1) := by decide +kernel
theorem dX7_isThere_0 : decode cX7_isThere 0 = .ok (.iload_n 1, 1) := by decide +kernel
theorem dX7_isThere_1 : decode cX7_isThere 1 = .ok (.ifCond .le 20, 3) := by decide +kernel
theorem dX7_isThere_4 : decode cX7_isThere 4 = .ok (.aload_n 0, 1) := by decide +kernel
theorem dX7_isThere_5 : decode cX7_isThere 5 = .ok (.getfield 7, 3) := by decide +kernel
theorem dX7_isThere_8 : decode cX7_isThere 8 = .ok (.iload_n 1, 1) := by decide +kernel
theorem dX7_isThere_9 : decode cX7_isThere 9 = .ok (.invokestatic 134, 3) := by decide +kernel
theorem dX7_isThere_12 : decode cX7_isThere 12 = .ok (.iaload, 1) := by decide +kernel
theorem dX7_isThere_13 : decode cX7_isThere 13 = .ok (.iconst 1, 1) := by decide +kernel
theorem dX7_isThere_14 : decode cX7_isThere 14 = .ok (.if_icmp .ne 7, 3) := by decide +kernel
theorem dX7_isThere_17 : decode cX7_isThere 17 = .ok (.iconst 1, 1) := by decide +kernel
theorem dX7_isThere_18 : decode cX7_isThere 18 = .ok (.goto 4, 3) := by decide +kernel
theorem dX7_isThere_21 : decode cX7_isThere 21 = .ok (.iconst 0, 1) := by decide +kernel
theorem dX7_isThere_22 : decode cX7_isThere 22 = .ok (.ireturn, 1) := by decide +kernel
theorem dX7_breaks_0 : decode cX7_breaks 0 = .ok (.aload_n 0, 1) := by decide +kernel
theorem dX7_breaks_1 : decode cX7_breaks 1 = .ok (.getfield 7, 3) := by decide +kernel
theorem dX7_breaks_4 : decode cX7_breaks 4 = .ok (.iconst 0, 1) := by decide +kernel
theorem dX7_breaks_5 : decode cX7_breaks 5 = .ok (.iconst 0, 1) := by decide +kernel
theorem dX7_breaks_6 : decode cX7_breaks 6 = .ok (.iastore, 1) := by decide +kernel
theorem dX7_breaks_7 : decode cX7_breaks 7 = .ok (.iconst 0, 1) := by decide +kernel
theorem dX7_breaks_8 : decode cX7_breaks 8 = .ok (.istore_n 1, 1) := by decide +kernel
theorem dX7_breaks_9 : decode cX7_breaks 9 = .ok (.iload_n 1, 1) := by decide +kernel
theorem dX7_breaks_10 : decode cX7_breaks 10 = .ok (.bipush 32, 2) := by decide +kernel
theorem dX7_breaks_12 : decode cX7_breaks 12 = .ok (.if_icmp .ge 55, 3) := by decide +kernel
theorem dX7_breaks_15 : decode cX7_breaks 15 = .ok (.iload_n 1, 1) := by decide +kernel
theorem dX7_breaks_16 : decode cX7_breaks 16 = .ok (.invokestatic 134, 3) := by decide +kernel
theorem dX7_breaks_19 : decode cX7_breaks 19 = .ok (.istore_n 2, 1) := by decide +kernel
theorem dX7_breaks_20 : decode cX7_breaks 20 = .ok (.aload_n 0, 1) := by decide +kernel
theorem dX7_breaks_21 : decode cX7_breaks 21 = .ok (.getfield 7, 3) := by decide +kernel
theorem dX7_breaks_24 : decode cX7_breaks 24 = .ok (.bipush 8, 2) := by decide +kernel
theorem dX7_breaks_26 : decode cX7_breaks 26 = .ok (.dup2, 1) := by decide +kernel
theorem dX7_breaks_27 : decode cX7_breaks 27 = .ok (.iaload, 1) := by decide +kernel
theorem dX7_breaks_28 : decode cX7_breaks 28 = .ok (.aload_n 0, 1) := by decide +kernel
theorem dX7_breaks_29 : decode cX7_breaks 29 = .ok (.getfield 7, 3) := by decide +kernel
theorem dX7_breaks_32 : decode cX7_breaks 32 = .ok (.iload_n 2, 1) := by decide +kernel
theorem dX7_breaks_33 : decode cX7_breaks 33 = .ok (.iconst 0, 1) := by decide +kernel
theorem dX7_breaks_34 : decode cX7_breaks 34 = .ok (.iadd, 1) := by decide +kernel
theorem dX7_breaks_35 : decode cX7_breaks 35 = .ok (.iaload, 1) := by decide +kernel
theorem dX7_breaks_36 : decode cX7_breaks 36 = .ok (.iadd, 1) := by decide +kernel
theorem dX7_breaks_37 : decode cX7_breaks 37 = .ok (.iastore, 1) := by decide +kernel
theorem dX7_breaks_38 : decode cX7_breaks 38 = .ok (.iconst 0, 1) := by decide +kernel
theorem dX7_breaks_39 : decode cX7_breaks 39 = .ok (.istore_n 3, 1) := by decide +kernel
theorem dX7_breaks_40 : decode cX7_breaks 40 = .ok (.iload_n 3, 1) := by decide +kernel
theorem dX7_breaks_41 : decode cX7_breaks 41 = .ok (.bipush 9, 2) := by decide +kernel
theorem dX7_breaks_43 : decode cX7_breaks 43 = .ok (.if_icmp .ge 18, 3) := by decide +kernel
theorem dX7_breaks_46 : decode cX7_breaks 46 = .ok (.aload_n 0, 1) := by decide +kernel
theorem dX7_breaks_47 : decode cX7_breaks 47 = .ok (.getfield 7, 3) := by decide +kernel
theorem dX7_breaks_50 : decode cX7_breaks 50 = .ok (.iload_n 2, 1) := by decide +kernel
theorem dX7_breaks_51 : decode cX7_breaks 51 = .ok (.iload_n 3, 1) := by decide +kernel
theorem dX7_breaks_52 : decode cX7_breaks 52 = .ok (.iadd, 1) := by decide +kernel
theorem dX7_breaks_53 : decode cX7_breaks 53 = .ok (.iconst 0, 1) := by decide +kernel
theorem dX7_breaks_54 : decode cX7_breaks 54 = .ok (.iastore, 1) := by decide +kernel
theorem dX7_breaks_55 : decode cX7_breaks 55 = .ok (.iinc 3 1, 3) := by decide +kernel
theorem dX7_breaks_58 : decode cX7_breaks 58 = .ok (.goto (-18), 3) := by decide +kernel
theorem dX7_breaks_61 : decode cX7_breaks 61 = .ok (.iinc 1 1, 3) := by decide +kernel
theorem dX7_breaks_64 : decode cX7_breaks 64 = .ok (.goto (-55), 3) := by decide +kernel
theorem dX7_breaks_67 : decode cX7_breaks 67 = .ok (.bipush 22, 2) := by decide +kernel
theorem dX7_breaks_69 : decode cX7_breaks 69 = .ok (.istore_n 1, 1) := by decide +kernel
theorem dX7_breaks_70 : decode cX7_breaks 70 = .ok (.iload_n 1, 1) := by decide +kernel
theorem dX7_breaks_71 : decode cX7_breaks 71 = .ok (.bipush 54, 2) := by decide +kernel
theorem dX7_breaks_73 : decode cX7_breaks 73 = .ok (.if_icmp .ge 16, 3) := by decide +kernel
theorem dX7_breaks_76 : decode cX7_breaks 76 = .ok (.aload_n 0, 1) := by decide +kernel
theorem dX7_breaks_77 : decode cX7_breaks 77 = .ok (.getfield 7, 3) := by decide +kernel
theorem dX7_breaks_80 : decode cX7_breaks 80 = .ok (.iload_n 1, 1) := by decide +kernel
theorem dX7_breaks_81 : decode cX7_breaks 81 = .ok (.iconst 0, 1) := by decide +kernel
theorem dX7_breaks_82 : decode cX7_breaks 82 = .ok (.iastore, 1) := by decide +kernel
theorem dX7_breaks_83 : decode cX7_breaks 83 = .ok (.iinc 1 1, 3) := by decide +kernel
theorem dX7_breaks_86 : decode cX7_breaks 86 = .ok (.goto (-16), 3) := by decide +kernel
theorem dX7_breaks_89 : decode cX7_breaks 89 = .ok (.return_, 1) := by decide +kernel
theorem dX7_copyBegins_0 : decode cX7_copyBegins 0 = .ok (.aload_n 0, 1) := by decide +kernel
theorem dX7_copyBegins_1 : decode cX7_copyBegins 1 = .ok (.getfield 7, 3) := by decide +kernel
theorem dX7_copyBegins_4 : decode cX7_copyBegins 4 = .ok (.iconst 5, 1) := by decide +kernel
theorem dX7_copyBegins_5 : decode cX7_copyBegins 5 = .ok (.iaload, 1) := by decide +kernel
theorem dX7_copyBegins_6 : decode cX7_copyBegins 6 = .ok (.invokestatic 134, 3) := by decide +kernel
theorem dX7_copyBegins_9 : decode cX7_copyBegins 9 = .ok (.istore_n 2, 1) := by decide +kernel
theorem dX7_copyBegins_10 : decode cX7_copyBegins 10 = .ok (.aload_n 0, 1) := by decide +kernel
theorem dX7_copyBegins_11 : decode cX7_copyBegins 11 = .ok (.getfield 7, 3) := by decide +kernel
theorem dX7_copyBegins_14 : decode cX7_copyBegins 14 = .ok (.iload_n 2, 1) := by decide +kernel
theorem dX7_copyBegins_15 : decode cX7_copyBegins 15 = .ok (.iconst 0, 1) := by decide +kernel
theorem dX7_copyBegins_16 : decode cX7_copyBegins 16 = .ok (.iadd, 1) := by decide +kernel
theorem dX7_copyBegins_17 : decode cX7_copyBegins 17 = .ok (.iconst 1, 1) := by decide +kernel
theorem dX7_copyBegins_18 : decode cX7_copyBegins 18 = .ok (.iastore, 1) := by decide +kernel
theorem dX7_copyBegins_19 : decode cX7_copyBegins 19 = .ok (.aload_n 0, 1) := by decide +kernel
theorem dX7_copyBegins_20 : decode cX7_copyBegins 20 = .ok (.getfield 7, 3) := by decide +kernel
theorem dX7_copyBegins_23 : decode cX7_copyBegins 23 = .ok (.iload_n 2, 1) := by decide +kernel
theorem dX7_copyBegins_24 : decode cX7_copyBegins 24 = .ok (.iconst 1, 1) := by decide +kernel
theorem dX7_copyBegins_25 : decode cX7_copyBegins 25 = .ok (.iadd, 1) := by decide +kernel
theorem dX7_copyBegins_26 : decode cX7_copyBegins 26 = .ok (.aload_n 0, 1) := by decide +kernel
theorem dX7_copyBegins_27 : decode cX7_copyBegins 27 = .ok (.getfield 7, 3) := by decide +kernel
theorem dX7_copyBegins_30 : decode cX7_copyBegins 30 = .ok (.bipush 6, 2) := by decide +kernel
theorem dX7_copyBegins_32 : decode cX7_copyBegins 32 = .ok (.iaload, 1) := by decide +kernel
theorem dX7_copyBegins_33 : decode cX7_copyBegins 33 = .ok (.iastore, 1) := by decide +kernel
theorem dX7_copyBegins_34 : decode cX7_copyBegins 34 = .ok (.aload_n 0, 1) := by decide +kernel
theorem dX7_copyBegins_35 : decode cX7_copyBegins 35 = .ok (.getfield 7, 3) := by decide +kernel
theorem dX7_copyBegins_38 : decode cX7_copyBegins 38 = .ok (.iload_n 2, 1) := by decide +kernel
theorem dX7_copyBegins_39 : decode cX7_copyBegins 39 = .ok (.iconst 2, 1) := by decide +kernel
theorem dX7_copyBegins_40 : decode cX7_copyBegins 40 = .ok (.iadd, 1) := by decide +kernel
theorem dX7_copyBegins_41 : decode cX7_copyBegins 41 = .ok (.aload_n 0, 1) := by decide +kernel
theorem dX7_copyBegins_42 : decode cX7_copyBegins 42 = .ok (.getfield 41, 3) := by decide +kernel
theorem dX7_copyBegins_45 : decode cX7_copyBegins 45 = .ok (.aload_n 0, 1) := by decide +kernel
theorem dX7_copyBegins_46 : decode cX7_copyBegins 46 = .ok (.getfield 7, 3) := by decide +kernel
theorem dX7_copyBegins_49 : decode cX7_copyBegins 49 = .ok (.iconst 1, 1) := by decide +kernel
theorem dX7_copyBegins_50 : decode cX7_copyBegins 50 = .ok (.iaload, 1) := by decide +kernel
theorem dX7_copyBegins_51 : decode cX7_copyBegins 51 = .ok (.iaload, 1) := by decide +kernel
theorem dX7_copyBegins_52 : decode cX7_copyBegins 52 = .ok (.iastore, 1) := by decide +kernel
theorem dX7_copyBegins_53 : decode cX7_copyBegins 53 = .ok (.aload_n 0, 1) := by decide +kernel
theorem dX7_copyBegins_54 : decode cX7_copyBegins 54 = .ok (.getfield 7, 3) := by decide +kernel
theorem dX7_copyBegins_57 : decode cX7_copyBegins 57 = .ok (.iload_n 2, 1) := by decide +kernel
theorem dX7_copyBegins_58 : decode cX7_copyBegins 58 = .ok (.iconst 3, 1) := by decide +kernel
theorem dX7_copyBegins_59 : decode cX7_copyBegins 59 = .ok (.iadd, 1) := by decide +kernel
theorem dX7_copyBegins_60 : decode cX7_copyBegins 60 = .ok (.iload_n 1, 1) := by decide +kernel
theorem dX7_copyBegins_61 : decode cX7_copyBegins 61 = .ok (.ifCond .eq 7, 3) := by decide +kernel
theorem dX7_copyBegins_64 : decode cX7_copyBegins 64 = .ok (.iconst 1, 1) := by decide +kernel
theorem dX7_copyBegins_65 : decode cX7_copyBegins 65 = .ok (.goto 4, 3) := by decide +kernel
theorem dX7_copyBegins_68 : decode cX7_copyBegins 68 = .ok (.iconst 0, 1) := by decide +kernel
theorem dX7_copyBegins_69 : decode cX7_copyBegins 69 = .ok (.iastore, 1) := by decide +kernel
theorem dX7_copyBegins_70 : decode cX7_copyBegins 70 = .ok (.aload_n 0, 1) := by decide +kernel
theorem dX7_copyBegins_71 : decode cX7_copyBegins 71 = .ok (.getfield 7, 3) := by decide +kernel
theorem dX7_copyBegins_74 : decode cX7_copyBegins 74 = .ok (.iload_n 2, 1) := by decide +kernel
theorem dX7_copyBegins_75 : decode cX7_copyBegins 75 = .ok (.iconst 4, 1) := by decide +kernel
theorem dX7_copyBegins_76 : decode cX7_copyBegins 76 = .ok (.iadd, 1) := by decide +kernel
theorem dX7_copyBegins_77 : decode cX7_copyBegins 77 = .ok (.iconst 0, 1) := by decide +kernel
theorem dX7_copyBegins_78 : decode cX7_copyBegins 78 = .ok (.iastore, 1) := by decide +kernel
theorem dX7_copyBegins_79 : decode cX7_copyBegins 79 = .ok (.iconst 0, 1) := by decide +kernel
theorem dX7_copyBegins_80 : decode cX7_copyBegins 80 = .ok (.istore_n 3, 1) := by decide +kernel
theorem dX7_copyBegins_81 : decode cX7_copyBegins 81 = .ok (.iload_n 3, 1) := by decide +kernel
theorem dX7_copyBegins_82 : decode cX7_copyBegins 82 = .ok (.iconst 4, 1) := by decide +kernel
theorem dX7_copyBegins_83 : decode cX7_copyBegins 83 = .ok (.if_icmp .ge 20, 3) := by decide +kernel
theorem dX7_copyBegins_86 : decode cX7_copyBegins 86 = .ok (.aload_n 0, 1) := by decide +kernel
theorem dX7_copyBegins_87 : decode cX7_copyBegins 87 = .ok (.getfield 7, 3) := by decide +kernel
theorem dX7_copyBegins_90 : decode cX7_copyBegins 90 = .ok (.iload_n 2, 1) := by decide +kernel
theorem dX7_copyBegins_91 : decode cX7_copyBegins 91 = .ok (.iconst 5, 1) := by decide +kernel
theorem dX7_copyBegins_92 : decode cX7_copyBegins 92 = .ok (.iadd, 1) := by decide +kernel
theorem dX7_copyBegins_93 : decode cX7_copyBegins 93 = .ok (.iload_n 3, 1) := by decide +kernel
theorem dX7_copyBegins_94 : decode cX7_copyBegins 94 = .ok (.iadd, 1) := by decide +kernel
theorem dX7_copyBegins_95 : decode cX7_copyBegins 95 = .ok (.iconst 0, 1) := by decide +kernel
theorem dX7_copyBegins_96 : decode cX7_copyBegins 96 = .ok (.iastore, 1) := by decide +kernel
theorem dX7_copyBegins_97 : decode cX7_copyBegins 97 = .ok (.iinc 3 1, 3) := by decide +kernel
theorem dX7_copyBegins_100 : decode cX7_copyBegins 100 = .ok (.goto (-19), 3) := by decide +kernel
theorem dX7_copyBegins_103 : decode cX7_copyBegins 103 = .ok (.aload_n 0, 1) := by decide +kernel
theorem dX7_copyBegins_104 : decode cX7_copyBegins 104 = .ok (.getfield 7, 3) := by decide +kernel
theorem dX7_copyBegins_107 : decode cX7_copyBegins 107 = .ok (.bipush 6, 2) := by decide +kernel
theorem dX7_copyBegins_109 : decode cX7_copyBegins 109 = .ok (.dup2, 1) := by decide +kernel
theorem dX7_copyBegins_110 : decode cX7_copyBegins 110 = .ok (.iaload, 1) := by decide +kernel
theorem dX7_copyBegins_111 : decode cX7_copyBegins 111 = .ok (.iconst 1, 1) := by decide +kernel
theorem dX7_copyBegins_112 : decode cX7_copyBegins 112 = .ok (.iadd, 1) := by decide +kernel
theorem dX7_copyBegins_113 : decode cX7_copyBegins 113 = .ok (.iastore, 1) := by decide +kernel
theorem dX7_copyBegins_114 : decode cX7_copyBegins 114 = .ok (.return_, 1) := by decide +kernel
theorem dX7_passedPlace_0 : decode cX7_passedPlace 0 = .ok (.bipush 22, 2) := by decide +kernel
theorem dX7_passedPlace_2 : decode cX7_passedPlace 2 = .ok (.bipush 8, 2) := by decide +kernel
theorem dX7_passedPlace_4 : decode cX7_passedPlace 4 = .ok (.iload_n 0, 1) := by decide +kernel
theorem dX7_passedPlace_5 : decode cX7_passedPlace 5 = .ok (.imul, 1) := by decide +kernel
theorem dX7_passedPlace_6 : decode cX7_passedPlace 6 = .ok (.iadd, 1) := by decide +kernel
theorem dX7_passedPlace_7 : decode cX7_passedPlace 7 = .ok (.iload_n 1, 1) := by decide +kernel
theorem dX7_passedPlace_8 : decode cX7_passedPlace 8 = .ok (.bipush 8, 2) := by decide +kernel
theorem dX7_passedPlace_10 : decode cX7_passedPlace 10 = .ok (.irem, 1) := by decide +kernel
theorem dX7_passedPlace_11 : decode cX7_passedPlace 11 = .ok (.iadd, 1) := by decide +kernel
theorem dX7_passedPlace_12 : decode cX7_passedPlace 12 = .ok (.ireturn, 1) := by decide +kernel
theorem dX7_prints_0 : decode cX7_prints 0 = .ok (.iload_n 1, 1) := by decide +kernel
theorem dX7_prints_1 : decode cX7_prints 1 = .ok (.aload_n 0, 1) := by decide +kernel
theorem dX7_prints_2 : decode cX7_prints 2 = .ok (.getfield 7, 3) := by decide +kernel
theorem dX7_prints_5 : decode cX7_prints 5 = .ok (.iconst 5, 1) := by decide +kernel
theorem dX7_prints_6 : decode cX7_prints 6 = .ok (.iaload, 1) := by decide +kernel
theorem dX7_prints_7 : decode cX7_prints 7 = .ok (.invokestatic 138, 3) := by decide +kernel
theorem dX7_prints_10 : decode cX7_prints 10 = .ok (.istore_n 2, 1) := by decide +kernel
theorem dX7_prints_11 : decode cX7_prints 11 = .ok (.aload_n 0, 1) := by decide +kernel
theorem dX7_prints_12 : decode cX7_prints 12 = .ok (.getfield 7, 3) := by decide +kernel
theorem dX7_prints_15 : decode cX7_prints 15 = .ok (.bipush 14, 2) := by decide +kernel
theorem dX7_prints_17 : decode cX7_prints 17 = .ok (.iload_n 1, 1) := by decide +kernel
theorem dX7_prints_18 : decode cX7_prints 18 = .ok (.iadd, 1) := by decide +kernel
theorem dX7_prints_19 : decode cX7_prints 19 = .ok (.dup2, 1) := by decide +kernel
theorem dX7_prints_20 : decode cX7_prints 20 = .ok (.iaload, 1) := by decide +kernel
theorem dX7_prints_21 : decode cX7_prints 21 = .ok (.aload_n 0, 1) := by decide +kernel
theorem dX7_prints_22 : decode cX7_prints 22 = .ok (.getfield 7, 3) := by decide +kernel
theorem dX7_prints_25 : decode cX7_prints 25 = .ok (.iload_n 2, 1) := by decide +kernel
theorem dX7_prints_26 : decode cX7_prints 26 = .ok (.iaload, 1) := by decide +kernel
theorem dX7_prints_27 : decode cX7_prints 27 = .ok (.iadd, 1) := by decide +kernel
theorem dX7_prints_28 : decode cX7_prints 28 = .ok (.iastore, 1) := by decide +kernel
theorem dX7_prints_29 : decode cX7_prints 29 = .ok (.aload_n 0, 1) := by decide +kernel
theorem dX7_prints_30 : decode cX7_prints 30 = .ok (.getfield 7, 3) := by decide +kernel
theorem dX7_prints_33 : decode cX7_prints 33 = .ok (.iload_n 2, 1) := by decide +kernel
theorem dX7_prints_34 : decode cX7_prints 34 = .ok (.iconst 0, 1) := by decide +kernel
theorem dX7_prints_35 : decode cX7_prints 35 = .ok (.iastore, 1) := by decide +kernel
theorem dX7_prints_36 : decode cX7_prints 36 = .ok (.aload_n 0, 1) := by decide +kernel
theorem dX7_prints_37 : decode cX7_prints 37 = .ok (.getfield 7, 3) := by decide +kernel
theorem dX7_prints_40 : decode cX7_prints 40 = .ok (.iconst 5, 1) := by decide +kernel
theorem dX7_prints_41 : decode cX7_prints 41 = .ok (.iaload, 1) := by decide +kernel
theorem dX7_prints_42 : decode cX7_prints 42 = .ok (.aload_n 0, 1) := by decide +kernel
theorem dX7_prints_43 : decode cX7_prints 43 = .ok (.getfield 35, 3) := by decide +kernel
theorem dX7_prints_46 : decode cX7_prints 46 = .ok (.iload_n 1, 1) := by decide +kernel
theorem dX7_prints_47 : decode cX7_prints 47 = .ok (.iaload, 1) := by decide +kernel
theorem dX7_prints_48 : decode cX7_prints 48 = .ok (.isub, 1) := by decide +kernel
theorem dX7_prints_49 : decode cX7_prints 49 = .ok (.istore_n 3, 1) := by decide +kernel
theorem dX7_prints_50 : decode cX7_prints 50 = .ok (.aload_n 0, 1) := by decide +kernel
theorem dX7_prints_51 : decode cX7_prints 51 = .ok (.iload_n 3, 1) := by decide +kernel
theorem dX7_prints_52 : decode cX7_prints 52 = .ok (.invokevirtual 142, 3) := by decide +kernel
theorem dX7_prints_55 : decode cX7_prints 55 = .ok (.ifCond .eq 72, 3) := by decide +kernel
theorem dX7_prints_58 : decode cX7_prints 58 = .ok (.iload_n 3, 1) := by decide +kernel
theorem dX7_prints_59 : decode cX7_prints 59 = .ok (.invokestatic 134, 3) := by decide +kernel
theorem dX7_prints_62 : decode cX7_prints 62 = .ok (.istore 4, 2) := by decide +kernel
theorem dX7_prints_64 : decode cX7_prints 64 = .ok (.aload_n 0, 1) := by decide +kernel
theorem dX7_prints_65 : decode cX7_prints 65 = .ok (.getfield 7, 3) := by decide +kernel
theorem dX7_prints_68 : decode cX7_prints 68 = .ok (.iload 4, 2) := by decide +kernel
theorem dX7_prints_70 : decode cX7_prints 70 = .ok (.iconst 4, 1) := by decide +kernel
theorem dX7_prints_71 : decode cX7_prints 71 = .ok (.iadd, 1) := by decide +kernel
theorem dX7_prints_72 : decode cX7_prints 72 = .ok (.dup2, 1) := by decide +kernel
theorem dX7_prints_73 : decode cX7_prints 73 = .ok (.iaload, 1) := by decide +kernel
theorem dX7_prints_74 : decode cX7_prints 74 = .ok (.aload_n 0, 1) := by decide +kernel
theorem dX7_prints_75 : decode cX7_prints 75 = .ok (.getfield 7, 3) := by decide +kernel
theorem dX7_prints_78 : decode cX7_prints 78 = .ok (.bipush 14, 2) := by decide +kernel
theorem dX7_prints_80 : decode cX7_prints 80 = .ok (.iload_n 1, 1) := by decide +kernel
theorem dX7_prints_81 : decode cX7_prints 81 = .ok (.iadd, 1) := by decide +kernel
theorem dX7_prints_82 : decode cX7_prints 82 = .ok (.iaload, 1) := by decide +kernel
theorem dX7_prints_83 : decode cX7_prints 83 = .ok (.iadd, 1) := by decide +kernel
theorem dX7_prints_84 : decode cX7_prints 84 = .ok (.iastore, 1) := by decide +kernel
theorem dX7_prints_85 : decode cX7_prints 85 = .ok (.aload_n 0, 1) := by decide +kernel
theorem dX7_prints_86 : decode cX7_prints 86 = .ok (.getfield 7, 3) := by decide +kernel
theorem dX7_prints_89 : decode cX7_prints 89 = .ok (.iload 4, 2) := by decide +kernel
theorem dX7_prints_91 : decode cX7_prints 91 = .ok (.iconst 5, 1) := by decide +kernel
theorem dX7_prints_92 : decode cX7_prints 92 = .ok (.iadd, 1) := by decide +kernel
theorem dX7_prints_93 : decode cX7_prints 93 = .ok (.iload_n 1, 1) := by decide +kernel
theorem dX7_prints_94 : decode cX7_prints 94 = .ok (.iadd, 1) := by decide +kernel
theorem dX7_prints_95 : decode cX7_prints 95 = .ok (.aload_n 0, 1) := by decide +kernel
theorem dX7_prints_96 : decode cX7_prints 96 = .ok (.getfield 7, 3) := by decide +kernel
theorem dX7_prints_99 : decode cX7_prints 99 = .ok (.bipush 10, 2) := by decide +kernel
theorem dX7_prints_101 : decode cX7_prints 101 = .ok (.iload_n 1, 1) := by decide +kernel
theorem dX7_prints_102 : decode cX7_prints 102 = .ok (.iadd, 1) := by decide +kernel
theorem dX7_prints_103 : decode cX7_prints 103 = .ok (.iaload, 1) := by decide +kernel
theorem dX7_prints_104 : decode cX7_prints 104 = .ok (.iload_n 1, 1) := by decide +kernel
theorem dX7_prints_105 : decode cX7_prints 105 = .ok (.aload_n 0, 1) := by decide +kernel
theorem dX7_prints_106 : decode cX7_prints 106 = .ok (.getfield 7, 3) := by decide +kernel
theorem dX7_prints_109 : decode cX7_prints 109 = .ok (.iload 4, 2) := by decide +kernel
theorem dX7_prints_111 : decode cX7_prints 111 = .ok (.iconst 2, 1) := by decide +kernel
theorem dX7_prints_112 : decode cX7_prints 112 = .ok (.iadd, 1) := by decide +kernel
theorem dX7_prints_113 : decode cX7_prints 113 = .ok (.iaload, 1) := by decide +kernel
theorem dX7_prints_114 : decode cX7_prints 114 = .ok (.imul, 1) := by decide +kernel
theorem dX7_prints_115 : decode cX7_prints 115 = .ok (.iadd, 1) := by decide +kernel
theorem dX7_prints_116 : decode cX7_prints 116 = .ok (.aload_n 0, 1) := by decide +kernel
theorem dX7_prints_117 : decode cX7_prints 117 = .ok (.getfield 7, 3) := by decide +kernel
theorem dX7_prints_120 : decode cX7_prints 120 = .ok (.iload 4, 2) := by decide +kernel
theorem dX7_prints_122 : decode cX7_prints 122 = .ok (.iconst 4, 1) := by decide +kernel
theorem dX7_prints_123 : decode cX7_prints 123 = .ok (.iadd, 1) := by decide +kernel
theorem dX7_prints_124 : decode cX7_prints 124 = .ok (.iaload, 1) := by decide +kernel
theorem dX7_prints_125 : decode cX7_prints 125 = .ok (.isub, 1) := by decide +kernel
theorem dX7_prints_126 : decode cX7_prints 126 = .ok (.iastore, 1) := by decide +kernel
theorem dX7_prints_127 : decode cX7_prints 127 = .ok (.return_, 1) := by decide +kernel
theorem dX7_waitOf_0 : decode cX7_waitOf 0 = .ok (.aload_n 0, 1) := by decide +kernel
theorem dX7_waitOf_1 : decode cX7_waitOf 1 = .ok (.getfield 35, 3) := by decide +kernel
theorem dX7_waitOf_4 : decode cX7_waitOf 4 = .ok (.aload_n 0, 1) := by decide +kernel
theorem dX7_waitOf_5 : decode cX7_waitOf 5 = .ok (.getfield 75, 3) := by decide +kernel
theorem dX7_waitOf_8 : decode cX7_waitOf 8 = .ok (.iconst 1, 1) := by decide +kernel
theorem dX7_waitOf_9 : decode cX7_waitOf 9 = .ok (.isub, 1) := by decide +kernel
theorem dX7_waitOf_10 : decode cX7_waitOf 10 = .ok (.iaload, 1) := by decide +kernel
theorem dX7_waitOf_11 : decode cX7_waitOf 11 = .ok (.aload_n 0, 1) := by decide +kernel
theorem dX7_waitOf_12 : decode cX7_waitOf 12 = .ok (.getfield 35, 3) := by decide +kernel
theorem dX7_waitOf_15 : decode cX7_waitOf 15 = .ok (.iload_n 1, 1) := by decide +kernel
theorem dX7_waitOf_16 : decode cX7_waitOf 16 = .ok (.iaload, 1) := by decide +kernel
theorem dX7_waitOf_17 : decode cX7_waitOf 17 = .ok (.isub, 1) := by decide +kernel
theorem dX7_waitOf_18 : decode cX7_waitOf 18 = .ok (.aload_n 0, 1) := by decide +kernel
theorem dX7_waitOf_19 : decode cX7_waitOf 19 = .ok (.getfield 44, 3) := by decide +kernel
theorem dX7_waitOf_22 : decode cX7_waitOf 22 = .ok (.iconst 0, 1) := by decide +kernel
theorem dX7_waitOf_23 : decode cX7_waitOf 23 = .ok (.iaload, 1) := by decide +kernel
theorem dX7_waitOf_24 : decode cX7_waitOf 24 = .ok (.iadd, 1) := by decide +kernel
theorem dX7_waitOf_25 : decode cX7_waitOf 25 = .ok (.ireturn, 1) := by decide +kernel
theorem dX7_correctedBy_0 : decode cX7_correctedBy 0 = .ok (.aload_n 0, 1) := by decide +kernel
theorem dX7_correctedBy_1 : decode cX7_correctedBy 1 = .ok (.getfield 7, 3) := by decide +kernel
theorem dX7_correctedBy_4 : decode cX7_correctedBy 4 = .ok (.bipush 14, 2) := by decide +kernel
theorem dX7_correctedBy_6 : decode cX7_correctedBy 6 = .ok (.iload_n 1, 1) := by decide +kernel
theorem dX7_correctedBy_7 : decode cX7_correctedBy 7 = .ok (.iadd, 1) := by decide +kernel
theorem dX7_correctedBy_8 : decode cX7_correctedBy 8 = .ok (.dup2, 1) := by decide +kernel
theorem dX7_correctedBy_9 : decode cX7_correctedBy 9 = .ok (.iaload, 1) := by decide +kernel
theorem dX7_correctedBy_10 : decode cX7_correctedBy 10 = .ok (.iload_n 2, 1) := by decide +kernel
theorem dX7_correctedBy_11 : decode cX7_correctedBy 11 = .ok (.iadd, 1) := by decide +kernel
theorem dX7_correctedBy_12 : decode cX7_correctedBy 12 = .ok (.iastore, 1) := by decide +kernel
theorem dX7_correctedBy_13 : decode cX7_correctedBy 13 = .ok (.aload_n 0, 1) := by decide +kernel
theorem dX7_correctedBy_14 : decode cX7_correctedBy 14 = .ok (.getfield 7, 3) := by decide +kernel
theorem dX7_correctedBy_17 : decode cX7_correctedBy 17 = .ok (.bipush 18, 2) := by decide +kernel
theorem dX7_correctedBy_19 : decode cX7_correctedBy 19 = .ok (.iload_n 1, 1) := by decide +kernel
theorem dX7_correctedBy_20 : decode cX7_correctedBy 20 = .ok (.iadd, 1) := by decide +kernel
theorem dX7_correctedBy_21 : decode cX7_correctedBy 21 = .ok (.aload_n 0, 1) := by decide +kernel
theorem dX7_correctedBy_22 : decode cX7_correctedBy 22 = .ok (.iload_n 1, 1) := by decide +kernel
theorem dX7_correctedBy_23 : decode cX7_correctedBy 23 = .ok (.invokevirtual 145, 3) := by decide +kernel
theorem dX7_correctedBy_26 : decode cX7_correctedBy 26 = .ok (.iastore, 1) := by decide +kernel
theorem dX7_correctedBy_27 : decode cX7_correctedBy 27 = .ok (.aload_n 0, 1) := by decide +kernel
theorem dX7_correctedBy_28 : decode cX7_correctedBy 28 = .ok (.getfield 7, 3) := by decide +kernel
theorem dX7_correctedBy_31 : decode cX7_correctedBy 31 = .ok (.iconst 4, 1) := by decide +kernel
theorem dX7_correctedBy_32 : decode cX7_correctedBy 32 = .ok (.iaload, 1) := by decide +kernel
theorem dX7_correctedBy_33 : decode cX7_correctedBy 33 = .ok (.iconst 1, 1) := by decide +kernel
theorem dX7_correctedBy_34 : decode cX7_correctedBy 34 = .ok (.if_icmp .ne 45, 3) := by decide +kernel
theorem dX7_correctedBy_37 : decode cX7_correctedBy 37 = .ok (.iload_n 1, 1) := by decide +kernel
theorem dX7_correctedBy_38 : decode cX7_correctedBy 38 = .ok (.iconst 1, 1) := by decide +kernel
theorem dX7_correctedBy_39 : decode cX7_correctedBy 39 = .ok (.iadd, 1) := by decide +kernel
theorem dX7_correctedBy_40 : decode cX7_correctedBy 40 = .ok (.aload_n 0, 1) := by decide +kernel
theorem dX7_correctedBy_41 : decode cX7_correctedBy 41 = .ok (.getfield 75, 3) := by decide +kernel
theorem dX7_correctedBy_44 : decode cX7_correctedBy 44 = .ok (.if_icmp .ge 35, 3) := by decide +kernel
theorem dX7_correctedBy_47 : decode cX7_correctedBy 47 = .ok (.aload_n 0, 1) := by decide +kernel
theorem dX7_correctedBy_48 : decode cX7_correctedBy 48 = .ok (.getfield 7, 3) := by decide +kernel
theorem dX7_correctedBy_51 : decode cX7_correctedBy 51 = .ok (.iload_n 1, 1) := by decide +kernel
theorem dX7_correctedBy_52 : decode cX7_correctedBy 52 = .ok (.iconst 1, 1) := by decide +kernel
theorem dX7_correctedBy_53 : decode cX7_correctedBy 53 = .ok (.iadd, 1) := by decide +kernel
theorem dX7_correctedBy_54 : decode cX7_correctedBy 54 = .ok (.aload_n 0, 1) := by decide +kernel
theorem dX7_correctedBy_55 : decode cX7_correctedBy 55 = .ok (.getfield 7, 3) := by decide +kernel
theorem dX7_correctedBy_58 : decode cX7_correctedBy 58 = .ok (.iconst 5, 1) := by decide +kernel
theorem dX7_correctedBy_59 : decode cX7_correctedBy 59 = .ok (.iaload, 1) := by decide +kernel
theorem dX7_correctedBy_60 : decode cX7_correctedBy 60 = .ok (.iconst 1, 1) := by decide +kernel
theorem dX7_correctedBy_61 : decode cX7_correctedBy 61 = .ok (.iadd, 1) := by decide +kernel
theorem dX7_correctedBy_62 : decode cX7_correctedBy 62 = .ok (.aload_n 0, 1) := by decide +kernel
theorem dX7_correctedBy_63 : decode cX7_correctedBy 63 = .ok (.getfield 32, 3) := by decide +kernel
theorem dX7_correctedBy_66 : decode cX7_correctedBy 66 = .ok (.iload_n 1, 1) := by decide +kernel
theorem dX7_correctedBy_67 : decode cX7_correctedBy 67 = .ok (.iconst 1, 1) := by decide +kernel
theorem dX7_correctedBy_68 : decode cX7_correctedBy 68 = .ok (.iadd, 1) := by decide +kernel
theorem dX7_correctedBy_69 : decode cX7_correctedBy 69 = .ok (.iaload, 1) := by decide +kernel
theorem dX7_correctedBy_70 : decode cX7_correctedBy 70 = .ok (.iadd, 1) := by decide +kernel
theorem dX7_correctedBy_71 : decode cX7_correctedBy 71 = .ok (.invokestatic 138, 3) := by decide +kernel
theorem dX7_correctedBy_74 : decode cX7_correctedBy 74 = .ok (.dup2, 1) := by decide +kernel
theorem dX7_correctedBy_75 : decode cX7_correctedBy 75 = .ok (.iaload, 1) := by decide +kernel
theorem dX7_correctedBy_76 : decode cX7_correctedBy 76 = .ok (.iload_n 2, 1) := by decide +kernel
theorem dX7_correctedBy_77 : decode cX7_correctedBy 77 = .ok (.isub, 1) := by decide +kernel
theorem dX7_correctedBy_78 : decode cX7_correctedBy 78 = .ok (.iastore, 1) := by decide +kernel
theorem dX7_correctedBy_79 : decode cX7_correctedBy 79 = .ok (.return_, 1) := by decide +kernel
theorem dX7_worst_0 : decode cX7_worst 0 = .ok (.iconst 0, 1) := by decide +kernel
theorem dX7_worst_1 : decode cX7_worst 1 = .ok (.istore_n 1, 1) := by decide +kernel
theorem dX7_worst_2 : decode cX7_worst 2 = .ok (.iconst 1, 1) := by decide +kernel
theorem dX7_worst_3 : decode cX7_worst 3 = .ok (.istore_n 2, 1) := by decide +kernel
theorem dX7_worst_4 : decode cX7_worst 4 = .ok (.iload_n 2, 1) := by decide +kernel
theorem dX7_worst_5 : decode cX7_worst 5 = .ok (.aload_n 0, 1) := by decide +kernel
theorem dX7_worst_6 : decode cX7_worst 6 = .ok (.getfield 75, 3) := by decide +kernel
theorem dX7_worst_9 : decode cX7_worst 9 = .ok (.if_icmp .ge 33, 3) := by decide +kernel
theorem dX7_worst_12 : decode cX7_worst 12 = .ok (.aload_n 0, 1) := by decide +kernel
theorem dX7_worst_13 : decode cX7_worst 13 = .ok (.getfield 7, 3) := by decide +kernel
theorem dX7_worst_16 : decode cX7_worst 16 = .ok (.bipush 57, 2) := by decide +kernel
theorem dX7_worst_18 : decode cX7_worst 18 = .ok (.iload_n 2, 1) := by decide +kernel
theorem dX7_worst_19 : decode cX7_worst 19 = .ok (.iadd, 1) := by decide +kernel
theorem dX7_worst_20 : decode cX7_worst 20 = .ok (.iaload, 1) := by decide +kernel
theorem dX7_worst_21 : decode cX7_worst 21 = .ok (.invokestatic 148, 3) := by decide +kernel
theorem dX7_worst_24 : decode cX7_worst 24 = .ok (.istore_n 3, 1) := by decide +kernel
theorem dX7_worst_25 : decode cX7_worst 25 = .ok (.iload_n 3, 1) := by decide +kernel
theorem dX7_worst_26 : decode cX7_worst 26 = .ok (.iload_n 1, 1) := by decide +kernel
theorem dX7_worst_27 : decode cX7_worst 27 = .ok (.if_icmp .le 7, 3) := by decide +kernel
theorem dX7_worst_30 : decode cX7_worst 30 = .ok (.iload_n 3, 1) := by decide +kernel
theorem dX7_worst_31 : decode cX7_worst 31 = .ok (.goto 4, 3) := by decide +kernel
theorem dX7_worst_34 : decode cX7_worst 34 = .ok (.iload_n 1, 1) := by decide +kernel
theorem dX7_worst_35 : decode cX7_worst 35 = .ok (.istore_n 1, 1) := by decide +kernel
theorem dX7_worst_36 : decode cX7_worst 36 = .ok (.iinc 2 1, 3) := by decide +kernel
theorem dX7_worst_39 : decode cX7_worst 39 = .ok (.goto (-35), 3) := by decide +kernel
theorem dX7_worst_42 : decode cX7_worst 42 = .ok (.iload_n 1, 1) := by decide +kernel
theorem dX7_worst_43 : decode cX7_worst 43 = .ok (.ireturn, 1) := by decide +kernel
theorem dX7_isSeen_0 : decode cX7_isSeen 0 = .ok (.aload_n 0, 1) := by decide +kernel
theorem dX7_isSeen_1 : decode cX7_isSeen 1 = .ok (.getfield 7, 3) := by decide +kernel
theorem dX7_isSeen_4 : decode cX7_isSeen 4 = .ok (.iconst 5, 1) := by decide +kernel
theorem dX7_isSeen_5 : decode cX7_isSeen 5 = .ok (.iaload, 1) := by decide +kernel
theorem dX7_isSeen_6 : decode cX7_isSeen 6 = .ok (.aload_n 0, 1) := by decide +kernel
theorem dX7_isSeen_7 : decode cX7_isSeen 7 = .ok (.getfield 35, 3) := by decide +kernel
theorem dX7_isSeen_10 : decode cX7_isSeen 10 = .ok (.aload_n 0, 1) := by decide +kernel
theorem dX7_isSeen_11 : decode cX7_isSeen 11 = .ok (.getfield 75, 3) := by decide +kernel
theorem dX7_isSeen_14 : decode cX7_isSeen 14 = .ok (.iconst 1, 1) := by decide +kernel
theorem dX7_isSeen_15 : decode cX7_isSeen 15 = .ok (.isub, 1) := by decide +kernel
theorem dX7_isSeen_16 : decode cX7_isSeen 16 = .ok (.iaload, 1) := by decide +kernel
theorem dX7_isSeen_17 : decode cX7_isSeen 17 = .ok (.isub, 1) := by decide +kernel
theorem dX7_isSeen_18 : decode cX7_isSeen 18 = .ok (.aload_n 0, 1) := by decide +kernel
theorem dX7_isSeen_19 : decode cX7_isSeen 19 = .ok (.getfield 44, 3) := by decide +kernel
theorem dX7_isSeen_22 : decode cX7_isSeen 22 = .ok (.iconst 0, 1) := by decide +kernel
theorem dX7_isSeen_23 : decode cX7_isSeen 23 = .ok (.iaload, 1) := by decide +kernel
theorem dX7_isSeen_24 : decode cX7_isSeen 24 = .ok (.isub, 1) := by decide +kernel
theorem dX7_isSeen_25 : decode cX7_isSeen 25 = .ok (.istore_n 1, 1) := by decide +kernel
theorem dX7_isSeen_26 : decode cX7_isSeen 26 = .ok (.aload_n 0, 1) := by decide +kernel
theorem dX7_isSeen_27 : decode cX7_isSeen 27 = .ok (.iload_n 1, 1) := by decide +kernel
theorem dX7_isSeen_28 : decode cX7_isSeen 28 = .ok (.invokevirtual 142, 3) := by decide +kernel
theorem dX7_isSeen_31 : decode cX7_isSeen 31 = .ok (.ifCond .ne 5, 3) := by decide +kernel
theorem dX7_isSeen_34 : decode cX7_isSeen 34 = .ok (.iconst 0, 1) := by decide +kernel
theorem dX7_isSeen_35 : decode cX7_isSeen 35 = .ok (.ireturn, 1) := by decide +kernel
theorem dX7_isSeen_36 : decode cX7_isSeen 36 = .ok (.iload_n 1, 1) := by decide +kernel
theorem dX7_isSeen_37 : decode cX7_isSeen 37 = .ok (.invokestatic 134, 3) := by decide +kernel
theorem dX7_isSeen_40 : decode cX7_isSeen 40 = .ok (.istore_n 2, 1) := by decide +kernel
theorem dX7_isSeen_41 : decode cX7_isSeen 41 = .ok (.aload_n 0, 1) := by decide +kernel
theorem dX7_isSeen_42 : decode cX7_isSeen 42 = .ok (.getfield 7, 3) := by decide +kernel
theorem dX7_isSeen_45 : decode cX7_isSeen 45 = .ok (.iload_n 2, 1) := by decide +kernel
theorem dX7_isSeen_46 : decode cX7_isSeen 46 = .ok (.iconst 0, 1) := by decide +kernel
theorem dX7_isSeen_47 : decode cX7_isSeen 47 = .ok (.iadd, 1) := by decide +kernel
theorem dX7_isSeen_48 : decode cX7_isSeen 48 = .ok (.iconst 0, 1) := by decide +kernel
theorem dX7_isSeen_49 : decode cX7_isSeen 49 = .ok (.iastore, 1) := by decide +kernel
theorem dX7_isSeen_50 : decode cX7_isSeen 50 = .ok (.aload_n 0, 1) := by decide +kernel
theorem dX7_isSeen_51 : decode cX7_isSeen 51 = .ok (.getfield 7, 3) := by decide +kernel
theorem dX7_isSeen_54 : decode cX7_isSeen 54 = .ok (.bipush 54, 2) := by decide +kernel
theorem dX7_isSeen_56 : decode cX7_isSeen 56 = .ok (.aload_n 0, 1) := by decide +kernel
theorem dX7_isSeen_57 : decode cX7_isSeen 57 = .ok (.getfield 7, 3) := by decide +kernel
theorem dX7_isSeen_60 : decode cX7_isSeen 60 = .ok (.iload_n 2, 1) := by decide +kernel
theorem dX7_isSeen_61 : decode cX7_isSeen 61 = .ok (.iconst 1, 1) := by decide +kernel
theorem dX7_isSeen_62 : decode cX7_isSeen 62 = .ok (.iadd, 1) := by decide +kernel
theorem dX7_isSeen_63 : decode cX7_isSeen 63 = .ok (.iaload, 1) := by decide +kernel
theorem dX7_isSeen_64 : decode cX7_isSeen 64 = .ok (.iconst 1, 1) := by decide +kernel
theorem dX7_isSeen_65 : decode cX7_isSeen 65 = .ok (.iadd, 1) := by decide +kernel
theorem dX7_isSeen_66 : decode cX7_isSeen 66 = .ok (.iastore, 1) := by decide +kernel
theorem dX7_isSeen_67 : decode cX7_isSeen 67 = .ok (.aload_n 0, 1) := by decide +kernel
