theorem dX4_init_0 : decode cX4_init 0 = .ok (.aload_n 0, 1) := by decide +kernel
theorem dX4_init_1 : decode cX4_init 1 = .ok (.invokespecial 3, 3) := by decide +kernel
theorem dX4_init_4 : decode cX4_init 4 = .ok (.aload_n 0, 1) := by decide +kernel
theorem dX4_init_5 : decode cX4_init 5 = .ok (.iconst 4, 1) := by decide +kernel
theorem dX4_init_6 : decode cX4_init 6 = .ok (.newarray .int, 2) := by decide +kernel
theorem dX4_init_8 : decode cX4_init 8 = .ok (.putfield 9, 3) := by decide +kernel
theorem dX4_init_11 : decode cX4_init 11 = .ok (.aload_n 0, 1) := by decide +kernel
theorem dX4_init_12 : decode cX4_init 12 = .ok (.iconst 4, 1) := by decide +kernel
theorem dX4_init_13 : decode cX4_init 13 = .ok (.newarray .int, 2) := by decide +kernel
theorem dX4_init_15 : decode cX4_init 15 = .ok (.putfield 15, 3) := by decide +kernel
theorem dX4_init_18 : decode cX4_init 18 = .ok (.aload_n 0, 1) := by decide +kernel
theorem dX4_init_19 : decode cX4_init 19 = .ok (.iconst 4, 1) := by decide +kernel
theorem dX4_init_20 : decode cX4_init 20 = .ok (.newarray .int, 2) := by decide +kernel
theorem dX4_init_22 : decode cX4_init 22 = .ok (.putfield 18, 3) := by decide +kernel
theorem dX4_init_25 : decode cX4_init 25 = .ok (.aload_n 0, 1) := by decide +kernel
theorem dX4_init_26 : decode cX4_init 26 = .ok (.bipush 32, 2) := by decide +kernel
theorem dX4_init_28 : decode cX4_init 28 = .ok (.newarray .int, 2) := by decide +kernel
theorem dX4_init_30 : decode cX4_init 30 = .ok (.putfield 21, 3) := by decide +kernel
theorem dX4_init_33 : decode cX4_init 33 = .ok (.aload_n 0, 1) := by decide +kernel
theorem dX4_init_34 : decode cX4_init 34 = .ok (.new 24, 3) := by decide +kernel
theorem dX4_init_37 : decode cX4_init 37 = .ok (.dup, 1) := by decide +kernel
theorem dX4_init_38 : decode cX4_init 38 = .ok (.invokespecial 26, 3) := by decide +kernel
theorem dX4_init_41 : decode cX4_init 41 = .ok (.putfield 27, 3) := by decide +kernel
theorem dX4_init_44 : decode cX4_init 44 = .ok (.return_, 1) := by decide +kernel
theorem dX4_setAsAtFirst_0 : decode cX4_setAsAtFirst 0 = .ok (.aload_n 0, 1) := by decide +kernel
theorem dX4_setAsAtFirst_1 : decode cX4_setAsAtFirst 1 = .ok (.getfield 9, 3) := by decide +kernel
theorem dX4_setAsAtFirst_4 : decode cX4_setAsAtFirst 4 = .ok (.iconst 0, 1) := by decide +kernel
theorem dX4_setAsAtFirst_5 : decode cX4_setAsAtFirst 5 = .ok (.invokestatic 31, 3) := by decide +kernel
theorem dX4_setAsAtFirst_8 : decode cX4_setAsAtFirst 8 = .ok (.aload_n 0, 1) := by decide +kernel
theorem dX4_setAsAtFirst_9 : decode cX4_setAsAtFirst 9 = .ok (.getfield 15, 3) := by decide +kernel
theorem dX4_setAsAtFirst_12 : decode cX4_setAsAtFirst 12 = .ok (.iconst 0, 1) := by decide +kernel
theorem dX4_setAsAtFirst_13 : decode cX4_setAsAtFirst 13 = .ok (.invokestatic 31, 3) := by decide +kernel
theorem dX4_setAsAtFirst_16 : decode cX4_setAsAtFirst 16 = .ok (.aload_n 0, 1) := by decide +kernel
theorem dX4_setAsAtFirst_17 : decode cX4_setAsAtFirst 17 = .ok (.getfield 18, 3) := by decide +kernel
theorem dX4_setAsAtFirst_20 : decode cX4_setAsAtFirst 20 = .ok (.iconst 0, 1) := by decide +kernel
theorem dX4_setAsAtFirst_21 : decode cX4_setAsAtFirst 21 = .ok (.invokestatic 31, 3) := by decide +kernel
theorem dX4_setAsAtFirst_24 : decode cX4_setAsAtFirst 24 = .ok (.aload_n 0, 1) := by decide +kernel
theorem dX4_setAsAtFirst_25 : decode cX4_setAsAtFirst 25 = .ok (.getfield 21, 3) := by decide +kernel
theorem dX4_setAsAtFirst_28 : decode cX4_setAsAtFirst 28 = .ok (.iconst 0, 1) := by decide +kernel
theorem dX4_setAsAtFirst_29 : decode cX4_setAsAtFirst 29 = .ok (.invokestatic 31, 3) := by decide +kernel
theorem dX4_setAsAtFirst_32 : decode cX4_setAsAtFirst 32 = .ok (.aload_n 0, 1) := by decide +kernel
theorem dX4_setAsAtFirst_33 : decode cX4_setAsAtFirst 33 = .ok (.getfield 27, 3) := by decide +kernel
theorem dX4_setAsAtFirst_36 : decode cX4_setAsAtFirst 36 = .ok (.invokevirtual 37, 3) := by decide +kernel
theorem dX4_setAsAtFirst_39 : decode cX4_setAsAtFirst 39 = .ok (.aload_n 0, 1) := by decide +kernel
theorem dX4_setAsAtFirst_40 : decode cX4_setAsAtFirst 40 = .ok (.aload_n 1, 1) := by decide +kernel
theorem dX4_setAsAtFirst_41 : decode cX4_setAsAtFirst 41 = .ok (.getfield 40, 3) := by decide +kernel
theorem dX4_setAsAtFirst_44 : decode cX4_setAsAtFirst 44 = .ok (.ifCond .le 7, 3) := by decide +kernel
theorem dX4_setAsAtFirst_47 : decode cX4_setAsAtFirst 47 = .ok (.iconst 0, 1) := by decide +kernel
theorem dX4_setAsAtFirst_48 : decode cX4_setAsAtFirst 48 = .ok (.goto 5, 3) := by decide +kernel
theorem dX4_setAsAtFirst_51 : decode cX4_setAsAtFirst 51 = .ok (.bipush (-9), 2) := by decide +kernel
theorem dX4_setAsAtFirst_53 : decode cX4_setAsAtFirst 53 = .ok (.putfield 46, 3) := by decide +kernel
theorem dX4_setAsAtFirst_56 : decode cX4_setAsAtFirst 56 = .ok (.aload_n 0, 1) := by decide +kernel
theorem dX4_setAsAtFirst_57 : decode cX4_setAsAtFirst 57 = .ok (.aload_n 1, 1) := by decide +kernel
theorem dX4_setAsAtFirst_58 : decode cX4_setAsAtFirst 58 = .ok (.getfield 40, 3) := by decide +kernel
theorem dX4_setAsAtFirst_61 : decode cX4_setAsAtFirst 61 = .ok (.ifCond .le 12, 3) := by decide +kernel
theorem dX4_setAsAtFirst_64 : decode cX4_setAsAtFirst 64 = .ok (.aload_n 1, 1) := by decide +kernel
theorem dX4_setAsAtFirst_65 : decode cX4_setAsAtFirst 65 = .ok (.getfield 49, 3) := by decide +kernel
theorem dX4_setAsAtFirst_68 : decode cX4_setAsAtFirst 68 = .ok (.iconst 0, 1) := by decide +kernel
theorem dX4_setAsAtFirst_69 : decode cX4_setAsAtFirst 69 = .ok (.iaload, 1) := by decide +kernel
theorem dX4_setAsAtFirst_70 : decode cX4_setAsAtFirst 70 = .ok (.goto 4, 3) := by decide +kernel
theorem dX4_setAsAtFirst_73 : decode cX4_setAsAtFirst 73 = .ok (.iconst 0, 1) := by decide +kernel
theorem dX4_setAsAtFirst_74 : decode cX4_setAsAtFirst 74 = .ok (.putfield 52, 3) := by decide +kernel
theorem dX4_setAsAtFirst_77 : decode cX4_setAsAtFirst 77 = .ok (.aload_n 0, 1) := by decide +kernel
theorem dX4_setAsAtFirst_78 : decode cX4_setAsAtFirst 78 = .ok (.iconst 0, 1) := by decide +kernel
theorem dX4_setAsAtFirst_79 : decode cX4_setAsAtFirst 79 = .ok (.putfield 55, 3) := by decide +kernel
theorem dX4_setAsAtFirst_82 : decode cX4_setAsAtFirst 82 = .ok (.aload_n 0, 1) := by decide +kernel
theorem dX4_setAsAtFirst_83 : decode cX4_setAsAtFirst 83 = .ok (.iconst 1, 1) := by decide +kernel
theorem dX4_setAsAtFirst_84 : decode cX4_setAsAtFirst 84 = .ok (.putfield 58, 3) := by decide +kernel
theorem dX4_setAsAtFirst_87 : decode cX4_setAsAtFirst 87 = .ok (.aload_n 0, 1) := by decide +kernel
theorem dX4_setAsAtFirst_88 : decode cX4_setAsAtFirst 88 = .ok (.iconst 1, 1) := by decide +kernel
theorem dX4_setAsAtFirst_89 : decode cX4_setAsAtFirst 89 = .ok (.putfield 62, 3) := by decide +kernel
theorem dX4_setAsAtFirst_92 : decode cX4_setAsAtFirst 92 = .ok (.aload_n 0, 1) := by decide +kernel
theorem dX4_setAsAtFirst_93 : decode cX4_setAsAtFirst 93 = .ok (.iconst 0, 1) := by decide +kernel
theorem dX4_setAsAtFirst_94 : decode cX4_setAsAtFirst 94 = .ok (.putfield 65, 3) := by decide +kernel
theorem dX4_setAsAtFirst_97 : decode cX4_setAsAtFirst 97 = .ok (.aload_n 0, 1) := by decide +kernel
theorem dX4_setAsAtFirst_98 : decode cX4_setAsAtFirst 98 = .ok (.iconst 0, 1) := by decide +kernel
theorem dX4_setAsAtFirst_99 : decode cX4_setAsAtFirst 99 = .ok (.putfield 68, 3) := by decide +kernel
theorem dX4_setAsAtFirst_102 : decode cX4_setAsAtFirst 102 = .ok (.aload_n 0, 1) := by decide +kernel
theorem dX4_setAsAtFirst_103 : decode cX4_setAsAtFirst 103 = .ok (.iconst 0, 1) := by decide +kernel
theorem dX4_setAsAtFirst_104 : decode cX4_setAsAtFirst 104 = .ok (.putfield 71, 3) := by decide +kernel
theorem dX4_setAsAtFirst_107 : decode cX4_setAsAtFirst 107 = .ok (.aload_n 0, 1) := by decide +kernel
theorem dX4_setAsAtFirst_108 : decode cX4_setAsAtFirst 108 = .ok (.iconst 0, 1) := by decide +kernel
theorem dX4_setAsAtFirst_109 : decode cX4_setAsAtFirst 109 = .ok (.putfield 74, 3) := by decide +kernel
theorem dX4_setAsAtFirst_112 : decode cX4_setAsAtFirst 112 = .ok (.return_, 1) := by decide +kernel
theorem dX4_takeFrom_0 : decode cX4_takeFrom 0 = .ok (.aload_n 1, 1) := by decide +kernel
theorem dX4_takeFrom_1 : decode cX4_takeFrom 1 = .ok (.getfield 9, 3) := by decide +kernel
theorem dX4_takeFrom_4 : decode cX4_takeFrom 4 = .ok (.iconst 0, 1) := by decide +kernel
theorem dX4_takeFrom_5 : decode cX4_takeFrom 5 = .ok (.aload_n 0, 1) := by decide +kernel
theorem dX4_takeFrom_6 : decode cX4_takeFrom 6 = .ok (.getfield 9, 3) := by decide +kernel
theorem dX4_takeFrom_9 : decode cX4_takeFrom 9 = .ok (.iconst 0, 1) := by decide +kernel
theorem dX4_takeFrom_10 : decode cX4_takeFrom 10 = .ok (.iconst 4, 1) := by decide +kernel
theorem dX4_takeFrom_11 : decode cX4_takeFrom 11 = .ok (.invokestatic 77, 3) := by decide +kernel
theorem dX4_takeFrom_14 : decode cX4_takeFrom 14 = .ok (.aload_n 1, 1) := by decide +kernel
theorem dX4_takeFrom_15 : decode cX4_takeFrom 15 = .ok (.getfield 15, 3) := by decide +kernel
theorem dX4_takeFrom_18 : decode cX4_takeFrom 18 = .ok (.iconst 0, 1) := by decide +kernel
theorem dX4_takeFrom_19 : decode cX4_takeFrom 19 = .ok (.aload_n 0, 1) := by decide +kernel
theorem dX4_takeFrom_20 : decode cX4_takeFrom 20 = .ok (.getfield 15, 3) := by decide +kernel
theorem dX4_takeFrom_23 : decode cX4_takeFrom 23 = .ok (.iconst 0, 1) := by decide +kernel
theorem dX4_takeFrom_24 : decode cX4_takeFrom 24 = .ok (.iconst 4, 1) := by decide +kernel
theorem dX4_takeFrom_25 : decode cX4_takeFrom 25 = .ok (.invokestatic 77, 3) := by decide +kernel
theorem dX4_takeFrom_28 : decode cX4_takeFrom 28 = .ok (.aload_n 1, 1) := by decide +kernel
theorem dX4_takeFrom_29 : decode cX4_takeFrom 29 = .ok (.getfield 18, 3) := by decide +kernel
theorem dX4_takeFrom_32 : decode cX4_takeFrom 32 = .ok (.iconst 0, 1) := by decide +kernel
theorem dX4_takeFrom_33 : decode cX4_takeFrom 33 = .ok (.aload_n 0, 1) := by decide +kernel
theorem dX4_takeFrom_34 : decode cX4_takeFrom 34 = .ok (.getfield 18, 3) := by decide +kernel
theorem dX4_takeFrom_37 : decode cX4_takeFrom 37 = .ok (.iconst 0, 1) := by decide +kernel
theorem dX4_takeFrom_38 : decode cX4_takeFrom 38 = .ok (.iconst 4, 1) := by decide +kernel
theorem dX4_takeFrom_39 : decode cX4_takeFrom 39 = .ok (.invokestatic 77, 3) := by decide +kernel
theorem dX4_takeFrom_42 : decode cX4_takeFrom 42 = .ok (.aload_n 1, 1) := by decide +kernel
theorem dX4_takeFrom_43 : decode cX4_takeFrom 43 = .ok (.getfield 21, 3) := by decide +kernel
theorem dX4_takeFrom_46 : decode cX4_takeFrom 46 = .ok (.iconst 0, 1) := by decide +kernel
theorem dX4_takeFrom_47 : decode cX4_takeFrom 47 = .ok (.aload_n 0, 1) := by decide +kernel
theorem dX4_takeFrom_48 : decode cX4_takeFrom 48 = .ok (.getfield 21, 3) := by decide +kernel
theorem dX4_takeFrom_51 : decode cX4_takeFrom 51 = .ok (.iconst 0, 1) := by decide +kernel
theorem dX4_takeFrom_52 : decode cX4_takeFrom 52 = .ok (.bipush 32, 2) := by decide +kernel
theorem dX4_takeFrom_54 : decode cX4_takeFrom 54 = .ok (.invokestatic 77, 3) := by decide +kernel
theorem dX4_takeFrom_57 : decode cX4_takeFrom 57 = .ok (.aload_n 0, 1) := by decide +kernel
theorem dX4_takeFrom_58 : decode cX4_takeFrom 58 = .ok (.getfield 27, 3) := by decide +kernel
theorem dX4_takeFrom_61 : decode cX4_takeFrom 61 = .ok (.aload_n 1, 1) := by decide +kernel
theorem dX4_takeFrom_62 : decode cX4_takeFrom 62 = .ok (.getfield 27, 3) := by decide +kernel
theorem dX4_takeFrom_65 : decode cX4_takeFrom 65 = .ok (.invokevirtual 83, 3) := by decide +kernel
theorem dX4_takeFrom_68 : decode cX4_takeFrom 68 = .ok (.aload_n 0, 1) := by decide +kernel
theorem dX4_takeFrom_69 : decode cX4_takeFrom 69 = .ok (.aload_n 1, 1) := by decide +kernel
theorem dX4_takeFrom_70 : decode cX4_takeFrom 70 = .ok (.getfield 46, 3) := by decide +kernel
theorem dX4_takeFrom_73 : decode cX4_takeFrom 73 = .ok (.putfield 46, 3) := by decide +kernel
theorem dX4_takeFrom_76 : decode cX4_takeFrom 76 = .ok (.aload_n 0, 1) := by decide +kernel
theorem dX4_takeFrom_77 : decode cX4_takeFrom 77 = .ok (.aload_n 1, 1) := by decide +kernel
theorem dX4_takeFrom_78 : decode cX4_takeFrom 78 = .ok (.getfield 52, 3) := by decide +kernel
theorem dX4_takeFrom_81 : decode cX4_takeFrom 81 = .ok (.putfield 52, 3) := by decide +kernel
theorem dX4_takeFrom_84 : decode cX4_takeFrom 84 = .ok (.aload_n 0, 1) := by decide +kernel
theorem dX4_takeFrom_85 : decode cX4_takeFrom 85 = .ok (.aload_n 1, 1) := by decide +kernel
theorem dX4_takeFrom_86 : decode cX4_takeFrom 86 = .ok (.getfield 55, 3) := by decide +kernel
theorem dX4_takeFrom_89 : decode cX4_takeFrom 89 = .ok (.putfield 55, 3) := by decide +kernel
theorem dX4_takeFrom_92 : decode cX4_takeFrom 92 = .ok (.aload_n 0, 1) := by decide +kernel
theorem dX4_takeFrom_93 : decode cX4_takeFrom 93 = .ok (.aload_n 1, 1) := by decide +kernel
theorem dX4_takeFrom_94 : decode cX4_takeFrom 94 = .ok (.getfield 58, 3) := by decide +kernel
theorem dX4_takeFrom_97 : decode cX4_takeFrom 97 = .ok (.putfield 58, 3) := by decide +kernel
theorem dX4_takeFrom_100 : decode cX4_takeFrom 100 = .ok (.aload_n 0, 1) := by decide +kernel
theorem dX4_takeFrom_101 : decode cX4_takeFrom 101 = .ok (.aload_n 1, 1) := by decide +kernel
theorem dX4_takeFrom_102 : decode cX4_takeFrom 102 = .ok (.getfield 62, 3) := by decide +kernel
theorem dX4_takeFrom_105 : decode cX4_takeFrom 105 = .ok (.putfield 62, 3) := by decide +kernel
theorem dX4_takeFrom_108 : decode cX4_takeFrom 108 = .ok (.aload_n 0, 1) := by decide +kernel
theorem dX4_takeFrom_109 : decode cX4_takeFrom 109 = .ok (.aload_n 1, 1) := by decide +kernel
theorem dX4_takeFrom_110 : decode cX4_takeFrom 110 = .ok (.getfield 65, 3) := by decide +kernel
theorem dX4_takeFrom_113 : decode cX4_takeFrom 113 = .ok (.putfield 65, 3) := by decide +kernel
theorem dX4_takeFrom_116 : decode cX4_takeFrom 116 = .ok (.aload_n 0, 1) := by decide +kernel
theorem dX4_takeFrom_117 : decode cX4_takeFrom 117 = .ok (.aload_n 1, 1) := by decide +kernel
theorem dX4_takeFrom_118 : decode cX4_takeFrom 118 = .ok (.getfield 68, 3) := by decide +kernel
theorem dX4_takeFrom_121 : decode cX4_takeFrom 121 = .ok (.putfield 68, 3) := by decide +kernel
theorem dX4_takeFrom_124 : decode cX4_takeFrom 124 = .ok (.aload_n 0, 1) := by decide +kernel
theorem dX4_takeFrom_125 : decode cX4_takeFrom 125 = .ok (.aload_n 1, 1) := by decide +kernel
theorem dX4_takeFrom_126 : decode cX4_takeFrom 126 = .ok (.getfield 71, 3) := by decide +kernel
theorem dX4_takeFrom_129 : decode cX4_takeFrom 129 = .ok (.putfield 71, 3) := by decide +kernel
theorem dX4_takeFrom_132 : decode cX4_takeFrom 132 = .ok (.aload_n 0, 1) := by decide +kernel
theorem dX4_takeFrom_133 : decode cX4_takeFrom 133 = .ok (.aload_n 1, 1) := by decide +kernel
theorem dX4_takeFrom_134 : decode cX4_takeFrom 134 = .ok (.getfield 74, 3) := by decide +kernel
theorem dX4_takeFrom_137 : decode cX4_takeFrom 137 = .ok (.putfield 74, 3) := by decide +kernel
theorem dX4_takeFrom_140 : decode cX4_takeFrom 140 = .ok (.return_, 1) := by decide +kernel
theorem dX4_nextReel_0 : decode cX4_nextReel 0 = .ok (.aload_n 0, 1) := by decide +kernel
theorem dX4_nextReel_1 : decode cX4_nextReel 1 = .ok (.getfield 46, 3) := by decide +kernel
theorem dX4_nextReel_4 : decode cX4_nextReel 4 = .ok (.bipush (-9), 2) := by decide +kernel
theorem dX4_nextReel_6 : decode cX4_nextReel 6 = .ok (.if_icmp .eq 25, 3) := by decide +kernel
theorem dX4_nextReel_9 : decode cX4_nextReel 9 = .ok (.aload_n 1, 1) := by decide +kernel
theorem dX4_nextReel_10 : decode cX4_nextReel 10 = .ok (.aload_n 0, 1) := by decide +kernel
theorem dX4_nextReel_11 : decode cX4_nextReel 11 = .ok (.getfield 46, 3) := by decide +kernel
theorem dX4_nextReel_14 : decode cX4_nextReel 14 = .ok (.iconst 1, 1) := by decide +kernel
theorem dX4_nextReel_15 : decode cX4_nextReel 15 = .ok (.iadd, 1) := by decide +kernel
theorem dX4_nextReel_16 : decode cX4_nextReel 16 = .ok (.invokevirtual 87, 3) := by decide +kernel
theorem dX4_nextReel_19 : decode cX4_nextReel 19 = .ok (.ifCond .eq 12, 3) := by decide +kernel
theorem dX4_nextReel_22 : decode cX4_nextReel 22 = .ok (.aload_n 0, 1) := by decide +kernel
theorem dX4_nextReel_23 : decode cX4_nextReel 23 = .ok (.getfield 46, 3) := by decide +kernel
theorem dX4_nextReel_26 : decode cX4_nextReel 26 = .ok (.iconst 1, 1) := by decide +kernel
theorem dX4_nextReel_27 : decode cX4_nextReel 27 = .ok (.iadd, 1) := by decide +kernel
theorem dX4_nextReel_28 : decode cX4_nextReel 28 = .ok (.goto 5, 3) := by decide +kernel
theorem dX4_nextReel_31 : decode cX4_nextReel 31 = .ok (.bipush (-9), 2) := by decide +kernel
theorem dX4_nextReel_33 : decode cX4_nextReel 33 = .ok (.ireturn, 1) := by decide +kernel
theorem dX4_leftOn_0 : decode cX4_leftOn 0 = .ok (.iload_n 2, 1) := by decide +kernel
theorem dX4_leftOn_1 : decode cX4_leftOn 1 = .ok (.aload_n 0, 1) := by decide +kernel
theorem dX4_leftOn_2 : decode cX4_leftOn 2 = .ok (.getfield 46, 3) := by decide +kernel
theorem dX4_leftOn_5 : decode cX4_leftOn 5 = .ok (.if_icmp .ne 8, 3) := by decide +kernel
theorem dX4_leftOn_8 : decode cX4_leftOn 8 = .ok (.aload_n 0, 1) := by decide +kernel
theorem dX4_leftOn_9 : decode cX4_leftOn 9 = .ok (.getfield 52, 3) := by decide +kernel
theorem dX4_leftOn_12 : decode cX4_leftOn 12 = .ok (.ireturn, 1) := by decide +kernel
theorem dX4_leftOn_13 : decode cX4_leftOn 13 = .ok (.iload_n 2, 1) := by decide +kernel
theorem dX4_leftOn_14 : decode cX4_leftOn 14 = .ok (.aload_n 0, 1) := by decide +kernel
theorem dX4_leftOn_15 : decode cX4_leftOn 15 = .ok (.getfield 46, 3) := by decide +kernel
theorem dX4_leftOn_18 : decode cX4_leftOn 18 = .ok (.if_icmp .le 20, 3) := by decide +kernel
theorem dX4_leftOn_21 : decode cX4_leftOn 21 = .ok (.aload_n 1, 1) := by decide +kernel
theorem dX4_leftOn_22 : decode cX4_leftOn 22 = .ok (.iload_n 2, 1) := by decide +kernel
theorem dX4_leftOn_23 : decode cX4_leftOn 23 = .ok (.invokevirtual 87, 3) := by decide +kernel
theorem dX4_leftOn_26 : decode cX4_leftOn 26 = .ok (.ifCond .eq 12, 3) := by decide +kernel
theorem dX4_leftOn_29 : decode cX4_leftOn 29 = .ok (.aload_n 1, 1) := by decide +kernel
theorem dX4_leftOn_30 : decode cX4_leftOn 30 = .ok (.getfield 49, 3) := by decide +kernel
theorem dX4_leftOn_33 : decode cX4_leftOn 33 = .ok (.iload_n 2, 1) := by decide +kernel
theorem dX4_leftOn_34 : decode cX4_leftOn 34 = .ok (.iaload, 1) := by decide +kernel
theorem dX4_leftOn_35 : decode cX4_leftOn 35 = .ok (.goto 4, 3) := by decide +kernel
theorem dX4_leftOn_38 : decode cX4_leftOn 38 = .ok (.iconst 0, 1) := by decide +kernel
theorem dX4_leftOn_39 : decode cX4_leftOn 39 = .ok (.ireturn, 1) := by decide +kernel
theorem dX4_toBePassed_0 : decode cX4_toBePassed 0 = .ok (.iconst 0, 1) := by decide +kernel
theorem dX4_toBePassed_1 : decode cX4_toBePassed 1 = .ok (.istore_n 2, 1) := by decide +kernel
theorem dX4_toBePassed_2 : decode cX4_toBePassed 2 = .ok (.iconst 0, 1) := by decide +kernel
theorem dX4_toBePassed_3 : decode cX4_toBePassed 3 = .ok (.istore_n 3, 1) := by decide +kernel
theorem dX4_toBePassed_4 : decode cX4_toBePassed 4 = .ok (.iload_n 3, 1) := by decide +kernel
theorem dX4_toBePassed_5 : decode cX4_toBePassed 5 = .ok (.bipush 8, 2) := by decide +kernel
theorem dX4_toBePassed_7 : decode cX4_toBePassed 7 = .ok (.if_icmp .ge 22, 3) := by decide +kernel
theorem dX4_toBePassed_10 : decode cX4_toBePassed 10 = .ok (.iload_n 2, 1) := by decide +kernel
theorem dX4_toBePassed_11 : decode cX4_toBePassed 11 = .ok (.aload_n 0, 1) := by decide +kernel
theorem dX4_toBePassed_12 : decode cX4_toBePassed 12 = .ok (.getfield 21, 3) := by decide +kernel
theorem dX4_toBePassed_15 : decode cX4_toBePassed 15 = .ok (.iload_n 1, 1) := by decide +kernel
theorem dX4_toBePassed_16 : decode cX4_toBePassed 16 = .ok (.iload_n 3, 1) := by decide +kernel
theorem dX4_toBePassed_17 : decode cX4_toBePassed 17 = .ok (.invokestatic 91, 3) := by decide +kernel
theorem dX4_toBePassed_20 : decode cX4_toBePassed 20 = .ok (.iaload, 1) := by decide +kernel
theorem dX4_toBePassed_21 : decode cX4_toBePassed 21 = .ok (.iadd, 1) := by decide +kernel
theorem dX4_toBePassed_22 : decode cX4_toBePassed 22 = .ok (.istore_n 2, 1) := by decide +kernel
theorem dX4_toBePassed_23 : decode cX4_toBePassed 23 = .ok (.iinc 3 1, 3) := by decide +kernel
theorem dX4_toBePassed_26 : decode cX4_toBePassed 26 = .ok (.goto (-22), 3) := by decide +kernel
theorem dX4_toBePassed_29 : decode cX4_toBePassed 29 = .ok (.iload_n 2, 1) := by decide +kernel
theorem dX4_toBePassed_30 : decode cX4_toBePassed 30 = .ok (.ireturn, 1) := by decide +kernel
theorem dX4_passPlace_0 : decode cX4_passPlace 0 = .ok (.iload_n 0, 1) := by decide +kernel
theorem dX4_passPlace_1 : decode cX4_passPlace 1 = .ok (.iconst 3, 1) := by decide +kernel
theorem dX4_passPlace_2 : decode cX4_passPlace 2 = .ok (.iand, 1) := by decide +kernel
theorem dX4_passPlace_3 : decode cX4_passPlace 3 = .ok (.bipush 8, 2) := by decide +kernel
theorem dX4_passPlace_5 : decode cX4_passPlace 5 = .ok (.imul, 1) := by decide +kernel
theorem dX4_passPlace_6 : decode cX4_passPlace 6 = .ok (.iload_n 1, 1) := by decide +kernel
theorem dX4_passPlace_7 : decode cX4_passPlace 7 = .ok (.bipush 7, 2) := by decide +kernel
theorem dX4_passPlace_9 : decode cX4_passPlace 9 = .ok (.iand, 1) := by decide +kernel
theorem dX4_passPlace_10 : decode cX4_passPlace 10 = .ok (.iadd, 1) := by decide +kernel
theorem dX4_passPlace_11 : decode cX4_passPlace 11 = .ok (.ireturn, 1) := by decide +kernel
theorem dX4_correct_0 : decode cX4_correct 0 = .ok (.aload_n 1, 1) := by decide +kernel
theorem dX4_correct_1 : decode cX4_correct 1 = .ok (.iload_n 2, 1) := by decide +kernel
theorem dX4_correct_2 : decode cX4_correct 2 = .ok (.invokevirtual 95, 3) := by decide +kernel
theorem dX4_correct_5 : decode cX4_correct 5 = .ok (.ifCond .ne 4, 3) := by decide +kernel
theorem dX4_correct_8 : decode cX4_correct 8 = .ok (.return_, 1) := by decide +kernel
theorem dX4_correct_9 : decode cX4_correct 9 = .ok (.aload_n 0, 1) := by decide +kernel
theorem dX4_correct_10 : decode cX4_correct 10 = .ok (.getfield 15, 3) := by decide +kernel
theorem dX4_correct_13 : decode cX4_correct 13 = .ok (.iload_n 2, 1) := by decide +kernel
theorem dX4_correct_14 : decode cX4_correct 14 = .ok (.dup2, 1) := by decide +kernel
theorem dX4_correct_15 : decode cX4_correct 15 = .ok (.iaload, 1) := by decide +kernel
theorem dX4_correct_16 : decode cX4_correct 16 = .ok (.iload_n 3, 1) := by decide +kernel
theorem dX4_correct_17 : decode cX4_correct 17 = .ok (.iadd, 1) := by decide +kernel
theorem dX4_correct_18 : decode cX4_correct 18 = .ok (.iastore, 1) := by decide +kernel
theorem dX4_correct_19 : decode cX4_correct 19 = .ok (.aload_n 0, 1) := by decide +kernel
theorem dX4_correct_20 : decode cX4_correct 20 = .ok (.getfield 18, 3) := by decide +kernel
theorem dX4_correct_23 : decode cX4_correct 23 = .ok (.iload_n 2, 1) := by decide +kernel
theorem dX4_correct_24 : decode cX4_correct 24 = .ok (.aload_n 1, 1) := by decide +kernel
theorem dX4_correct_25 : decode cX4_correct 25 = .ok (.iload_n 2, 1) := by decide +kernel
theorem dX4_correct_26 : decode cX4_correct 26 = .ok (.invokevirtual 98, 3) := by decide +kernel
theorem dX4_correct_29 : decode cX4_correct 29 = .ok (.iastore, 1) := by decide +kernel
theorem dX4_correct_30 : decode cX4_correct 30 = .ok (.iload_n 2, 1) := by decide +kernel
theorem dX4_correct_31 : decode cX4_correct 31 = .ok (.iconst 1, 1) := by decide +kernel
theorem dX4_correct_32 : decode cX4_correct 32 = .ok (.iadd, 1) := by decide +kernel
theorem dX4_correct_33 : decode cX4_correct 33 = .ok (.istore 4, 2) := by decide +kernel
theorem dX4_correct_35 : decode cX4_correct 35 = .ok (.aload_n 0, 1) := by decide +kernel
theorem dX4_correct_36 : decode cX4_correct 36 = .ok (.getfield 62, 3) := by decide +kernel
theorem dX4_correct_39 : decode cX4_correct 39 = .ok (.ifCond .eq 40, 3) := by decide +kernel
theorem dX4_correct_42 : decode cX4_correct 42 = .ok (.aload_n 1, 1) := by decide +kernel
theorem dX4_correct_43 : decode cX4_correct 43 = .ok (.iload 4, 2) := by decide +kernel
theorem dX4_correct_45 : decode cX4_correct 45 = .ok (.invokevirtual 102, 3) := by decide +kernel
theorem dX4_correct_48 : decode cX4_correct 48 = .ok (.ifCond .eq 31, 3) := by decide +kernel
theorem dX4_correct_51 : decode cX4_correct 51 = .ok (.aload_n 0, 1) := by decide +kernel
theorem dX4_correct_52 : decode cX4_correct 52 = .ok (.getfield 21, 3) := by decide +kernel
theorem dX4_correct_55 : decode cX4_correct 55 = .ok (.iload 4, 2) := by decide +kernel
theorem dX4_correct_57 : decode cX4_correct 57 = .ok (.aload_n 0, 1) := by decide +kernel
theorem dX4_correct_58 : decode cX4_correct 58 = .ok (.getfield 65, 3) := by decide +kernel
theorem dX4_correct_61 : decode cX4_correct 61 = .ok (.iconst 1, 1) := by decide +kernel
theorem dX4_correct_62 : decode cX4_correct 62 = .ok (.iadd, 1) := by decide +kernel
theorem dX4_correct_63 : decode cX4_correct 63 = .ok (.aload_n 1, 1) := by decide +kernel
theorem dX4_correct_64 : decode cX4_correct 64 = .ok (.getfield 105, 3) := by decide +kernel
theorem dX4_correct_67 : decode cX4_correct 67 = .ok (.iload 4, 2) := by decide +kernel
theorem dX4_correct_69 : decode cX4_correct 69 = .ok (.iaload, 1) := by decide +kernel
theorem dX4_correct_70 : decode cX4_correct 70 = .ok (.iadd, 1) := by decide +kernel
theorem dX4_correct_71 : decode cX4_correct 71 = .ok (.invokestatic 91, 3) := by decide +kernel
theorem dX4_correct_74 : decode cX4_correct 74 = .ok (.dup2, 1) := by decide +kernel
theorem dX4_correct_75 : decode cX4_correct 75 = .ok (.iaload, 1) := by decide +kernel
theorem dX4_correct_76 : decode cX4_correct 76 = .ok (.iload_n 3, 1) := by decide +kernel
theorem dX4_correct_77 : decode cX4_correct 77 = .ok (.isub, 1) := by decide +kernel
theorem dX4_correct_78 : decode cX4_correct 78 = .ok (.iastore, 1) := by decide +kernel
theorem dX4_correct_79 : decode cX4_correct 79 = .ok (.return_, 1) := by decide +kernel
theorem dX4_tickTimes_0 : decode cX4_tickTimes 0 = .ok (.iconst 0, 1) := by decide +kernel
theorem dX4_tickTimes_1 : decode cX4_tickTimes 1 = .ok (.istore_n 3, 1) := by decide +kernel
theorem dX4_tickTimes_2 : decode cX4_tickTimes 2 = .ok (.iload_n 3, 1) := by decide +kernel
theorem dX4_tickTimes_3 : decode cX4_tickTimes 3 = .ok (.iload_n 2, 1) := by decide +kernel
theorem dX4_tickTimes_4 : decode cX4_tickTimes 4 = .ok (.if_icmp .ge 15, 3) := by decide +kernel
theorem dX4_tickTimes_7 : decode cX4_tickTimes 7 = .ok (.aload_n 0, 1) := by decide +kernel
theorem dX4_tickTimes_8 : decode cX4_tickTimes 8 = .ok (.aload_n 1, 1) := by decide +kernel
theorem dX4_tickTimes_9 : decode cX4_tickTimes 9 = .ok (.invokevirtual 108, 3) := by decide +kernel
theorem dX4_tickTimes_12 : decode cX4_tickTimes 12 = .ok (.pop, 1) := by decide +kernel
theorem dX4_tickTimes_13 : decode cX4_tickTimes 13 = .ok (.iinc 3 1, 3) := by decide +kernel
theorem dX4_tickTimes_16 : decode cX4_tickTimes 16 = .ok (.goto (-14), 3) := by decide +kernel
theorem dX4_tickTimes_19 : decode cX4_tickTimes 19 = .ok (.return_, 1) := by decide +kernel
theorem dX4_tick_0 : decode cX4_tick 0 = .ok (.aload_n 0, 1) := by decide +kernel
theorem dX4_tick_1 : decode cX4_tick 1 = .ok (.dup, 1) := by decide +kernel
theorem dX4_tick_2 : decode cX4_tick 2 = .ok (.getfield 65, 3) := by decide +kernel
theorem dX4_tick_5 : decode cX4_tick 5 = .ok (.iconst 1, 1) := by decide +kernel
theorem dX4_tick_6 : decode cX4_tick 6 = .ok (.iadd, 1) := by decide +kernel
theorem dX4_tick_7 : decode cX4_tick 7 = .ok (.putfield 65, 3) := by decide +kernel
theorem dX4_tick_10 : decode cX4_tick 10 = .ok (.aload_n 0, 1) := by decide +kernel
theorem dX4_tick_11 : decode cX4_tick 11 = .ok (.getfield 52, 3) := by decide +kernel
theorem dX4_tick_14 : decode cX4_tick 14 = .ok (.ifCond .ne 7, 3) := by decide +kernel
theorem dX4_tick_17 : decode cX4_tick 17 = .ok (.iconst 1, 1) := by decide +kernel
theorem dX4_tick_18 : decode cX4_tick 18 = .ok (.goto 4, 3) := by decide +kernel
theorem dX4_tick_21 : decode cX4_tick 21 = .ok (.iconst 0, 1) := by decide +kernel
theorem dX4_tick_22 : decode cX4_tick 22 = .ok (.istore_n 2, 1) := by decide +kernel
theorem dX4_tick_23 : decode cX4_tick 23 = .ok (.iload_n 2, 1) := by decide +kernel
theorem dX4_tick_24 : decode cX4_tick 24 = .ok (.ifCond .eq 32, 3) := by decide +kernel
theorem dX4_tick_27 : decode cX4_tick 27 = .ok (.aload_n 0, 1) := by decide +kernel
theorem dX4_tick_28 : decode cX4_tick 28 = .ok (.aload_n 1, 1) := by decide +kernel
theorem dX4_tick_29 : decode cX4_tick 29 = .ok (.invokevirtual 112, 3) := by decide +kernel
theorem dX4_tick_32 : decode cX4_tick 32 = .ok (.ifCond .ne 9, 3) := by decide +kernel
theorem dX4_tick_35 : decode cX4_tick 35 = .ok (.aload_n 0, 1) := by decide +kernel
theorem dX4_tick_36 : decode cX4_tick 36 = .ok (.invokevirtual 115, 3) := by decide +kernel
theorem dX4_tick_39 : decode cX4_tick 39 = .ok (.iconst 0, 1) := by decide +kernel
theorem dX4_tick_40 : decode cX4_tick 40 = .ok (.ireturn, 1) := by decide +kernel
theorem dX4_tick_41 : decode cX4_tick 41 = .ok (.aload_n 0, 1) := by decide +kernel
theorem dX4_tick_42 : decode cX4_tick 42 = .ok (.aload_n 1, 1) := by decide +kernel
theorem dX4_tick_43 : decode cX4_tick 43 = .ok (.invokevirtual 118, 3) := by decide +kernel
theorem dX4_tick_46 : decode cX4_tick 46 = .ok (.aload_n 0, 1) := by decide +kernel
theorem dX4_tick_47 : decode cX4_tick 47 = .ok (.dup, 1) := by decide +kernel
theorem dX4_tick_48 : decode cX4_tick 48 = .ok (.getfield 74, 3) := by decide +kernel
theorem dX4_tick_51 : decode cX4_tick 51 = .ok (.iconst 1, 1) := by decide +kernel
theorem dX4_tick_52 : decode cX4_tick 52 = .ok (.iadd, 1) := by decide +kernel
theorem dX4_tick_53 : decode cX4_tick 53 = .ok (.putfield 74, 3) := by decide +kernel
theorem dX4_tick_56 : decode cX4_tick 56 = .ok (.aload_n 0, 1) := by decide +kernel
theorem dX4_tick_57 : decode cX4_tick 57 = .ok (.dup, 1) := by decide +kernel
theorem dX4_tick_58 : decode cX4_tick 58 = .ok (.getfield 52, 3) := by decide +kernel
theorem dX4_tick_61 : decode cX4_tick 61 = .ok (.iconst 1, 1) := by decide +kernel
theorem dX4_tick_62 : decode cX4_tick 62 = .ok (.isub, 1) := by decide +kernel
theorem dX4_tick_63 : decode cX4_tick 63 = .ok (.putfield 52, 3) := by decide +kernel
theorem dX4_tick_66 : decode cX4_tick 66 = .ok (.aload_n 0, 1) := by decide +kernel
theorem dX4_tick_67 : decode cX4_tick 67 = .ok (.getfield 27, 3) := by decide +kernel
theorem dX4_tick_70 : decode cX4_tick 70 = .ok (.aload_n 1, 1) := by decide +kernel
theorem dX4_tick_71 : decode cX4_tick 71 = .ok (.aload_n 0, 1) := by decide +kernel
theorem dX4_tick_72 : decode cX4_tick 72 = .ok (.getfield 46, 3) := by decide +kernel
theorem dX4_tick_75 : decode cX4_tick 75 = .ok (.invokevirtual 87, 3) := by decide +kernel
theorem dX4_tick_78 : decode cX4_tick 78 = .ok (.ifCond .eq 15, 3) := by decide +kernel
theorem dX4_tick_81 : decode cX4_tick 81 = .ok (.aload_n 1, 1) := by decide +kernel
theorem dX4_tick_82 : decode cX4_tick 82 = .ok (.getfield 122, 3) := by decide +kernel
theorem dX4_tick_85 : decode cX4_tick 85 = .ok (.aload_n 0, 1) := by decide +kernel
theorem dX4_tick_86 : decode cX4_tick 86 = .ok (.getfield 46, 3) := by decide +kernel
theorem dX4_tick_89 : decode cX4_tick 89 = .ok (.iaload, 1) := by decide +kernel
theorem dX4_tick_90 : decode cX4_tick 90 = .ok (.goto 4, 3) := by decide +kernel
theorem dX4_tick_93 : decode cX4_tick 93 = .ok (.iconst 0, 1) := by decide +kernel
theorem dX4_tick_94 : decode cX4_tick 94 = .ok (.iload_n 2, 1) := by decide +kernel
theorem dX4_tick_95 : decode cX4_tick 95 = .ok (.invokevirtual 125, 3) := by decide +kernel
theorem dX4_tick_98 : decode cX4_tick 98 = .ok (.aload_n 0, 1) := by decide +kernel
theorem dX4_tick_99 : decode cX4_tick 99 = .ok (.aload_n 1, 1) := by decide +kernel
theorem dX4_tick_100 : decode cX4_tick 100 = .ok (.invokevirtual 129, 3) := by decide +kernel
theorem dX4_tick_103 : decode cX4_tick 103 = .ok (.aload_n 0, 1) := by decide +kernel
theorem dX4_tick_104 : decode cX4_tick 104 = .ok (.getfield 27, 3) := by decide +kernel
theorem dX4_tick_107 : decode cX4_tick 107 = .ok (.getfield 132, 3) := by decide +kernel
theorem dX4_tick_110 : decode cX4_tick 110 = .ok (.aload_n 1, 1) := by decide +kernel
theorem dX4_tick_111 : decode cX4_tick 111 = .ok (.iconst 0, 1) := by decide +kernel
theorem dX4_tick_112 : decode cX4_tick 112 = .ok (.invokevirtual 98, 3) := by decide +kernel
theorem dX4_tick_115 : decode cX4_tick 115 = .ok (.if_icmp .le 7, 3) := by decide +kernel
theorem dX4_tick_118 : decode cX4_tick 118 = .ok (.iconst 1, 1) := by decide +kernel
theorem dX4_tick_119 : decode cX4_tick 119 = .ok (.goto 4, 3) := by decide +kernel
theorem dX4_tick_122 : decode cX4_tick 122 = .ok (.iconst 0, 1) := by decide +kernel
theorem dX4_tick_123 : decode cX4_tick 123 = .ok (.istore_n 3, 1) := by decide +kernel
theorem dX4_tick_124 : decode cX4_tick 124 = .ok (.iload_n 3, 1) := by decide +kernel
theorem dX4_tick_125 : decode cX4_tick 125 = .ok (.ifCond .eq 13, 3) := by decide +kernel
theorem dX4_tick_128 : decode cX4_tick 128 = .ok (.aload_n 0, 1) := by decide +kernel
theorem dX4_tick_129 : decode cX4_tick 129 = .ok (.aload_n 1, 1) := by decide +kernel
theorem dX4_tick_130 : decode cX4_tick 130 = .ok (.invokevirtual 135, 3) := by decide +kernel
theorem dX4_tick_133 : decode cX4_tick 133 = .ok (.aload_n 0, 1) := by decide +kernel
theorem dX4_tick_134 : decode cX4_tick 134 = .ok (.aload_n 1, 1) := by decide +kernel
theorem dX4_tick_135 : decode cX4_tick 135 = .ok (.invokevirtual 138, 3) := by decide +kernel
theorem dX4_tick_138 : decode cX4_tick 138 = .ok (.aload_n 0, 1) := by decide +kernel
theorem dX4_tick_139 : decode cX4_tick 139 = .ok (.getfield 55, 3) := by decide +kernel
theorem dX4_tick_142 : decode cX4_tick 142 = .ok (.ifCond .le 13, 3) := by decide +kernel
theorem dX4_tick_145 : decode cX4_tick 145 = .ok (.aload_n 0, 1) := by decide +kernel
theorem dX4_tick_146 : decode cX4_tick 146 = .ok (.dup, 1) := by decide +kernel
theorem dX4_tick_147 : decode cX4_tick 147 = .ok (.getfield 55, 3) := by decide +kernel
theorem dX4_tick_150 : decode cX4_tick 150 = .ok (.iconst 1, 1) := by decide +kernel
theorem dX4_tick_151 : decode cX4_tick 151 = .ok (.iadd, 1) := by decide +kernel
theorem dX4_tick_152 : decode cX4_tick 152 = .ok (.putfield 55, 3) := by decide +kernel
theorem dX4_tick_155 : decode cX4_tick 155 = .ok (.iload_n 3, 1) := by decide +kernel
theorem dX4_tick_156 : decode cX4_tick 156 = .ok (.ireturn, 1) := by decide +kernel
theorem dX4_canPaste_0 : decode cX4_canPaste 0 = .ok (.aload_n 0, 1) := by decide +kernel
theorem dX4_canPaste_1 : decode cX4_canPaste 1 = .ok (.aload_n 1, 1) := by decide +kernel
theorem dX4_canPaste_2 : decode cX4_canPaste 2 = .ok (.invokevirtual 141, 3) := by decide +kernel
theorem dX4_canPaste_5 : decode cX4_canPaste 5 = .ok (.bipush (-9), 2) := by decide +kernel
theorem dX4_canPaste_7 : decode cX4_canPaste 7 = .ok (.if_icmp .eq 18, 3) := by decide +kernel
theorem dX4_canPaste_10 : decode cX4_canPaste 10 = .ok (.aload_n 0, 1) := by decide +kernel
theorem dX4_canPaste_11 : decode cX4_canPaste 11 = .ok (.getfield 55, 3) := by decide +kernel
theorem dX4_canPaste_14 : decode cX4_canPaste 14 = .ok (.aload_n 1, 1) := by decide +kernel
theorem dX4_canPaste_15 : decode cX4_canPaste 15 = .ok (.getfield 145, 3) := by decide +kernel
theorem dX4_canPaste_18 : decode cX4_canPaste 18 = .ok (.if_icmp .lt 7, 3) := by decide +kernel
theorem dX4_canPaste_21 : decode cX4_canPaste 21 = .ok (.iconst 1, 1) := by decide +kernel
theorem dX4_canPaste_22 : decode cX4_canPaste 22 = .ok (.goto 4, 3) := by decide +kernel
theorem dX4_canPaste_25 : decode cX4_canPaste 25 = .ok (.iconst 0, 1) := by decide +kernel
theorem dX4_canPaste_26 : decode cX4_canPaste 26 = .ok (.ireturn, 1) := by decide +kernel
theorem dX4_makeReadyToPaste_0 : decode cX4_makeReadyToPaste 0 = .ok (.aload_n 0, 1) := by decide +kernel
theorem dX4_makeReadyToPaste_1 : decode cX4_makeReadyToPaste 1 = .ok (.iconst 0, 1) := by decide +kernel
theorem dX4_makeReadyToPaste_2 : decode cX4_makeReadyToPaste 2 = .ok (.putfield 52, 3) := by decide +kernel
theorem dX4_makeReadyToPaste_5 : decode cX4_makeReadyToPaste 5 = .ok (.aload_n 0, 1) := by decide +kernel
theorem dX4_makeReadyToPaste_6 : decode cX4_makeReadyToPaste 6 = .ok (.aload_n 1, 1) := by decide +kernel
theorem dX4_makeReadyToPaste_7 : decode cX4_makeReadyToPaste 7 = .ok (.getfield 145, 3) := by decide +kernel
theorem dX4_makeReadyToPaste_10 : decode cX4_makeReadyToPaste 10 = .ok (.putfield 55, 3) := by decide +kernel
theorem dX4_makeReadyToPaste_13 : decode cX4_makeReadyToPaste 13 = .ok (.return_, 1) := by decide +kernel
theorem dX4_mountNext_0 : decode cX4_mountNext 0 = .ok (.aload_n 0, 1) := by decide +kernel
theorem dX4_mountNext_1 : decode cX4_mountNext 1 = .ok (.aload_n 1, 1) := by decide +kernel
theorem dX4_mountNext_2 : decode cX4_mountNext 2 = .ok (.invokevirtual 141, 3) := by decide +kernel
theorem dX4_mountNext_5 : decode cX4_mountNext 5 = .ok (.istore_n 2, 1) := by decide +kernel
theorem dX4_mountNext_6 : decode cX4_mountNext 6 = .ok (.iload_n 2, 1) := by decide +kernel
theorem dX4_mountNext_7 : decode cX4_mountNext 7 = .ok (.bipush (-9), 2) := by decide +kernel
theorem dX4_mountNext_9 : decode cX4_mountNext 9 = .ok (.if_icmp .eq 23, 3) := by decide +kernel
theorem dX4_mountNext_12 : decode cX4_mountNext 12 = .ok (.aload_n 0, 1) := by decide +kernel
theorem dX4_mountNext_13 : decode cX4_mountNext 13 = .ok (.iload_n 2, 1) := by decide +kernel
theorem dX4_mountNext_14 : decode cX4_mountNext 14 = .ok (.putfield 46, 3) := by decide +kernel
theorem dX4_mountNext_17 : decode cX4_mountNext 17 = .ok (.aload_n 0, 1) := by decide +kernel
theorem dX4_mountNext_18 : decode cX4_mountNext 18 = .ok (.aload_n 1, 1) := by decide +kernel
theorem dX4_mountNext_19 : decode cX4_mountNext 19 = .ok (.getfield 49, 3) := by decide +kernel
theorem dX4_mountNext_22 : decode cX4_mountNext 22 = .ok (.iload_n 2, 1) := by decide +kernel
theorem dX4_mountNext_23 : decode cX4_mountNext 23 = .ok (.iaload, 1) := by decide +kernel
theorem dX4_mountNext_24 : decode cX4_mountNext 24 = .ok (.putfield 52, 3) := by decide +kernel
theorem dX4_mountNext_27 : decode cX4_mountNext 27 = .ok (.aload_n 0, 1) := by decide +kernel
theorem dX4_mountNext_28 : decode cX4_mountNext 28 = .ok (.iconst 0, 1) := by decide +kernel
theorem dX4_mountNext_29 : decode cX4_mountNext 29 = .ok (.putfield 55, 3) := by decide +kernel
theorem dX4_mountNext_32 : decode cX4_mountNext 32 = .ok (.return_, 1) := by decide +kernel
theorem dX4_breakOff_0 : decode cX4_breakOff 0 = .ok (.aload_n 0, 1) := by decide +kernel
theorem dX4_breakOff_1 : decode cX4_breakOff 1 = .ok (.iconst 0, 1) := by decide +kernel
theorem dX4_breakOff_2 : decode cX4_breakOff 2 = .ok (.putfield 58, 3) := by decide +kernel
theorem dX4_breakOff_5 : decode cX4_breakOff 5 = .ok (.aload_n 0, 1) := by decide +kernel
theorem dX4_breakOff_6 : decode cX4_breakOff 6 = .ok (.dup, 1) := by decide +kernel
theorem dX4_breakOff_7 : decode cX4_breakOff 7 = .ok (.getfield 71, 3) := by decide +kernel
theorem dX4_breakOff_10 : decode cX4_breakOff 10 = .ok (.aload_n 0, 1) := by decide +kernel
theorem dX4_breakOff_11 : decode cX4_breakOff 11 = .ok (.getfield 27, 3) := by decide +kernel
theorem dX4_breakOff_14 : decode cX4_breakOff 14 = .ok (.getfield 132, 3) := by decide +kernel
theorem dX4_breakOff_17 : decode cX4_breakOff 17 = .ok (.iadd, 1) := by decide +kernel
theorem dX4_breakOff_18 : decode cX4_breakOff 18 = .ok (.putfield 71, 3) := by decide +kernel
theorem dX4_breakOff_21 : decode cX4_breakOff 21 = .ok (.aload_n 0, 1) := by decide +kernel
theorem dX4_breakOff_22 : decode cX4_breakOff 22 = .ok (.getfield 27, 3) := by decide +kernel
theorem dX4_breakOff_25 : decode cX4_breakOff 25 = .ok (.iconst 0, 1) := by decide +kernel
theorem dX4_breakOff_26 : decode cX4_breakOff 26 = .ok (.putfield 132, 3) := by decide +kernel
theorem dX4_breakOff_29 : decode cX4_breakOff 29 = .ok (.aload_n 0, 1) := by decide +kernel
theorem dX4_breakOff_30 : decode cX4_breakOff 30 = .ok (.getfield 21, 3) := by decide +kernel
theorem dX4_breakOff_33 : decode cX4_breakOff 33 = .ok (.iconst 0, 1) := by decide +kernel
theorem dX4_breakOff_34 : decode cX4_breakOff 34 = .ok (.invokestatic 31, 3) := by decide +kernel
theorem dX4_breakOff_37 : decode cX4_breakOff 37 = .ok (.return_, 1) := by decide +kernel
theorem dX4_restart_0 : decode cX4_restart 0 = .ok (.aload_n 0, 1) := by decide +kernel
theorem dX4_restart_1 : decode cX4_restart 1 = .ok (.aload_n 1, 1) := by decide +kernel
theorem dX4_restart_2 : decode cX4_restart 2 = .ok (.invokevirtual 118, 3) := by decide +kernel
theorem dX4_restart_5 : decode cX4_restart 5 = .ok (.aload_n 0, 1) := by decide +kernel
theorem dX4_restart_6 : decode cX4_restart 6 = .ok (.iconst 1, 1) := by decide +kernel
theorem dX4_restart_7 : decode cX4_restart 7 = .ok (.putfield 58, 3) := by decide +kernel
theorem dX4_restart_10 : decode cX4_restart 10 = .ok (.aload_n 0, 1) := by decide +kernel
theorem dX4_restart_11 : decode cX4_restart 11 = .ok (.getfield 18, 3) := by decide +kernel
theorem dX4_restart_14 : decode cX4_restart 14 = .ok (.iconst 0, 1) := by decide +kernel
theorem dX4_restart_15 : decode cX4_restart 15 = .ok (.invokestatic 31, 3) := by decide +kernel
theorem dX4_restart_18 : decode cX4_restart 18 = .ok (.return_, 1) := by decide +kernel
theorem dX4_print_0 : decode cX4_print 0 = .ok (.iconst 1, 1) := by decide +kernel
theorem dX4_print_1 : decode cX4_print 1 = .ok (.istore_n 2, 1) := by decide +kernel
theorem dX4_print_2 : decode cX4_print 2 = .ok (.iload_n 2, 1) := by decide +kernel
theorem dX4_print_3 : decode cX4_print 3 = .ok (.aload_n 1, 1) := by decide +kernel
theorem dX4_print_4 : decode cX4_print 4 = .ok (.getfield 148, 3) := by decide +kernel
theorem dX4_print_7 : decode cX4_print 7 = .ok (.if_icmp .ge 66, 3) := by decide +kernel
theorem dX4_print_10 : decode cX4_print 10 = .ok (.iload_n 2, 1) := by decide +kernel
theorem dX4_print_11 : decode cX4_print 11 = .ok (.aload_n 0, 1) := by decide +kernel
theorem dX4_print_12 : decode cX4_print 12 = .ok (.getfield 65, 3) := by decide +kernel
theorem dX4_print_15 : decode cX4_print 15 = .ok (.invokestatic 91, 3) := by decide +kernel
theorem dX4_print_18 : decode cX4_print 18 = .ok (.istore_n 3, 1) := by decide +kernel
theorem dX4_print_19 : decode cX4_print 19 = .ok (.aload_n 0, 1) := by decide +kernel
theorem dX4_print_20 : decode cX4_print 20 = .ok (.getfield 15, 3) := by decide +kernel
theorem dX4_print_23 : decode cX4_print 23 = .ok (.iload_n 2, 1) := by decide +kernel
theorem dX4_print_24 : decode cX4_print 24 = .ok (.dup2, 1) := by decide +kernel
theorem dX4_print_25 : decode cX4_print 25 = .ok (.iaload, 1) := by decide +kernel
theorem dX4_print_26 : decode cX4_print 26 = .ok (.aload_n 0, 1) := by decide +kernel
theorem dX4_print_27 : decode cX4_print 27 = .ok (.getfield 21, 3) := by decide +kernel
theorem dX4_print_30 : decode cX4_print 30 = .ok (.iload_n 3, 1) := by decide +kernel
theorem dX4_print_31 : decode cX4_print 31 = .ok (.iaload, 1) := by decide +kernel
theorem dX4_print_32 : decode cX4_print 32 = .ok (.iadd, 1) := by decide +kernel
theorem dX4_print_33 : decode cX4_print 33 = .ok (.iastore, 1) := by decide +kernel
theorem dX4_print_34 : decode cX4_print 34 = .ok (.aload_n 0, 1) := by decide +kernel
theorem dX4_print_35 : decode cX4_print 35 = .ok (.getfield 21, 3) := by decide +kernel
theorem dX4_print_38 : decode cX4_print 38 = .ok (.iload_n 3, 1) := by decide +kernel
theorem dX4_print_39 : decode cX4_print 39 = .ok (.iconst 0, 1) := by decide +kernel
theorem dX4_print_40 : decode cX4_print 40 = .ok (.iastore, 1) := by decide +kernel
theorem dX4_print_41 : decode cX4_print 41 = .ok (.aload_n 0, 1) := by decide +kernel
theorem dX4_print_42 : decode cX4_print 42 = .ok (.getfield 27, 3) := by decide +kernel
theorem dX4_print_45 : decode cX4_print 45 = .ok (.aload_n 1, 1) := by decide +kernel
theorem dX4_print_46 : decode cX4_print 46 = .ok (.getfield 151, 3) := by decide +kernel
theorem dX4_print_49 : decode cX4_print 49 = .ok (.iload_n 2, 1) := by decide +kernel
theorem dX4_print_50 : decode cX4_print 50 = .ok (.iaload, 1) := by decide +kernel
theorem dX4_print_51 : decode cX4_print 51 = .ok (.iload_n 2, 1) := by decide +kernel
theorem dX4_print_52 : decode cX4_print 52 = .ok (.aload_n 0, 1) := by decide +kernel
theorem dX4_print_53 : decode cX4_print 53 = .ok (.getfield 9, 3) := by decide +kernel
theorem dX4_print_56 : decode cX4_print 56 = .ok (.iload_n 2, 1) := by decide +kernel
theorem dX4_print_57 : decode cX4_print 57 = .ok (.iaload, 1) := by decide +kernel
theorem dX4_print_58 : decode cX4_print 58 = .ok (.aload_n 0, 1) := by decide +kernel
theorem dX4_print_59 : decode cX4_print 59 = .ok (.getfield 15, 3) := by decide +kernel
theorem dX4_print_62 : decode cX4_print 62 = .ok (.iload_n 2, 1) := by decide +kernel
theorem dX4_print_63 : decode cX4_print 63 = .ok (.iaload, 1) := by decide +kernel
theorem dX4_print_64 : decode cX4_print 64 = .ok (.invokevirtual 154, 3) := by decide +kernel
theorem dX4_print_67 : decode cX4_print 67 = .ok (.iinc 2 1, 3) := by decide +kernel
theorem dX4_print_70 : decode cX4_print 70 = .ok (.goto (-68), 3) := by decide +kernel
theorem dX4_print_73 : decode cX4_print 73 = .ok (.return_, 1) := by decide +kernel
theorem dX4_judge_0 : decode cX4_judge 0 = .ok (.aload_n 0, 1) := by decide +kernel
theorem dX4_judge_1 : decode cX4_judge 1 = .ok (.getfield 27, 3) := by decide +kernel
theorem dX4_judge_4 : decode cX4_judge 4 = .ok (.aload_n 1, 1) := by decide +kernel
theorem dX4_judge_5 : decode cX4_judge 5 = .ok (.getfield 157, 3) := by decide +kernel
theorem dX4_judge_8 : decode cX4_judge 8 = .ok (.invokevirtual 160, 3) := by decide +kernel
theorem dX4_judge_11 : decode cX4_judge 11 = .ok (.aload_n 0, 1) := by decide +kernel
theorem dX4_judge_12 : decode cX4_judge 12 = .ok (.getfield 27, 3) := by decide +kernel
theorem dX4_judge_15 : decode cX4_judge 15 = .ok (.getfield 164, 3) := by decide +kernel
theorem dX4_judge_18 : decode cX4_judge 18 = .ok (.ifCond .eq 16, 3) := by decide +kernel
theorem dX4_judge_21 : decode cX4_judge 21 = .ok (.aload_n 0, 1) := by decide +kernel
theorem dX4_judge_22 : decode cX4_judge 22 = .ok (.dup, 1) := by decide +kernel
theorem dX4_judge_23 : decode cX4_judge 23 = .ok (.getfield 68, 3) := by decide +kernel
theorem dX4_judge_26 : decode cX4_judge 26 = .ok (.iconst 1, 1) := by decide +kernel
theorem dX4_judge_27 : decode cX4_judge 27 = .ok (.iadd, 1) := by decide +kernel
theorem dX4_judge_28 : decode cX4_judge 28 = .ok (.putfield 68, 3) := by decide +kernel
theorem dX4_judge_31 : decode cX4_judge 31 = .ok (.goto 13, 3) := by decide +kernel
theorem dX4_judge_34 : decode cX4_judge 34 = .ok (.aload_n 0, 1) := by decide +kernel
theorem dX4_judge_35 : decode cX4_judge 35 = .ok (.dup, 1) := by decide +kernel
theorem dX4_judge_36 : decode cX4_judge 36 = .ok (.getfield 71, 3) := by decide +kernel
theorem dX4_judge_39 : decode cX4_judge 39 = .ok (.iconst 1, 1) := by decide +kernel
theorem dX4_judge_40 : decode cX4_judge 40 = .ok (.iadd, 1) := by decide +kernel
theorem dX4_judge_41 : decode cX4_judge 41 = .ok (.putfield 71, 3) := by decide +kernel
theorem dX4_judge_44 : decode cX4_judge 44 = .ok (.return_, 1) := by decide +kernel
theorem dX4_adjust_0 : decode cX4_adjust 0 = .ok (.iconst 1, 1) := by decide +kernel
theorem dX4_adjust_1 : decode cX4_adjust 1 = .ok (.istore_n 2, 1) := by decide +kernel
theorem dX4_adjust_2 : decode cX4_adjust 2 = .ok (.iload_n 2, 1) := by decide +kernel
theorem dX4_adjust_3 : decode cX4_adjust 3 = .ok (.aload_n 1, 1) := by decide +kernel
theorem dX4_adjust_4 : decode cX4_adjust 4 = .ok (.getfield 148, 3) := by decide +kernel
theorem dX4_adjust_7 : decode cX4_adjust 7 = .ok (.if_icmp .ge 69, 3) := by decide +kernel
theorem dX4_adjust_10 : decode cX4_adjust 10 = .ok (.aload_n 0, 1) := by decide +kernel
theorem dX4_adjust_11 : decode cX4_adjust 11 = .ok (.getfield 27, 3) := by decide +kernel
theorem dX4_adjust_14 : decode cX4_adjust 14 = .ok (.getfield 167, 3) := by decide +kernel
theorem dX4_adjust_17 : decode cX4_adjust 17 = .ok (.iload_n 2, 1) := by decide +kernel
theorem dX4_adjust_18 : decode cX4_adjust 18 = .ok (.iaload, 1) := by decide +kernel
theorem dX4_adjust_19 : decode cX4_adjust 19 = .ok (.istore_n 3, 1) := by decide +kernel
theorem dX4_adjust_20 : decode cX4_adjust 20 = .ok (.aload_n 0, 1) := by decide +kernel
theorem dX4_adjust_21 : decode cX4_adjust 21 = .ok (.getfield 18, 3) := by decide +kernel
theorem dX4_adjust_24 : decode cX4_adjust 24 = .ok (.iload_n 2, 1) := by decide +kernel
theorem dX4_adjust_25 : decode cX4_adjust 25 = .ok (.iaload, 1) := by decide +kernel
theorem dX4_adjust_26 : decode cX4_adjust 26 = .ok (.ifCond .le 16, 3) := by decide +kernel
theorem dX4_adjust_29 : decode cX4_adjust 29 = .ok (.aload_n 0, 1) := by decide +kernel
theorem dX4_adjust_30 : decode cX4_adjust 30 = .ok (.getfield 18, 3) := by decide +kernel
theorem dX4_adjust_33 : decode cX4_adjust 33 = .ok (.iload_n 2, 1) := by decide +kernel
theorem dX4_adjust_34 : decode cX4_adjust 34 = .ok (.dup2, 1) := by decide +kernel
theorem dX4_adjust_35 : decode cX4_adjust 35 = .ok (.iaload, 1) := by decide +kernel
theorem dX4_adjust_36 : decode cX4_adjust 36 = .ok (.iconst 1, 1) := by decide +kernel
theorem dX4_adjust_37 : decode cX4_adjust 37 = .ok (.isub, 1) := by decide +kernel
theorem dX4_adjust_38 : decode cX4_adjust 38 = .ok (.iastore, 1) := by decide +kernel
theorem dX4_adjust_39 : decode cX4_adjust 39 = .ok (.goto 31, 3) := by decide +kernel
theorem dX4_adjust_42 : decode cX4_adjust 42 = .ok (.iload_n 3, 1) := by decide +kernel
theorem dX4_adjust_43 : decode cX4_adjust 43 = .ok (.invokestatic 170, 3) := by decide +kernel
theorem dX4_adjust_46 : decode cX4_adjust 46 = .ok (.aload_n 1, 1) := by decide +kernel
theorem dX4_adjust_47 : decode cX4_adjust 47 = .ok (.getfield 175, 3) := by decide +kernel
theorem dX4_adjust_50 : decode cX4_adjust 50 = .ok (.if_icmp .le 20, 3) := by decide +kernel
theorem dX4_adjust_53 : decode cX4_adjust 53 = .ok (.aload_n 0, 1) := by decide +kernel
theorem dX4_adjust_54 : decode cX4_adjust 54 = .ok (.getfield 27, 3) := by decide +kernel
theorem dX4_adjust_57 : decode cX4_adjust 57 = .ok (.getfield 178, 3) := by decide +kernel
theorem dX4_adjust_60 : decode cX4_adjust 60 = .ok (.ifCond .ne 10, 3) := by decide +kernel
theorem dX4_adjust_63 : decode cX4_adjust 63 = .ok (.aload_n 0, 1) := by decide +kernel
theorem dX4_adjust_64 : decode cX4_adjust 64 = .ok (.aload_n 1, 1) := by decide +kernel
theorem dX4_adjust_65 : decode cX4_adjust 65 = .ok (.iload_n 2, 1) := by decide +kernel
theorem dX4_adjust_66 : decode cX4_adjust 66 = .ok (.iload_n 3, 1) := by decide +kernel
theorem dX4_adjust_67 : decode cX4_adjust 67 = .ok (.invokevirtual 181, 3) := by decide +kernel
theorem dX4_adjust_70 : decode cX4_adjust 70 = .ok (.iinc 2 1, 3) := by decide +kernel
theorem dX4_adjust_73 : decode cX4_adjust 73 = .ok (.goto (-71), 3) := by decide +kernel
theorem dX4_adjust_76 : decode cX4_adjust 76 = .ok (.return_, 1) := by decide +kernel
theorem dX5_init_0 : decode cX5_init 0 = .ok (.aload_n 0, 1) := by decide +kernel
theorem dX5_init_1 : decode cX5_init 1 = .ok (.invokespecial 3, 3) := by decide +kernel
theorem dX5_init_4 : decode cX5_init 4 = .ok (.aload_n 0, 1) := by decide +kernel
theorem dX5_init_5 : decode cX5_init 5 = .ok (.bipush 120, 2) := by decide +kernel
theorem dX5_init_7 : decode cX5_init 7 = .ok (.newarray .int, 2) := by decide +kernel
theorem dX5_init_9 : decode cX5_init 9 = .ok (.putfield 9, 3) := by decide +kernel
theorem dX5_init_12 : decode cX5_init 12 = .ok (.return_, 1) := by decide +kernel
theorem dX5_add_0 : decode cX5_add 0 = .ok (.aload_n 0, 1) := by decide +kernel
theorem dX5_add_1 : decode cX5_add 1 = .ok (.getfield 15, 3) := by decide +kernel
theorem dX5_add_4 : decode cX5_add 4 = .ok (.bipush 120, 2) := by decide +kernel
theorem dX5_add_6 : decode cX5_add 6 = .ok (.if_icmp .lt 5, 3) := by decide +kernel
theorem dX5_add_9 : decode cX5_add 9 = .ok (.iconst 0, 1) := by decide +kernel
theorem dX5_add_10 : decode cX5_add 10 = .ok (.ireturn, 1) := by decide +kernel
theorem dX5_add_11 : decode cX5_add 11 = .ok (.aload_n 0, 1) := by decide +kernel
theorem dX5_add_12 : decode cX5_add 12 = .ok (.getfield 9, 3) := by decide +kernel
theorem dX5_add_15 : decode cX5_add 15 = .ok (.aload_n 0, 1) := by decide +kernel
theorem dX5_add_16 : decode cX5_add 16 = .ok (.getfield 15, 3) := by decide +kernel
theorem dX5_add_19 : decode cX5_add 19 = .ok (.iload_n 1, 1) := by decide +kernel
theorem dX5_add_20 : decode cX5_add 20 = .ok (.iastore, 1) := by decide +kernel
theorem dX5_add_21 : decode cX5_add 21 = .ok (.aload_n 0, 1) := by decide +kernel
theorem dX5_add_22 : decode cX5_add 22 = .ok (.dup, 1) := by decide +kernel
theorem dX5_add_23 : decode cX5_add 23 = .ok (.getfield 15, 3) := by decide +kernel
theorem dX5_add_26 : decode cX5_add 26 = .ok (.iconst 1, 1) := by decide +kernel
theorem dX5_add_27 : decode cX5_add 27 = .ok (.iadd, 1) := by decide +kernel
theorem dX5_add_28 : decode cX5_add 28 = .ok (.putfield 15, 3) := by decide +kernel
theorem dX5_add_31 : decode cX5_add 31 = .ok (.iconst 1, 1) := by decide +kernel
theorem dX5_add_32 : decode cX5_add 32 = .ok (.ireturn, 1) := by decide +kernel
theorem dX5_readInto_0 : decode cX5_readInto 0 = .ok (.aload_n 1, 1) := by decide +kernel
theorem dX5_readInto_1 : decode cX5_readInto 1 = .ok (.invokevirtual 19, 3) := by decide +kernel
theorem dX5_readInto_4 : decode cX5_readInto 4 = .ok (.aload_n 0, 1) := by decide +kernel
theorem dX5_readInto_5 : decode cX5_readInto 5 = .ok (.iconst 0, 1) := by decide +kernel
theorem dX5_readInto_6 : decode cX5_readInto 6 = .ok (.putfield 24, 3) := by decide +kernel
theorem dX5_readInto_9 : decode cX5_readInto 9 = .ok (.aload_n 0, 1) := by decide +kernel
theorem dX5_readInto_10 : decode cX5_readInto 10 = .ok (.iconst 0, 1) := by decide +kernel
theorem dX5_readInto_11 : decode cX5_readInto 11 = .ok (.putfield 27, 3) := by decide +kernel
theorem dX5_readInto_14 : decode cX5_readInto 14 = .ok (.iconst 0, 1) := by decide +kernel
theorem dX5_readInto_15 : decode cX5_readInto 15 = .ok (.istore_n 2, 1) := by decide +kernel
theorem dX5_readInto_16 : decode cX5_readInto 16 = .ok (.aload_n 0, 1) := by decide +kernel
theorem dX5_readInto_17 : decode cX5_readInto 17 = .ok (.invokevirtual 30, 3) := by decide +kernel
theorem dX5_readInto_20 : decode cX5_readInto 20 = .ok (.aload_n 0, 1) := by decide +kernel
theorem dX5_readInto_21 : decode cX5_readInto 21 = .ok (.getfield 33, 3) := by decide +kernel
theorem dX5_readInto_24 : decode cX5_readInto 24 = .ok (.sipush 257, 3) := by decide +kernel
theorem dX5_readInto_27 : decode cX5_readInto 27 = .ok (.if_icmp .eq 31, 3) := by decide +kernel
theorem dX5_readInto_30 : decode cX5_readInto 30 = .ok (.iload_n 2, 1) := by decide +kernel
theorem dX5_readInto_31 : decode cX5_readInto 31 = .ok (.bipush 120, 2) := by decide +kernel
theorem dX5_readInto_33 : decode cX5_readInto 33 = .ok (.if_icmp .ge 25, 3) := by decide +kernel
theorem dX5_readInto_36 : decode cX5_readInto 36 = .ok (.aload_n 0, 1) := by decide +kernel
theorem dX5_readInto_37 : decode cX5_readInto 37 = .ok (.aload_n 1, 1) := by decide +kernel
theorem dX5_readInto_38 : decode cX5_readInto 38 = .ok (.invokevirtual 36, 3) := by decide +kernel
theorem dX5_readInto_41 : decode cX5_readInto 41 = .ok (.ifCond .ne 11, 3) := by decide +kernel
theorem dX5_readInto_44 : decode cX5_readInto 44 = .ok (.bipush (-10), 2) := by decide +kernel
theorem dX5_readInto_46 : decode cX5_readInto 46 = .ok (.aload_n 0, 1) := by decide +kernel
theorem dX5_readInto_47 : decode cX5_readInto 47 = .ok (.getfield 40, 3) := by decide +kernel
theorem dX5_readInto_50 : decode cX5_readInto 50 = .ok (.isub, 1) := by decide +kernel
theorem dX5_readInto_51 : decode cX5_readInto 51 = .ok (.ireturn, 1) := by decide +kernel
theorem dX5_readInto_52 : decode cX5_readInto 52 = .ok (.iinc 2 1, 3) := by decide +kernel
theorem dX5_readInto_55 : decode cX5_readInto 55 = .ok (.goto (-35), 3) := by decide +kernel
theorem dX5_readInto_58 : decode cX5_readInto 58 = .ok (.iload_n 2, 1) := by decide +kernel
theorem dX5_readInto_59 : decode cX5_readInto 59 = .ok (.ireturn, 1) := by decide +kernel
theorem dX5_readItem_0 : decode cX5_readItem 0 = .ok (.aload_n 0, 1) := by decide +kernel
theorem dX5_readItem_1 : decode cX5_readItem 1 = .ok (.getfield 33, 3) := by decide +kernel
theorem dX5_readItem_4 : decode cX5_readItem 4 = .ok (.istore_n 2, 1) := by decide +kernel
theorem dX5_readItem_5 : decode cX5_readItem 5 = .ok (.aload_n 0, 1) := by decide +kernel
theorem dX5_readItem_6 : decode cX5_readItem 6 = .ok (.aload_n 1, 1) := by decide +kernel
theorem dX5_readItem_7 : decode cX5_readItem 7 = .ok (.iload_n 2, 1) := by decide +kernel
theorem dX5_readItem_8 : decode cX5_readItem 8 = .ok (.invokevirtual 43, 3) := by decide +kernel
theorem dX5_readItem_11 : decode cX5_readItem 11 = .ok (.ifCond .ne 5, 3) := by decide +kernel
theorem dX5_readItem_14 : decode cX5_readItem 14 = .ok (.iconst 0, 1) := by decide +kernel
theorem dX5_readItem_15 : decode cX5_readItem 15 = .ok (.ireturn, 1) := by decide +kernel
theorem dX5_readItem_16 : decode cX5_readItem 16 = .ok (.aload_n 0, 1) := by decide +kernel
theorem dX5_readItem_17 : decode cX5_readItem 17 = .ok (.invokevirtual 30, 3) := by decide +kernel
theorem dX5_readItem_20 : decode cX5_readItem 20 = .ok (.iload_n 2, 1) := by decide +kernel
theorem dX5_readItem_21 : decode cX5_readItem 21 = .ok (.bipush 114, 2) := by decide +kernel
theorem dX5_readItem_23 : decode cX5_readItem 23 = .ok (.if_icmp .ne 11, 3) := by decide +kernel
theorem dX5_readItem_26 : decode cX5_readItem 26 = .ok (.aload_n 0, 1) := by decide +kernel
theorem dX5_readItem_27 : decode cX5_readItem 27 = .ok (.aload_n 1, 1) := by decide +kernel
theorem dX5_readItem_28 : decode cX5_readItem 28 = .ok (.invokevirtual 47, 3) := by decide +kernel
theorem dX5_readItem_31 : decode cX5_readItem 31 = .ok (.goto 9, 3) := by decide +kernel
theorem dX5_readItem_34 : decode cX5_readItem 34 = .ok (.aload_n 0, 1) := by decide +kernel
theorem dX5_readItem_35 : decode cX5_readItem 35 = .ok (.aload_n 1, 1) := by decide +kernel
theorem dX5_readItem_36 : decode cX5_readItem 36 = .ok (.iload_n 2, 1) := by decide +kernel
theorem dX5_readItem_37 : decode cX5_readItem 37 = .ok (.invokevirtual 50, 3) := by decide +kernel
theorem dX5_readItem_40 : decode cX5_readItem 40 = .ok (.istore_n 3, 1) := by decide +kernel
theorem dX5_readItem_41 : decode cX5_readItem 41 = .ok (.iload_n 3, 1) := by decide +kernel
theorem dX5_readItem_42 : decode cX5_readItem 42 = .ok (.ifCond .eq 12, 3) := by decide +kernel
theorem dX5_readItem_45 : decode cX5_readItem 45 = .ok (.aload_n 0, 1) := by decide +kernel
theorem dX5_readItem_46 : decode cX5_readItem 46 = .ok (.getfield 33, 3) := by decide +kernel
theorem dX5_readItem_49 : decode cX5_readItem 49 = .ok (.bipush 59, 2) := by decide +kernel
theorem dX5_readItem_51 : decode cX5_readItem 51 = .ok (.if_icmp .eq 5, 3) := by decide +kernel
theorem dX5_readItem_54 : decode cX5_readItem 54 = .ok (.iconst 0, 1) := by decide +kernel
theorem dX5_readItem_55 : decode cX5_readItem 55 = .ok (.ireturn, 1) := by decide +kernel
theorem dX5_readItem_56 : decode cX5_readItem 56 = .ok (.aload_n 0, 1) := by decide +kernel
theorem dX5_readItem_57 : decode cX5_readItem 57 = .ok (.invokevirtual 30, 3) := by decide +kernel
theorem dX5_readItem_60 : decode cX5_readItem 60 = .ok (.iconst 1, 1) := by decide +kernel
theorem dX5_readItem_61 : decode cX5_readItem 61 = .ok (.ireturn, 1) := by decide +kernel
theorem dX5_mayBegin_0 : decode cX5_mayBegin 0 = .ok (.iload_n 2, 1) := by decide +kernel
theorem dX5_mayBegin_1 : decode cX5_mayBegin 1 = .ok (.bipush 117, 2) := by decide +kernel
theorem dX5_mayBegin_3 : decode cX5_mayBegin 3 = .ok (.if_icmp .ne 17, 3) := by decide +kernel
theorem dX5_mayBegin_6 : decode cX5_mayBegin 6 = .ok (.aload_n 1, 1) := by decide +kernel
theorem dX5_mayBegin_7 : decode cX5_mayBegin 7 = .ok (.getfield 53, 3) := by decide +kernel
theorem dX5_mayBegin_10 : decode cX5_mayBegin 10 = .ok (.iconst 4, 1) := by decide +kernel
theorem dX5_mayBegin_11 : decode cX5_mayBegin 11 = .ok (.if_icmp .ge 7, 3) := by decide +kernel
theorem dX5_mayBegin_14 : decode cX5_mayBegin 14 = .ok (.iconst 1, 1) := by decide +kernel
theorem dX5_mayBegin_15 : decode cX5_mayBegin 15 = .ok (.goto 4, 3) := by decide +kernel
theorem dX5_mayBegin_18 : decode cX5_mayBegin 18 = .ok (.iconst 0, 1) := by decide +kernel
theorem dX5_mayBegin_19 : decode cX5_mayBegin 19 = .ok (.ireturn, 1) := by decide +kernel
theorem dX5_mayBegin_20 : decode cX5_mayBegin 20 = .ok (.iload_n 2, 1) := by decide +kernel
theorem dX5_mayBegin_21 : decode cX5_mayBegin 21 = .ok (.bipush 114, 2) := by decide +kernel
theorem dX5_mayBegin_23 : decode cX5_mayBegin 23 = .ok (.if_icmp .ne 18, 3) := by decide +kernel
theorem dX5_mayBegin_26 : decode cX5_mayBegin 26 = .ok (.aload_n 1, 1) := by decide +kernel
theorem dX5_mayBegin_27 : decode cX5_mayBegin 27 = .ok (.getfield 56, 3) := by decide +kernel
theorem dX5_mayBegin_30 : decode cX5_mayBegin 30 = .ok (.bipush 8, 2) := by decide +kernel
theorem dX5_mayBegin_32 : decode cX5_mayBegin 32 = .ok (.if_icmp .ge 7, 3) := by decide +kernel
theorem dX5_mayBegin_35 : decode cX5_mayBegin 35 = .ok (.iconst 1, 1) := by decide +kernel
theorem dX5_mayBegin_36 : decode cX5_mayBegin 36 = .ok (.goto 4, 3) := by decide +kernel
theorem dX5_mayBegin_39 : decode cX5_mayBegin 39 = .ok (.iconst 0, 1) := by decide +kernel
theorem dX5_mayBegin_40 : decode cX5_mayBegin 40 = .ok (.ireturn, 1) := by decide +kernel
theorem dX5_mayBegin_41 : decode cX5_mayBegin 41 = .ok (.iload_n 2, 1) := by decide +kernel
theorem dX5_mayBegin_42 : decode cX5_mayBegin 42 = .ok (.invokestatic 59, 3) := by decide +kernel
theorem dX5_mayBegin_45 : decode cX5_mayBegin 45 = .ok (.istore_n 3, 1) := by decide +kernel
theorem dX5_mayBegin_46 : decode cX5_mayBegin 46 = .ok (.iload_n 3, 1) := by decide +kernel
theorem dX5_mayBegin_47 : decode cX5_mayBegin 47 = .ok (.ifCond .eq 12, 3) := by decide +kernel
theorem dX5_mayBegin_50 : decode cX5_mayBegin 50 = .ok (.aload_n 0, 1) := by decide +kernel
theorem dX5_mayBegin_51 : decode cX5_mayBegin 51 = .ok (.getfield 27, 3) := by decide +kernel
theorem dX5_mayBegin_54 : decode cX5_mayBegin 54 = .ok (.iload_n 3, 1) := by decide +kernel
theorem dX5_mayBegin_55 : decode cX5_mayBegin 55 = .ok (.iand, 1) := by decide +kernel
theorem dX5_mayBegin_56 : decode cX5_mayBegin 56 = .ok (.ifCond .eq 5, 3) := by decide +kernel
theorem dX5_mayBegin_59 : decode cX5_mayBegin 59 = .ok (.iconst 0, 1) := by decide +kernel
theorem dX5_mayBegin_60 : decode cX5_mayBegin 60 = .ok (.ireturn, 1) := by decide +kernel
theorem dX5_mayBegin_61 : decode cX5_mayBegin 61 = .ok (.aload_n 0, 1) := by decide +kernel
theorem dX5_mayBegin_62 : decode cX5_mayBegin 62 = .ok (.dup, 1) := by decide +kernel
theorem dX5_mayBegin_63 : decode cX5_mayBegin 63 = .ok (.getfield 27, 3) := by decide +kernel
theorem dX5_mayBegin_66 : decode cX5_mayBegin 66 = .ok (.iload_n 3, 1) := by decide +kernel
theorem dX5_mayBegin_67 : decode cX5_mayBegin 67 = .ok (.ior, 1) := by decide +kernel
theorem dX5_mayBegin_68 : decode cX5_mayBegin 68 = .ok (.putfield 27, 3) := by decide +kernel
theorem dX5_mayBegin_71 : decode cX5_mayBegin 71 = .ok (.iconst 1, 1) := by decide +kernel
theorem dX5_mayBegin_72 : decode cX5_mayBegin 72 = .ok (.ireturn, 1) := by decide +kernel
theorem dX5_onceBit_0 : decode cX5_onceBit 0 = .ok (.iload_n 0, 1) := by decide +kernel
theorem dX5_onceBit_1 : decode cX5_onceBit 1 = .ok (.lookupswitch 52 #[(101, 43), (105, 47), (108, 45), (112, 49)], 43) := by decide +kernel
theorem dX5_onceBit_44 : decode cX5_onceBit 44 = .ok (.iconst 1, 1) := by decide +kernel
theorem dX5_onceBit_45 : decode cX5_onceBit 45 = .ok (.ireturn, 1) := by decide +kernel
theorem dX5_onceBit_46 : decode cX5_onceBit 46 = .ok (.iconst 2, 1) := by decide +kernel
theorem dX5_onceBit_47 : decode cX5_onceBit 47 = .ok (.ireturn, 1) := by decide +kernel
theorem dX5_onceBit_48 : decode cX5_onceBit 48 = .ok (.iconst 4, 1) := by decide +kernel
theorem dX5_onceBit_49 : decode cX5_onceBit 49 = .ok (.ireturn, 1) := by decide +kernel
theorem dX5_onceBit_50 : decode cX5_onceBit 50 = .ok (.bipush 8, 2) := by decide +kernel
theorem dX5_onceBit_52 : decode cX5_onceBit 52 = .ok (.ireturn, 1) := by decide +kernel
theorem dX5_onceBit_53 : decode cX5_onceBit 53 = .ok (.iconst 0, 1) := by decide +kernel
theorem dX5_onceBit_54 : decode cX5_onceBit 54 = .ok (.ireturn, 1) := by decide +kernel
theorem dX5_readReel_0 : decode cX5_readReel 0 = .ok (.aload_n 0, 1) := by decide +kernel
theorem dX5_readReel_1 : decode cX5_readReel 1 = .ok (.iconst 1, 1) := by decide +kernel
theorem dX5_readReel_2 : decode cX5_readReel 2 = .ok (.bipush 99, 2) := by decide +kernel
theorem dX5_readReel_4 : decode cX5_readReel 4 = .ok (.invokevirtual 63, 3) := by decide +kernel
theorem dX5_readReel_7 : decode cX5_readReel 7 = .ok (.istore_n 2, 1) := by decide +kernel
theorem dX5_readReel_8 : decode cX5_readReel 8 = .ok (.iload_n 2, 1) := by decide +kernel
theorem dX5_readReel_9 : decode cX5_readReel 9 = .ok (.ifCond .ge 5, 3) := by decide +kernel
theorem dX5_readReel_12 : decode cX5_readReel 12 = .ok (.iconst 0, 1) := by decide +kernel
theorem dX5_readReel_13 : decode cX5_readReel 13 = .ok (.ireturn, 1) := by decide +kernel
theorem dX5_readReel_14 : decode cX5_readReel 14 = .ok (.aload_n 0, 1) := by decide +kernel
theorem dX5_readReel_15 : decode cX5_readReel 15 = .ok (.getfield 33, 3) := by decide +kernel
theorem dX5_readReel_18 : decode cX5_readReel 18 = .ok (.bipush 45, 2) := by decide +kernel
theorem dX5_readReel_20 : decode cX5_readReel 20 = .ok (.if_icmp .ne 7, 3) := by decide +kernel
theorem dX5_readReel_23 : decode cX5_readReel 23 = .ok (.iconst 1, 1) := by decide +kernel
theorem dX5_readReel_24 : decode cX5_readReel 24 = .ok (.goto 4, 3) := by decide +kernel
theorem dX5_readReel_27 : decode cX5_readReel 27 = .ok (.iconst 0, 1) := by decide +kernel
theorem dX5_readReel_28 : decode cX5_readReel 28 = .ok (.istore_n 3, 1) := by decide +kernel
theorem dX5_readReel_29 : decode cX5_readReel 29 = .ok (.iload_n 3, 1) := by decide +kernel
theorem dX5_readReel_30 : decode cX5_readReel 30 = .ok (.ifCond .eq 7, 3) := by decide +kernel
theorem dX5_readReel_33 : decode cX5_readReel 33 = .ok (.aload_n 0, 1) := by decide +kernel
theorem dX5_readReel_34 : decode cX5_readReel 34 = .ok (.invokevirtual 30, 3) := by decide +kernel
theorem dX5_readReel_37 : decode cX5_readReel 37 = .ok (.aload_n 0, 1) := by decide +kernel
theorem dX5_readReel_38 : decode cX5_readReel 38 = .ok (.iconst 0, 1) := by decide +kernel
theorem dX5_readReel_39 : decode cX5_readReel 39 = .ok (.bipush 9, 2) := by decide +kernel
theorem dX5_readReel_41 : decode cX5_readReel 41 = .ok (.invokevirtual 63, 3) := by decide +kernel
theorem dX5_readReel_44 : decode cX5_readReel 44 = .ok (.istore 4, 2) := by decide +kernel
theorem dX5_readReel_46 : decode cX5_readReel 46 = .ok (.iload 4, 2) := by decide +kernel
theorem dX5_readReel_48 : decode cX5_readReel 48 = .ok (.ifCond .ge 5, 3) := by decide +kernel
theorem dX5_readReel_51 : decode cX5_readReel 51 = .ok (.iconst 0, 1) := by decide +kernel
theorem dX5_readReel_52 : decode cX5_readReel 52 = .ok (.ireturn, 1) := by decide +kernel
theorem dX5_readReel_53 : decode cX5_readReel 53 = .ok (.aload_n 1, 1) := by decide +kernel
theorem dX5_readReel_54 : decode cX5_readReel 54 = .ok (.iload_n 2, 1) := by decide +kernel
theorem dX5_readReel_55 : decode cX5_readReel 55 = .ok (.iload_n 3, 1) := by decide +kernel
theorem dX5_readReel_56 : decode cX5_readReel 56 = .ok (.ifCond .eq 9, 3) := by decide +kernel
theorem dX5_readReel_59 : decode cX5_readReel 59 = .ok (.iload 4, 2) := by decide +kernel
theorem dX5_readReel_61 : decode cX5_readReel 61 = .ok (.ineg, 1) := by decide +kernel
theorem dX5_readReel_62 : decode cX5_readReel 62 = .ok (.goto 5, 3) := by decide +kernel
theorem dX5_readReel_65 : decode cX5_readReel 65 = .ok (.iload 4, 2) := by decide +kernel
theorem dX5_readReel_67 : decode cX5_readReel 67 = .ok (.invokevirtual 67, 3) := by decide +kernel
theorem dX5_readReel_70 : decode cX5_readReel 70 = .ok (.iconst 1, 1) := by decide +kernel
theorem dX5_readReel_71 : decode cX5_readReel 71 = .ok (.ireturn, 1) := by decide +kernel
theorem dX5_readSetting_0 : decode cX5_readSetting 0 = .ok (.iload_n 2, 1) := by decide +kernel
theorem dX5_readSetting_1 : decode cX5_readSetting 1 = .ok (.bipush 105, 2) := by decide +kernel
theorem dX5_readSetting_3 : decode cX5_readSetting 3 = .ok (.if_icmp .ne 7, 3) := by decide +kernel
theorem dX5_readSetting_6 : decode cX5_readSetting 6 = .ok (.iconst 0, 1) := by decide +kernel
theorem dX5_readSetting_7 : decode cX5_readSetting 7 = .ok (.goto 4, 3) := by decide +kernel
theorem dX5_readSetting_10 : decode cX5_readSetting 10 = .ok (.iconst 1, 1) := by decide +kernel
theorem dX5_readSetting_11 : decode cX5_readSetting 11 = .ok (.istore_n 3, 1) := by decide +kernel
theorem dX5_readSetting_12 : decode cX5_readSetting 12 = .ok (.aload_n 0, 1) := by decide +kernel
theorem dX5_readSetting_13 : decode cX5_readSetting 13 = .ok (.iload_n 3, 1) := by decide +kernel
theorem dX5_readSetting_14 : decode cX5_readSetting 14 = .ok (.iload_n 2, 1) := by decide +kernel
theorem dX5_readSetting_15 : decode cX5_readSetting 15 = .ok (.invokestatic 71, 3) := by decide +kernel
theorem dX5_readSetting_18 : decode cX5_readSetting 18 = .ok (.invokevirtual 63, 3) := by decide +kernel
theorem dX5_readSetting_21 : decode cX5_readSetting 21 = .ok (.istore 4, 2) := by decide +kernel
theorem dX5_readSetting_23 : decode cX5_readSetting 23 = .ok (.iload 4, 2) := by decide +kernel
theorem dX5_readSetting_25 : decode cX5_readSetting 25 = .ok (.ifCond .ge 5, 3) := by decide +kernel
theorem dX5_readSetting_28 : decode cX5_readSetting 28 = .ok (.iconst 0, 1) := by decide +kernel
theorem dX5_readSetting_29 : decode cX5_readSetting 29 = .ok (.ireturn, 1) := by decide +kernel
theorem dX5_readSetting_30 : decode cX5_readSetting 30 = .ok (.iload_n 2, 1) := by decide +kernel
theorem dX5_readSetting_31 : decode cX5_readSetting 31 = .ok (.lookupswitch 77 #[(101, 50), (105, 68), (108, 59), (117, 41)], 41) := by decide +kernel
theorem dX5_readSetting_72 : decode cX5_readSetting 72 = .ok (.aload_n 1, 1) := by decide +kernel
theorem dX5_readSetting_73 : decode cX5_readSetting 73 = .ok (.iload 4, 2) := by decide +kernel
theorem dX5_readSetting_75 : decode cX5_readSetting 75 = .ok (.invokevirtual 74, 3) := by decide +kernel
theorem dX5_readSetting_78 : decode cX5_readSetting 78 = .ok (.goto 36, 3) := by decide +kernel
theorem dX5_readSetting_81 : decode cX5_readSetting 81 = .ok (.aload_n 1, 1) := by decide +kernel
theorem dX5_readSetting_82 : decode cX5_readSetting 82 = .ok (.iload 4, 2) := by decide +kernel
theorem dX5_readSetting_84 : decode cX5_readSetting 84 = .ok (.putfield 78, 3) := by decide +kernel
theorem dX5_readSetting_87 : decode cX5_readSetting 87 = .ok (.goto 27, 3) := by decide +kernel
theorem dX5_readSetting_90 : decode cX5_readSetting 90 = .ok (.aload_n 1, 1) := by decide +kernel
theorem dX5_readSetting_91 : decode cX5_readSetting 91 = .ok (.iload 4, 2) := by decide +kernel
theorem dX5_readSetting_93 : decode cX5_readSetting 93 = .ok (.putfield 81, 3) := by decide +kernel
theorem dX5_readSetting_96 : decode cX5_readSetting 96 = .ok (.goto 18, 3) := by decide +kernel
theorem dX5_readSetting_99 : decode cX5_readSetting 99 = .ok (.aload_n 1, 1) := by decide +kernel
theorem dX5_readSetting_100 : decode cX5_readSetting 100 = .ok (.iload 4, 2) := by decide +kernel
theorem dX5_readSetting_102 : decode cX5_readSetting 102 = .ok (.putfield 84, 3) := by decide +kernel
theorem dX5_readSetting_105 : decode cX5_readSetting 105 = .ok (.goto 9, 3) := by decide +kernel
theorem dX5_readSetting_108 : decode cX5_readSetting 108 = .ok (.aload_n 1, 1) := by decide +kernel
theorem dX5_readSetting_109 : decode cX5_readSetting 109 = .ok (.iload 4, 2) := by decide +kernel
theorem dX5_readSetting_111 : decode cX5_readSetting 111 = .ok (.putfield 87, 3) := by decide +kernel
theorem dX5_readSetting_114 : decode cX5_readSetting 114 = .ok (.iconst 1, 1) := by decide +kernel
theorem dX5_readSetting_115 : decode cX5_readSetting 115 = .ok (.ireturn, 1) := by decide +kernel
theorem dX5_highest_0 : decode cX5_highest 0 = .ok (.iload_n 0, 1) := by decide +kernel
theorem dX5_highest_1 : decode cX5_highest 1 = .ok (.lookupswitch 44 #[(101, 38), (105, 41), (117, 35)], 35) := by decide +kernel
theorem dX5_highest_36 : decode cX5_highest 36 = .ok (.bipush 6, 2) := by decide +kernel
theorem dX5_highest_38 : decode cX5_highest 38 = .ok (.ireturn, 1) := by decide +kernel
theorem dX5_highest_39 : decode cX5_highest 39 = .ok (.bipush 9, 2) := by decide +kernel
theorem dX5_highest_41 : decode cX5_highest 41 = .ok (.ireturn, 1) := by decide +kernel
theorem dX5_highest_42 : decode cX5_highest 42 = .ok (.bipush 9, 2) := by decide +kernel
theorem dX5_highest_44 : decode cX5_highest 44 = .ok (.ireturn, 1) := by decide +kernel
theorem dX5_highest_45 : decode cX5_highest 45 = .ok (.bipush 20, 2) := by decide +kernel
theorem dX5_highest_47 : decode cX5_highest 47 = .ok (.ireturn, 1) := by decide +kernel
theorem dX5_takeNumber_0 : decode cX5_takeNumber 0 = .ok (.aload_n 0, 1) := by decide +kernel
theorem dX5_takeNumber_1 : decode cX5_takeNumber 1 = .ok (.getfield 33, 3) := by decide +kernel
theorem dX5_takeNumber_4 : decode cX5_takeNumber 4 = .ok (.sipush 256, 3) := by decide +kernel
theorem dX5_takeNumber_7 : decode cX5_takeNumber 7 = .ok (.if_icmp .ne 15, 3) := by decide +kernel
theorem dX5_takeNumber_10 : decode cX5_takeNumber 10 = .ok (.aload_n 0, 1) := by decide +kernel
theorem dX5_takeNumber_11 : decode cX5_takeNumber 11 = .ok (.getfield 90, 3) := by decide +kernel
theorem dX5_takeNumber_14 : decode cX5_takeNumber 14 = .ok (.iload_n 1, 1) := by decide +kernel
theorem dX5_takeNumber_15 : decode cX5_takeNumber 15 = .ok (.iload_n 2, 1) := by decide +kernel
theorem dX5_takeNumber_16 : decode cX5_takeNumber 16 = .ok (.invokestatic 93, 3) := by decide +kernel
theorem dX5_takeNumber_19 : decode cX5_takeNumber 19 = .ok (.ifCond .ne 5, 3) := by decide +kernel
theorem dX5_takeNumber_22 : decode cX5_takeNumber 22 = .ok (.iconst (-1), 1) := by decide +kernel
theorem dX5_takeNumber_23 : decode cX5_takeNumber 23 = .ok (.ireturn, 1) := by decide +kernel
theorem dX5_takeNumber_24 : decode cX5_takeNumber 24 = .ok (.aload_n 0, 1) := by decide +kernel
theorem dX5_takeNumber_25 : decode cX5_takeNumber 25 = .ok (.getfield 90, 3) := by decide +kernel
theorem dX5_takeNumber_28 : decode cX5_takeNumber 28 = .ok (.istore_n 3, 1) := by decide +kernel
theorem dX5_takeNumber_29 : decode cX5_takeNumber 29 = .ok (.aload_n 0, 1) := by decide +kernel
theorem dX5_takeNumber_30 : decode cX5_takeNumber 30 = .ok (.invokevirtual 30, 3) := by decide +kernel
theorem dX5_takeNumber_33 : decode cX5_takeNumber 33 = .ok (.iload_n 3, 1) := by decide +kernel
theorem dX5_takeNumber_34 : decode cX5_takeNumber 34 = .ok (.ireturn, 1) := by decide +kernel
theorem dX5_stepOn_0 : decode cX5_stepOn 0 = .ok (.aload_n 0, 1) := by decide +kernel
theorem dX5_stepOn_1 : decode cX5_stepOn 1 = .ok (.getfield 24, 3) := by decide +kernel
theorem dX5_stepOn_4 : decode cX5_stepOn 4 = .ok (.aload_n 0, 1) := by decide +kernel
theorem dX5_stepOn_5 : decode cX5_stepOn 5 = .ok (.getfield 15, 3) := by decide +kernel
theorem dX5_stepOn_8 : decode cX5_stepOn 8 = .ok (.if_icmp .ge 30, 3) := by decide +kernel
theorem dX5_stepOn_11 : decode cX5_stepOn 11 = .ok (.aload_n 0, 1) := by decide +kernel
theorem dX5_stepOn_12 : decode cX5_stepOn 12 = .ok (.getfield 9, 3) := by decide +kernel
theorem dX5_stepOn_15 : decode cX5_stepOn 15 = .ok (.aload_n 0, 1) := by decide +kernel
theorem dX5_stepOn_16 : decode cX5_stepOn 16 = .ok (.getfield 24, 3) := by decide +kernel
theorem dX5_stepOn_19 : decode cX5_stepOn 19 = .ok (.iaload, 1) := by decide +kernel
theorem dX5_stepOn_20 : decode cX5_stepOn 20 = .ok (.bipush 32, 2) := by decide +kernel
theorem dX5_stepOn_22 : decode cX5_stepOn 22 = .ok (.if_icmp .ne 16, 3) := by decide +kernel
theorem dX5_stepOn_25 : decode cX5_stepOn 25 = .ok (.aload_n 0, 1) := by decide +kernel
theorem dX5_stepOn_26 : decode cX5_stepOn 26 = .ok (.dup, 1) := by decide +kernel
theorem dX5_stepOn_27 : decode cX5_stepOn 27 = .ok (.getfield 24, 3) := by decide +kernel
theorem dX5_stepOn_30 : decode cX5_stepOn 30 = .ok (.iconst 1, 1) := by decide +kernel
theorem dX5_stepOn_31 : decode cX5_stepOn 31 = .ok (.iadd, 1) := by decide +kernel
theorem dX5_stepOn_32 : decode cX5_stepOn 32 = .ok (.putfield 24, 3) := by decide +kernel
theorem dX5_stepOn_35 : decode cX5_stepOn 35 = .ok (.goto (-35), 3) := by decide +kernel
theorem dX5_stepOn_38 : decode cX5_stepOn 38 = .ok (.aload_n 0, 1) := by decide +kernel
theorem dX5_stepOn_39 : decode cX5_stepOn 39 = .ok (.aload_n 0, 1) := by decide +kernel
theorem dX5_stepOn_40 : decode cX5_stepOn 40 = .ok (.getfield 24, 3) := by decide +kernel
theorem dX5_stepOn_43 : decode cX5_stepOn 43 = .ok (.putfield 40, 3) := by decide +kernel
theorem dX5_stepOn_46 : decode cX5_stepOn 46 = .ok (.aload_n 0, 1) := by decide +kernel
theorem dX5_stepOn_47 : decode cX5_stepOn 47 = .ok (.getfield 24, 3) := by decide +kernel
theorem dX5_stepOn_50 : decode cX5_stepOn 50 = .ok (.aload_n 0, 1) := by decide +kernel
theorem dX5_stepOn_51 : decode cX5_stepOn 51 = .ok (.getfield 15, 3) := by decide +kernel
theorem dX5_stepOn_54 : decode cX5_stepOn 54 = .ok (.if_icmp .lt 13, 3) := by decide +kernel
theorem dX5_stepOn_57 : decode cX5_stepOn 57 = .ok (.aload_n 0, 1) := by decide +kernel
theorem dX5_stepOn_58 : decode cX5_stepOn 58 = .ok (.sipush 257, 3) := by decide +kernel
theorem dX5_stepOn_61 : decode cX5_stepOn 61 = .ok (.putfield 33, 3) := by decide +kernel
theorem dX5_stepOn_64 : decode cX5_stepOn 64 = .ok (.goto 48, 3) := by decide +kernel
theorem dX5_stepOn_67 : decode cX5_stepOn 67 = .ok (.aload_n 0, 1) := by decide +kernel
theorem dX5_stepOn_68 : decode cX5_stepOn 68 = .ok (.getfield 9, 3) := by decide +kernel
theorem dX5_stepOn_71 : decode cX5_stepOn 71 = .ok (.aload_n 0, 1) := by decide +kernel
theorem dX5_stepOn_72 : decode cX5_stepOn 72 = .ok (.getfield 24, 3) := by decide +kernel
theorem dX5_stepOn_75 : decode cX5_stepOn 75 = .ok (.iaload, 1) := by decide +kernel
theorem dX5_stepOn_76 : decode cX5_stepOn 76 = .ok (.invokestatic 97, 3) := by decide +kernel
theorem dX5_stepOn_79 : decode cX5_stepOn 79 = .ok (.ifCond .eq 10, 3) := by decide +kernel
theorem dX5_stepOn_82 : decode cX5_stepOn 82 = .ok (.aload_n 0, 1) := by decide +kernel
theorem dX5_stepOn_83 : decode cX5_stepOn 83 = .ok (.invokevirtual 101, 3) := by decide +kernel
theorem dX5_stepOn_86 : decode cX5_stepOn 86 = .ok (.goto 26, 3) := by decide +kernel
theorem dX5_stepOn_89 : decode cX5_stepOn 89 = .ok (.aload_n 0, 1) := by decide +kernel
theorem dX5_stepOn_90 : decode cX5_stepOn 90 = .ok (.aload_n 0, 1) := by decide +kernel
theorem dX5_stepOn_91 : decode cX5_stepOn 91 = .ok (.getfield 9, 3) := by decide +kernel
theorem dX5_stepOn_94 : decode cX5_stepOn 94 = .ok (.aload_n 0, 1) := by decide +kernel
theorem dX5_stepOn_95 : decode cX5_stepOn 95 = .ok (.getfield 24, 3) := by decide +kernel
theorem dX5_stepOn_98 : decode cX5_stepOn 98 = .ok (.iaload, 1) := by decide +kernel
theorem dX5_stepOn_99 : decode cX5_stepOn 99 = .ok (.putfield 33, 3) := by decide +kernel
theorem dX5_stepOn_102 : decode cX5_stepOn 102 = .ok (.aload_n 0, 1) := by decide +kernel
theorem dX5_stepOn_103 : decode cX5_stepOn 103 = .ok (.dup, 1) := by decide +kernel
theorem dX5_stepOn_104 : decode cX5_stepOn 104 = .ok (.getfield 24, 3) := by decide +kernel
theorem dX5_stepOn_107 : decode cX5_stepOn 107 = .ok (.iconst 1, 1) := by decide +kernel
theorem dX5_stepOn_108 : decode cX5_stepOn 108 = .ok (.iadd, 1) := by decide +kernel
theorem dX5_stepOn_109 : decode cX5_stepOn 109 = .ok (.putfield 24, 3) := by decide +kernel
theorem dX5_stepOn_112 : decode cX5_stepOn 112 = .ok (.return_, 1) := by decide +kernel
theorem dX5_stepOverNumber_0 : decode cX5_stepOverNumber 0 = .ok (.aload_n 0, 1) := by decide +kernel
theorem dX5_stepOverNumber_1 : decode cX5_stepOverNumber 1 = .ok (.getfield 9, 3) := by decide +kernel
theorem dX5_stepOverNumber_4 : decode cX5_stepOverNumber 4 = .ok (.aload_n 0, 1) := by decide +kernel
theorem dX5_stepOverNumber_5 : decode cX5_stepOverNumber 5 = .ok (.getfield 24, 3) := by decide +kernel
theorem dX5_stepOverNumber_8 : decode cX5_stepOverNumber 8 = .ok (.iaload, 1) := by decide +kernel
theorem dX5_stepOverNumber_9 : decode cX5_stepOverNumber 9 = .ok (.bipush 48, 2) := by decide +kernel
theorem dX5_stepOverNumber_11 : decode cX5_stepOverNumber 11 = .ok (.if_icmp .ne 7, 3) := by decide +kernel
theorem dX5_stepOverNumber_14 : decode cX5_stepOverNumber 14 = .ok (.iconst 1, 1) := by decide +kernel
theorem dX5_stepOverNumber_15 : decode cX5_stepOverNumber 15 = .ok (.goto 4, 3) := by decide +kernel
theorem dX5_stepOverNumber_18 : decode cX5_stepOverNumber 18 = .ok (.iconst 0, 1) := by decide +kernel
theorem dX5_stepOverNumber_19 : decode cX5_stepOverNumber 19 = .ok (.istore_n 1, 1) := by decide +kernel
theorem dX5_stepOverNumber_20 : decode cX5_stepOverNumber 20 = .ok (.aload_n 0, 1) := by decide +kernel
theorem dX5_stepOverNumber_21 : decode cX5_stepOverNumber 21 = .ok (.iconst 0, 1) := by decide +kernel
theorem dX5_stepOverNumber_22 : decode cX5_stepOverNumber 22 = .ok (.putfield 90, 3) := by decide +kernel
theorem dX5_stepOverNumber_25 : decode cX5_stepOverNumber 25 = .ok (.aload_n 0, 1) := by decide +kernel
theorem dX5_stepOverNumber_26 : decode cX5_stepOverNumber 26 = .ok (.getfield 24, 3) := by decide +kernel
theorem dX5_stepOverNumber_29 : decode cX5_stepOverNumber 29 = .ok (.aload_n 0, 1) := by decide +kernel
theorem dX5_stepOverNumber_30 : decode cX5_stepOverNumber 30 = .ok (.getfield 15, 3) := by decide +kernel
theorem dX5_stepOverNumber_33 : decode cX5_stepOverNumber 33 = .ok (.if_icmp .ge 60, 3) := by decide +kernel
theorem dX5_stepOverNumber_36 : decode cX5_stepOverNumber 36 = .ok (.aload_n 0, 1) := by decide +kernel
theorem dX5_stepOverNumber_37 : decode cX5_stepOverNumber 37 = .ok (.getfield 9, 3) := by decide +kernel
theorem dX5_stepOverNumber_40 : decode cX5_stepOverNumber 40 = .ok (.aload_n 0, 1) := by decide +kernel
theorem dX5_stepOverNumber_41 : decode cX5_stepOverNumber 41 = .ok (.getfield 24, 3) := by decide +kernel
theorem dX5_stepOverNumber_44 : decode cX5_stepOverNumber 44 = .ok (.iaload, 1) := by decide +kernel
theorem dX5_stepOverNumber_45 : decode cX5_stepOverNumber 45 = .ok (.invokestatic 97, 3) := by decide +kernel
theorem dX5_stepOverNumber_48 : decode cX5_stepOverNumber 48 = .ok (.ifCond .eq 45, 3) := by decide +kernel
theorem dX5_stepOverNumber_51 : decode cX5_stepOverNumber 51 = .ok (.aload_n 0, 1) := by decide +kernel
theorem dX5_stepOverNumber_52 : decode cX5_stepOverNumber 52 = .ok (.aload_n 0, 1) := by decide +kernel
theorem dX5_stepOverNumber_53 : decode cX5_stepOverNumber 53 = .ok (.getfield 90, 3) := by decide +kernel
theorem dX5_stepOverNumber_56 : decode cX5_stepOverNumber 56 = .ok (.bipush 10, 2) := by decide +kernel
theorem dX5_stepOverNumber_58 : decode cX5_stepOverNumber 58 = .ok (.imul, 1) := by decide +kernel
theorem dX5_stepOverNumber_59 : decode cX5_stepOverNumber 59 = .ok (.aload_n 0, 1) := by decide +kernel
theorem dX5_stepOverNumber_60 : decode cX5_stepOverNumber 60 = .ok (.getfield 9, 3) := by decide +kernel
theorem dX5_stepOverNumber_63 : decode cX5_stepOverNumber 63 = .ok (.aload_n 0, 1) := by decide +kernel
theorem dX5_stepOverNumber_64 : decode cX5_stepOverNumber 64 = .ok (.getfield 24, 3) := by decide +kernel
theorem dX5_stepOverNumber_67 : decode cX5_stepOverNumber 67 = .ok (.iaload, 1) := by decide +kernel
theorem dX5_stepOverNumber_68 : decode cX5_stepOverNumber 68 = .ok (.iadd, 1) := by decide +kernel
theorem dX5_stepOverNumber_69 : decode cX5_stepOverNumber 69 = .ok (.bipush 48, 2) := by decide +kernel
theorem dX5_stepOverNumber_71 : decode cX5_stepOverNumber 71 = .ok (.isub, 1) := by decide +kernel
theorem dX5_stepOverNumber_72 : decode cX5_stepOverNumber 72 = .ok (.bipush 100, 2) := by decide +kernel
theorem dX5_stepOverNumber_74 : decode cX5_stepOverNumber 74 = .ok (.invokestatic 104, 3) := by decide +kernel
theorem dX5_stepOverNumber_77 : decode cX5_stepOverNumber 77 = .ok (.putfield 90, 3) := by decide +kernel
theorem dX5_stepOverNumber_80 : decode cX5_stepOverNumber 80 = .ok (.aload_n 0, 1) := by decide +kernel
theorem dX5_stepOverNumber_81 : decode cX5_stepOverNumber 81 = .ok (.dup, 1) := by decide +kernel
theorem dX5_stepOverNumber_82 : decode cX5_stepOverNumber 82 = .ok (.getfield 24, 3) := by decide +kernel
theorem dX5_stepOverNumber_85 : decode cX5_stepOverNumber 85 = .ok (.iconst 1, 1) := by decide +kernel
theorem dX5_stepOverNumber_86 : decode cX5_stepOverNumber 86 = .ok (.iadd, 1) := by decide +kernel
theorem dX5_stepOverNumber_87 : decode cX5_stepOverNumber 87 = .ok (.putfield 24, 3) := by decide +kernel
theorem dX5_stepOverNumber_90 : decode cX5_stepOverNumber 90 = .ok (.goto (-65), 3) := by decide +kernel
theorem dX5_stepOverNumber_93 : decode cX5_stepOverNumber 93 = .ok (.iload_n 1, 1) := by decide +kernel
theorem dX5_stepOverNumber_94 : decode cX5_stepOverNumber 94 = .ok (.ifCond .eq 20, 3) := by decide +kernel
theorem dX5_stepOverNumber_97 : decode cX5_stepOverNumber 97 = .ok (.aload_n 0, 1) := by decide +kernel
theorem dX5_stepOverNumber_98 : decode cX5_stepOverNumber 98 = .ok (.getfield 24, 3) := by decide +kernel
theorem dX5_stepOverNumber_101 : decode cX5_stepOverNumber 101 = .ok (.aload_n 0, 1) := by decide +kernel
theorem dX5_stepOverNumber_102 : decode cX5_stepOverNumber 102 = .ok (.getfield 40, 3) := by decide +kernel
theorem dX5_stepOverNumber_105 : decode cX5_stepOverNumber 105 = .ok (.isub, 1) := by decide +kernel
theorem dX5_stepOverNumber_106 : decode cX5_stepOverNumber 106 = .ok (.iconst 1, 1) := by decide +kernel
theorem dX5_stepOverNumber_107 : decode cX5_stepOverNumber 107 = .ok (.if_icmp .le 7, 3) := by decide +kernel
theorem dX5_stepOverNumber_110 : decode cX5_stepOverNumber 110 = .ok (.iconst 1, 1) := by decide +kernel
theorem dX5_stepOverNumber_111 : decode cX5_stepOverNumber 111 = .ok (.goto 4, 3) := by decide +kernel
theorem dX5_stepOverNumber_114 : decode cX5_stepOverNumber 114 = .ok (.iconst 0, 1) := by decide +kernel
theorem dX5_stepOverNumber_115 : decode cX5_stepOverNumber 115 = .ok (.istore_n 2, 1) := by decide +kernel
theorem dX5_stepOverNumber_116 : decode cX5_stepOverNumber 116 = .ok (.aload_n 0, 1) := by decide +kernel
theorem dX5_stepOverNumber_117 : decode cX5_stepOverNumber 117 = .ok (.aload_n 0, 1) := by decide +kernel
theorem dX5_stepOverNumber_118 : decode cX5_stepOverNumber 118 = .ok (.getfield 90, 3) := by decide +kernel
theorem dX5_stepOverNumber_121 : decode cX5_stepOverNumber 121 = .ok (.bipush 99, 2) := by decide +kernel
theorem dX5_stepOverNumber_123 : decode cX5_stepOverNumber 123 = .ok (.if_icmp .gt 7, 3) := by decide +kernel
theorem dX5_stepOverNumber_126 : decode cX5_stepOverNumber 126 = .ok (.iload_n 2, 1) := by decide +kernel
theorem dX5_stepOverNumber_127 : decode cX5_stepOverNumber 127 = .ok (.ifCond .eq 9, 3) := by decide +kernel
theorem dX5_stepOverNumber_130 : decode cX5_stepOverNumber 130 = .ok (.sipush 258, 3) := by decide +kernel
theorem dX5_stepOverNumber_133 : decode cX5_stepOverNumber 133 = .ok (.goto 6, 3) := by decide +kernel
theorem dX5_stepOverNumber_136 : decode cX5_stepOverNumber 136 = .ok (.sipush 256, 3) := by decide +kernel
theorem dX5_stepOverNumber_139 : decode cX5_stepOverNumber 139 = .ok (.putfield 33, 3) := by decide +kernel
theorem dX5_stepOverNumber_142 : decode cX5_stepOverNumber 142 = .ok (.return_, 1) := by decide +kernel
theorem dX5_isFigure_0 : decode cX5_isFigure 0 = .ok (.iload_n 0, 1) := by decide +kernel
theorem dX5_isFigure_1 : decode cX5_isFigure 1 = .ok (.bipush 48, 2) := by decide +kernel
theorem dX5_isFigure_3 : decode cX5_isFigure 3 = .ok (.if_icmp .lt 13, 3) := by decide +kernel
theorem dX5_isFigure_6 : decode cX5_isFigure 6 = .ok (.iload_n 0, 1) := by decide +kernel
theorem dX5_isFigure_7 : decode cX5_isFigure 7 = .ok (.bipush 57, 2) := by decide +kernel
theorem dX5_isFigure_9 : decode cX5_isFigure 9 = .ok (.if_icmp .gt 7, 3) := by decide +kernel
theorem dX5_isFigure_12 : decode cX5_isFigure 12 = .ok (.iconst 1, 1) := by decide +kernel
theorem dX5_isFigure_13 : decode cX5_isFigure 13 = .ok (.goto 4, 3) := by decide +kernel
theorem dX5_isFigure_16 : decode cX5_isFigure 16 = .ok (.iconst 0, 1) := by decide +kernel
theorem dX5_isFigure_17 : decode cX5_isFigure 17 = .ok (.ireturn, 1) := by decide +kernel
