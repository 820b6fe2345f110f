theorem dX7_isSeen_68 : decode cX7_isSeen 68 = .ok (.getfield 7, 3) := by decide +kernel
theorem dX7_isSeen_71 : decode cX7_isSeen 71 = .ok (.bipush 55, 2) := by decide +kernel
theorem dX7_isSeen_73 : decode cX7_isSeen 73 = .ok (.aload_n 0, 1) := by decide +kernel
theorem dX7_isSeen_74 : decode cX7_isSeen 74 = .ok (.getfield 7, 3) := by decide +kernel
theorem dX7_isSeen_77 : decode cX7_isSeen 77 = .ok (.iload_n 2, 1) := by decide +kernel
theorem dX7_isSeen_78 : decode cX7_isSeen 78 = .ok (.iconst 3, 1) := by decide +kernel
theorem dX7_isSeen_79 : decode cX7_isSeen 79 = .ok (.iadd, 1) := by decide +kernel
theorem dX7_isSeen_80 : decode cX7_isSeen 80 = .ok (.iaload, 1) := by decide +kernel
theorem dX7_isSeen_81 : decode cX7_isSeen 81 = .ok (.iastore, 1) := by decide +kernel
theorem dX7_isSeen_82 : decode cX7_isSeen 82 = .ok (.iconst 0, 1) := by decide +kernel
theorem dX7_isSeen_83 : decode cX7_isSeen 83 = .ok (.istore_n 3, 1) := by decide +kernel
theorem dX7_isSeen_84 : decode cX7_isSeen 84 = .ok (.iload_n 3, 1) := by decide +kernel
theorem dX7_isSeen_85 : decode cX7_isSeen 85 = .ok (.iconst 4, 1) := by decide +kernel
theorem dX7_isSeen_86 : decode cX7_isSeen 86 = .ok (.if_icmp .ge 28, 3) := by decide +kernel
theorem dX7_isSeen_89 : decode cX7_isSeen 89 = .ok (.aload_n 0, 1) := by decide +kernel
theorem dX7_isSeen_90 : decode cX7_isSeen 90 = .ok (.getfield 7, 3) := by decide +kernel
theorem dX7_isSeen_93 : decode cX7_isSeen 93 = .ok (.bipush 57, 2) := by decide +kernel
theorem dX7_isSeen_95 : decode cX7_isSeen 95 = .ok (.iload_n 3, 1) := by decide +kernel
theorem dX7_isSeen_96 : decode cX7_isSeen 96 = .ok (.iadd, 1) := by decide +kernel
theorem dX7_isSeen_97 : decode cX7_isSeen 97 = .ok (.aload_n 0, 1) := by decide +kernel
theorem dX7_isSeen_98 : decode cX7_isSeen 98 = .ok (.getfield 7, 3) := by decide +kernel
theorem dX7_isSeen_101 : decode cX7_isSeen 101 = .ok (.iload_n 2, 1) := by decide +kernel
theorem dX7_isSeen_102 : decode cX7_isSeen 102 = .ok (.iconst 5, 1) := by decide +kernel
theorem dX7_isSeen_103 : decode cX7_isSeen 103 = .ok (.iadd, 1) := by decide +kernel
theorem dX7_isSeen_104 : decode cX7_isSeen 104 = .ok (.iload_n 3, 1) := by decide +kernel
theorem dX7_isSeen_105 : decode cX7_isSeen 105 = .ok (.iadd, 1) := by decide +kernel
theorem dX7_isSeen_106 : decode cX7_isSeen 106 = .ok (.iaload, 1) := by decide +kernel
theorem dX7_isSeen_107 : decode cX7_isSeen 107 = .ok (.iastore, 1) := by decide +kernel
theorem dX7_isSeen_108 : decode cX7_isSeen 108 = .ok (.iinc 3 1, 3) := by decide +kernel
theorem dX7_isSeen_111 : decode cX7_isSeen 111 = .ok (.goto (-27), 3) := by decide +kernel
theorem dX7_isSeen_114 : decode cX7_isSeen 114 = .ok (.aload_n 0, 1) := by decide +kernel
theorem dX7_isSeen_115 : decode cX7_isSeen 115 = .ok (.getfield 7, 3) := by decide +kernel
theorem dX7_isSeen_118 : decode cX7_isSeen 118 = .ok (.bipush 55, 2) := by decide +kernel
theorem dX7_isSeen_120 : decode cX7_isSeen 120 = .ok (.iaload, 1) := by decide +kernel
theorem dX7_isSeen_121 : decode cX7_isSeen 121 = .ok (.ifCond .ne 20, 3) := by decide +kernel
theorem dX7_isSeen_124 : decode cX7_isSeen 124 = .ok (.aload_n 0, 1) := by decide +kernel
theorem dX7_isSeen_125 : decode cX7_isSeen 125 = .ok (.invokevirtual 151, 3) := by decide +kernel
theorem dX7_isSeen_128 : decode cX7_isSeen 128 = .ok (.aload_n 0, 1) := by decide +kernel
theorem dX7_isSeen_129 : decode cX7_isSeen 129 = .ok (.getfield 44, 3) := by decide +kernel
theorem dX7_isSeen_132 : decode cX7_isSeen 132 = .ok (.iconst 1, 1) := by decide +kernel
theorem dX7_isSeen_133 : decode cX7_isSeen 133 = .ok (.iaload, 1) := by decide +kernel
theorem dX7_isSeen_134 : decode cX7_isSeen 134 = .ok (.if_icmp .gt 7, 3) := by decide +kernel
theorem dX7_isSeen_137 : decode cX7_isSeen 137 = .ok (.iconst 1, 1) := by decide +kernel
theorem dX7_isSeen_138 : decode cX7_isSeen 138 = .ok (.goto 4, 3) := by decide +kernel
theorem dX7_isSeen_141 : decode cX7_isSeen 141 = .ok (.iconst 0, 1) := by decide +kernel
theorem dX7_isSeen_142 : decode cX7_isSeen 142 = .ok (.istore_n 3, 1) := by decide +kernel
theorem dX7_isSeen_143 : decode cX7_isSeen 143 = .ok (.aload_n 0, 1) := by decide +kernel
theorem dX7_isSeen_144 : decode cX7_isSeen 144 = .ok (.getfield 7, 3) := by decide +kernel
theorem dX7_isSeen_147 : decode cX7_isSeen 147 = .ok (.bipush 56, 2) := by decide +kernel
theorem dX7_isSeen_149 : decode cX7_isSeen 149 = .ok (.iload_n 3, 1) := by decide +kernel
theorem dX7_isSeen_150 : decode cX7_isSeen 150 = .ok (.ifCond .eq 7, 3) := by decide +kernel
theorem dX7_isSeen_153 : decode cX7_isSeen 153 = .ok (.iconst 1, 1) := by decide +kernel
theorem dX7_isSeen_154 : decode cX7_isSeen 154 = .ok (.goto 4, 3) := by decide +kernel
theorem dX7_isSeen_157 : decode cX7_isSeen 157 = .ok (.iconst 0, 1) := by decide +kernel
theorem dX7_isSeen_158 : decode cX7_isSeen 158 = .ok (.iastore, 1) := by decide +kernel
theorem dX7_isSeen_159 : decode cX7_isSeen 159 = .ok (.aload_n 0, 1) := by decide +kernel
theorem dX7_isSeen_160 : decode cX7_isSeen 160 = .ok (.getfield 7, 3) := by decide +kernel
theorem dX7_isSeen_163 : decode cX7_isSeen 163 = .ok (.bipush 7, 2) := by decide +kernel
theorem dX7_isSeen_165 : decode cX7_isSeen 165 = .ok (.dup2, 1) := by decide +kernel
theorem dX7_isSeen_166 : decode cX7_isSeen 166 = .ok (.iaload, 1) := by decide +kernel
theorem dX7_isSeen_167 : decode cX7_isSeen 167 = .ok (.iload_n 3, 1) := by decide +kernel
theorem dX7_isSeen_168 : decode cX7_isSeen 168 = .ok (.ifCond .eq 7, 3) := by decide +kernel
theorem dX7_isSeen_171 : decode cX7_isSeen 171 = .ok (.iconst 1, 1) := by decide +kernel
theorem dX7_isSeen_172 : decode cX7_isSeen 172 = .ok (.goto 4, 3) := by decide +kernel
theorem dX7_isSeen_175 : decode cX7_isSeen 175 = .ok (.iconst 0, 1) := by decide +kernel
theorem dX7_isSeen_176 : decode cX7_isSeen 176 = .ok (.iadd, 1) := by decide +kernel
theorem dX7_isSeen_177 : decode cX7_isSeen 177 = .ok (.iastore, 1) := by decide +kernel
theorem dX7_isSeen_178 : decode cX7_isSeen 178 = .ok (.aload_n 0, 1) := by decide +kernel
theorem dX7_isSeen_179 : decode cX7_isSeen 179 = .ok (.getfield 7, 3) := by decide +kernel
theorem dX7_isSeen_182 : decode cX7_isSeen 182 = .ok (.bipush 8, 2) := by decide +kernel
theorem dX7_isSeen_184 : decode cX7_isSeen 184 = .ok (.dup2, 1) := by decide +kernel
theorem dX7_isSeen_185 : decode cX7_isSeen 185 = .ok (.iaload, 1) := by decide +kernel
theorem dX7_isSeen_186 : decode cX7_isSeen 186 = .ok (.iload_n 3, 1) := by decide +kernel
theorem dX7_isSeen_187 : decode cX7_isSeen 187 = .ok (.ifCond .eq 7, 3) := by decide +kernel
theorem dX7_isSeen_190 : decode cX7_isSeen 190 = .ok (.iconst 0, 1) := by decide +kernel
theorem dX7_isSeen_191 : decode cX7_isSeen 191 = .ok (.goto 4, 3) := by decide +kernel
theorem dX7_isSeen_194 : decode cX7_isSeen 194 = .ok (.iconst 1, 1) := by decide +kernel
theorem dX7_isSeen_195 : decode cX7_isSeen 195 = .ok (.iadd, 1) := by decide +kernel
theorem dX7_isSeen_196 : decode cX7_isSeen 196 = .ok (.iastore, 1) := by decide +kernel
theorem dX7_isSeen_197 : decode cX7_isSeen 197 = .ok (.iconst 1, 1) := by decide +kernel
theorem dX7_isSeen_198 : decode cX7_isSeen 198 = .ok (.ireturn, 1) := by decide +kernel
theorem dX7_corrections_0 : decode cX7_corrections 0 = .ok (.iconst 1, 1) := by decide +kernel
theorem dX7_corrections_1 : decode cX7_corrections 1 = .ok (.istore_n 1, 1) := by decide +kernel
theorem dX7_corrections_2 : decode cX7_corrections 2 = .ok (.iload_n 1, 1) := by decide +kernel
theorem dX7_corrections_3 : decode cX7_corrections 3 = .ok (.aload_n 0, 1) := by decide +kernel
theorem dX7_corrections_4 : decode cX7_corrections 4 = .ok (.getfield 75, 3) := by decide +kernel
theorem dX7_corrections_7 : decode cX7_corrections 7 = .ok (.if_icmp .ge 76, 3) := by decide +kernel
theorem dX7_corrections_10 : decode cX7_corrections 10 = .ok (.aload_n 0, 1) := by decide +kernel
theorem dX7_corrections_11 : decode cX7_corrections 11 = .ok (.getfield 7, 3) := by decide +kernel
theorem dX7_corrections_14 : decode cX7_corrections 14 = .ok (.bipush 57, 2) := by decide +kernel
theorem dX7_corrections_16 : decode cX7_corrections 16 = .ok (.iload_n 1, 1) := by decide +kernel
theorem dX7_corrections_17 : decode cX7_corrections 17 = .ok (.iadd, 1) := by decide +kernel
theorem dX7_corrections_18 : decode cX7_corrections 18 = .ok (.iaload, 1) := by decide +kernel
theorem dX7_corrections_19 : decode cX7_corrections 19 = .ok (.istore_n 2, 1) := by decide +kernel
theorem dX7_corrections_20 : decode cX7_corrections 20 = .ok (.aload_n 0, 1) := by decide +kernel
theorem dX7_corrections_21 : decode cX7_corrections 21 = .ok (.getfield 7, 3) := by decide +kernel
theorem dX7_corrections_24 : decode cX7_corrections 24 = .ok (.bipush 18, 2) := by decide +kernel
theorem dX7_corrections_26 : decode cX7_corrections 26 = .ok (.iload_n 1, 1) := by decide +kernel
theorem dX7_corrections_27 : decode cX7_corrections 27 = .ok (.iadd, 1) := by decide +kernel
theorem dX7_corrections_28 : decode cX7_corrections 28 = .ok (.iaload, 1) := by decide +kernel
theorem dX7_corrections_29 : decode cX7_corrections 29 = .ok (.ifCond .le 19, 3) := by decide +kernel
theorem dX7_corrections_32 : decode cX7_corrections 32 = .ok (.aload_n 0, 1) := by decide +kernel
theorem dX7_corrections_33 : decode cX7_corrections 33 = .ok (.getfield 7, 3) := by decide +kernel
theorem dX7_corrections_36 : decode cX7_corrections 36 = .ok (.bipush 18, 2) := by decide +kernel
theorem dX7_corrections_38 : decode cX7_corrections 38 = .ok (.iload_n 1, 1) := by decide +kernel
theorem dX7_corrections_39 : decode cX7_corrections 39 = .ok (.iadd, 1) := by decide +kernel
theorem dX7_corrections_40 : decode cX7_corrections 40 = .ok (.dup2, 1) := by decide +kernel
theorem dX7_corrections_41 : decode cX7_corrections 41 = .ok (.iaload, 1) := by decide +kernel
theorem dX7_corrections_42 : decode cX7_corrections 42 = .ok (.iconst 1, 1) := by decide +kernel
theorem dX7_corrections_43 : decode cX7_corrections 43 = .ok (.isub, 1) := by decide +kernel
theorem dX7_corrections_44 : decode cX7_corrections 44 = .ok (.iastore, 1) := by decide +kernel
theorem dX7_corrections_45 : decode cX7_corrections 45 = .ok (.goto 32, 3) := by decide +kernel
theorem dX7_corrections_48 : decode cX7_corrections 48 = .ok (.iload_n 2, 1) := by decide +kernel
theorem dX7_corrections_49 : decode cX7_corrections 49 = .ok (.invokestatic 148, 3) := by decide +kernel
theorem dX7_corrections_52 : decode cX7_corrections 52 = .ok (.aload_n 0, 1) := by decide +kernel
theorem dX7_corrections_53 : decode cX7_corrections 53 = .ok (.getfield 44, 3) := by decide +kernel
theorem dX7_corrections_56 : decode cX7_corrections 56 = .ok (.iconst 2, 1) := by decide +kernel
theorem dX7_corrections_57 : decode cX7_corrections 57 = .ok (.iaload, 1) := by decide +kernel
theorem dX7_corrections_58 : decode cX7_corrections 58 = .ok (.if_icmp .le 19, 3) := by decide +kernel
theorem dX7_corrections_61 : decode cX7_corrections 61 = .ok (.aload_n 0, 1) := by decide +kernel
theorem dX7_corrections_62 : decode cX7_corrections 62 = .ok (.getfield 7, 3) := by decide +kernel
theorem dX7_corrections_65 : decode cX7_corrections 65 = .ok (.bipush 55, 2) := by decide +kernel
theorem dX7_corrections_67 : decode cX7_corrections 67 = .ok (.iaload, 1) := by decide +kernel
theorem dX7_corrections_68 : decode cX7_corrections 68 = .ok (.ifCond .ne 9, 3) := by decide +kernel
theorem dX7_corrections_71 : decode cX7_corrections 71 = .ok (.aload_n 0, 1) := by decide +kernel
theorem dX7_corrections_72 : decode cX7_corrections 72 = .ok (.iload_n 1, 1) := by decide +kernel
theorem dX7_corrections_73 : decode cX7_corrections 73 = .ok (.iload_n 2, 1) := by decide +kernel
theorem dX7_corrections_74 : decode cX7_corrections 74 = .ok (.invokevirtual 154, 3) := by decide +kernel
theorem dX7_corrections_77 : decode cX7_corrections 77 = .ok (.iinc 1 1, 3) := by decide +kernel
theorem dX7_corrections_80 : decode cX7_corrections 80 = .ok (.goto (-78), 3) := by decide +kernel
theorem dX7_corrections_83 : decode cX7_corrections 83 = .ok (.return_, 1) := by decide +kernel
theorem dX7_goes_0 : decode cX7_goes 0 = .ok (.aload_n 0, 1) := by decide +kernel
theorem dX7_goes_1 : decode cX7_goes 1 = .ok (.getfield 7, 3) := by decide +kernel
theorem dX7_goes_4 : decode cX7_goes 4 = .ok (.iconst 5, 1) := by decide +kernel
theorem dX7_goes_5 : decode cX7_goes 5 = .ok (.dup2, 1) := by decide +kernel
theorem dX7_goes_6 : decode cX7_goes 6 = .ok (.iaload, 1) := by decide +kernel
theorem dX7_goes_7 : decode cX7_goes 7 = .ok (.iconst 1, 1) := by decide +kernel
theorem dX7_goes_8 : decode cX7_goes 8 = .ok (.iadd, 1) := by decide +kernel
theorem dX7_goes_9 : decode cX7_goes 9 = .ok (.iastore, 1) := by decide +kernel
theorem dX7_goes_10 : decode cX7_goes 10 = .ok (.iload_n 1, 1) := by decide +kernel
theorem dX7_goes_11 : decode cX7_goes 11 = .ok (.iconst 2, 1) := by decide +kernel
theorem dX7_goes_12 : decode cX7_goes 12 = .ok (.if_icmp .ne 7, 3) := by decide +kernel
theorem dX7_goes_15 : decode cX7_goes 15 = .ok (.iconst 1, 1) := by decide +kernel
theorem dX7_goes_16 : decode cX7_goes 16 = .ok (.goto 4, 3) := by decide +kernel
theorem dX7_goes_19 : decode cX7_goes 19 = .ok (.iconst 0, 1) := by decide +kernel
theorem dX7_goes_20 : decode cX7_goes 20 = .ok (.istore_n 2, 1) := by decide +kernel
theorem dX7_goes_21 : decode cX7_goes 21 = .ok (.iload_n 1, 1) := by decide +kernel
theorem dX7_goes_22 : decode cX7_goes 22 = .ok (.ifCond .ne 61, 3) := by decide +kernel
theorem dX7_goes_25 : decode cX7_goes 25 = .ok (.aload_n 0, 1) := by decide +kernel
theorem dX7_goes_26 : decode cX7_goes 26 = .ok (.getfield 7, 3) := by decide +kernel
theorem dX7_goes_29 : decode cX7_goes 29 = .ok (.iconst 2, 1) := by decide +kernel
theorem dX7_goes_30 : decode cX7_goes 30 = .ok (.iaload, 1) := by decide +kernel
theorem dX7_goes_31 : decode cX7_goes 31 = .ok (.ifCond .ne 52, 3) := by decide +kernel
theorem dX7_goes_34 : decode cX7_goes 34 = .ok (.aload_n 0, 1) := by decide +kernel
theorem dX7_goes_35 : decode cX7_goes 35 = .ok (.invokevirtual 158, 3) := by decide +kernel
theorem dX7_goes_38 : decode cX7_goes 38 = .ok (.bipush (-9), 2) := by decide +kernel
theorem dX7_goes_40 : decode cX7_goes 40 = .ok (.if_icmp .eq 31, 3) := by decide +kernel
theorem dX7_goes_43 : decode cX7_goes 43 = .ok (.aload_n 0, 1) := by decide +kernel
theorem dX7_goes_44 : decode cX7_goes 44 = .ok (.getfield 7, 3) := by decide +kernel
theorem dX7_goes_47 : decode cX7_goes 47 = .ok (.iconst 3, 1) := by decide +kernel
theorem dX7_goes_48 : decode cX7_goes 48 = .ok (.iaload, 1) := by decide +kernel
theorem dX7_goes_49 : decode cX7_goes 49 = .ok (.ifCond .le 22, 3) := by decide +kernel
theorem dX7_goes_52 : decode cX7_goes 52 = .ok (.aload_n 0, 1) := by decide +kernel
theorem dX7_goes_53 : decode cX7_goes 53 = .ok (.getfield 7, 3) := by decide +kernel
theorem dX7_goes_56 : decode cX7_goes 56 = .ok (.iconst 3, 1) := by decide +kernel
theorem dX7_goes_57 : decode cX7_goes 57 = .ok (.iaload, 1) := by decide +kernel
theorem dX7_goes_58 : decode cX7_goes 58 = .ok (.aload_n 0, 1) := by decide +kernel
theorem dX7_goes_59 : decode cX7_goes 59 = .ok (.getfield 44, 3) := by decide +kernel
theorem dX7_goes_62 : decode cX7_goes 62 = .ok (.iconst 3, 1) := by decide +kernel
theorem dX7_goes_63 : decode cX7_goes 63 = .ok (.iaload, 1) := by decide +kernel
theorem dX7_goes_64 : decode cX7_goes 64 = .ok (.if_icmp .lt 7, 3) := by decide +kernel
theorem dX7_goes_67 : decode cX7_goes 67 = .ok (.iconst 1, 1) := by decide +kernel
theorem dX7_goes_68 : decode cX7_goes 68 = .ok (.goto 4, 3) := by decide +kernel
theorem dX7_goes_71 : decode cX7_goes 71 = .ok (.iconst 0, 1) := by decide +kernel
theorem dX7_goes_72 : decode cX7_goes 72 = .ok (.istore_n 2, 1) := by decide +kernel
theorem dX7_goes_73 : decode cX7_goes 73 = .ok (.iload_n 2, 1) := by decide +kernel
theorem dX7_goes_74 : decode cX7_goes 74 = .ok (.ifCond .ne 9, 3) := by decide +kernel
theorem dX7_goes_77 : decode cX7_goes 77 = .ok (.aload_n 0, 1) := by decide +kernel
theorem dX7_goes_78 : decode cX7_goes 78 = .ok (.invokevirtual 161, 3) := by decide +kernel
theorem dX7_goes_81 : decode cX7_goes 81 = .ok (.iconst 0, 1) := by decide +kernel
theorem dX7_goes_82 : decode cX7_goes 82 = .ok (.ireturn, 1) := by decide +kernel
theorem dX7_goes_83 : decode cX7_goes 83 = .ok (.iload_n 2, 1) := by decide +kernel
theorem dX7_goes_84 : decode cX7_goes 84 = .ok (.ifCond .eq 18, 3) := by decide +kernel
theorem dX7_goes_87 : decode cX7_goes 87 = .ok (.aload_n 0, 1) := by decide +kernel
theorem dX7_goes_88 : decode cX7_goes 88 = .ok (.invokevirtual 164, 3) := by decide +kernel
theorem dX7_goes_91 : decode cX7_goes 91 = .ok (.aload_n 0, 1) := by decide +kernel
theorem dX7_goes_92 : decode cX7_goes 92 = .ok (.getfield 7, 3) := by decide +kernel
theorem dX7_goes_95 : decode cX7_goes 95 = .ok (.bipush 9, 2) := by decide +kernel
theorem dX7_goes_97 : decode cX7_goes 97 = .ok (.dup2, 1) := by decide +kernel
theorem dX7_goes_98 : decode cX7_goes 98 = .ok (.iaload, 1) := by decide +kernel
theorem dX7_goes_99 : decode cX7_goes 99 = .ok (.iconst 1, 1) := by decide +kernel
theorem dX7_goes_100 : decode cX7_goes 100 = .ok (.iadd, 1) := by decide +kernel
theorem dX7_goes_101 : decode cX7_goes 101 = .ok (.iastore, 1) := by decide +kernel
theorem dX7_goes_102 : decode cX7_goes 102 = .ok (.aload_n 0, 1) := by decide +kernel
theorem dX7_goes_103 : decode cX7_goes 103 = .ok (.iload_n 2, 1) := by decide +kernel
theorem dX7_goes_104 : decode cX7_goes 104 = .ok (.invokevirtual 167, 3) := by decide +kernel
theorem dX7_goes_107 : decode cX7_goes 107 = .ok (.aload_n 0, 1) := by decide +kernel
theorem dX7_goes_108 : decode cX7_goes 108 = .ok (.getfield 7, 3) := by decide +kernel
theorem dX7_goes_111 : decode cX7_goes 111 = .ok (.iconst 2, 1) := by decide +kernel
theorem dX7_goes_112 : decode cX7_goes 112 = .ok (.dup2, 1) := by decide +kernel
theorem dX7_goes_113 : decode cX7_goes 113 = .ok (.iaload, 1) := by decide +kernel
theorem dX7_goes_114 : decode cX7_goes 114 = .ok (.iload_n 1, 1) := by decide +kernel
theorem dX7_goes_115 : decode cX7_goes 115 = .ok (.ifCond .ne 7, 3) := by decide +kernel
theorem dX7_goes_118 : decode cX7_goes 118 = .ok (.iconst 1, 1) := by decide +kernel
theorem dX7_goes_119 : decode cX7_goes 119 = .ok (.goto 4, 3) := by decide +kernel
theorem dX7_goes_122 : decode cX7_goes 122 = .ok (.iconst 0, 1) := by decide +kernel
theorem dX7_goes_123 : decode cX7_goes 123 = .ok (.isub, 1) := by decide +kernel
theorem dX7_goes_124 : decode cX7_goes 124 = .ok (.iastore, 1) := by decide +kernel
theorem dX7_goes_125 : decode cX7_goes 125 = .ok (.iconst 1, 1) := by decide +kernel
theorem dX7_goes_126 : decode cX7_goes 126 = .ok (.istore_n 3, 1) := by decide +kernel
theorem dX7_goes_127 : decode cX7_goes 127 = .ok (.iload_n 3, 1) := by decide +kernel
theorem dX7_goes_128 : decode cX7_goes 128 = .ok (.aload_n 0, 1) := by decide +kernel
theorem dX7_goes_129 : decode cX7_goes 129 = .ok (.getfield 75, 3) := by decide +kernel
theorem dX7_goes_132 : decode cX7_goes 132 = .ok (.if_icmp .ge 14, 3) := by decide +kernel
theorem dX7_goes_135 : decode cX7_goes 135 = .ok (.aload_n 0, 1) := by decide +kernel
theorem dX7_goes_136 : decode cX7_goes 136 = .ok (.iload_n 3, 1) := by decide +kernel
theorem dX7_goes_137 : decode cX7_goes 137 = .ok (.invokevirtual 171, 3) := by decide +kernel
theorem dX7_goes_140 : decode cX7_goes 140 = .ok (.iinc 3 1, 3) := by decide +kernel
theorem dX7_goes_143 : decode cX7_goes 143 = .ok (.goto (-16), 3) := by decide +kernel
theorem dX7_goes_146 : decode cX7_goes 146 = .ok (.aload_n 0, 1) := by decide +kernel
theorem dX7_goes_147 : decode cX7_goes 147 = .ok (.invokevirtual 175, 3) := by decide +kernel
theorem dX7_goes_150 : decode cX7_goes 150 = .ok (.istore_n 3, 1) := by decide +kernel
theorem dX7_goes_151 : decode cX7_goes 151 = .ok (.iload_n 3, 1) := by decide +kernel
theorem dX7_goes_152 : decode cX7_goes 152 = .ok (.ifCond .eq 7, 3) := by decide +kernel
theorem dX7_goes_155 : decode cX7_goes 155 = .ok (.aload_n 0, 1) := by decide +kernel
theorem dX7_goes_156 : decode cX7_goes 156 = .ok (.invokevirtual 178, 3) := by decide +kernel
theorem dX7_goes_159 : decode cX7_goes 159 = .ok (.aload_n 0, 1) := by decide +kernel
theorem dX7_goes_160 : decode cX7_goes 160 = .ok (.getfield 7, 3) := by decide +kernel
theorem dX7_goes_163 : decode cX7_goes 163 = .ok (.iconst 3, 1) := by decide +kernel
theorem dX7_goes_164 : decode cX7_goes 164 = .ok (.dup2, 1) := by decide +kernel
theorem dX7_goes_165 : decode cX7_goes 165 = .ok (.iaload, 1) := by decide +kernel
theorem dX7_goes_166 : decode cX7_goes 166 = .ok (.aload_n 0, 1) := by decide +kernel
theorem dX7_goes_167 : decode cX7_goes 167 = .ok (.getfield 7, 3) := by decide +kernel
theorem dX7_goes_170 : decode cX7_goes 170 = .ok (.iconst 3, 1) := by decide +kernel
theorem dX7_goes_171 : decode cX7_goes 171 = .ok (.iaload, 1) := by decide +kernel
theorem dX7_goes_172 : decode cX7_goes 172 = .ok (.ifCond .le 7, 3) := by decide +kernel
theorem dX7_goes_175 : decode cX7_goes 175 = .ok (.iconst 1, 1) := by decide +kernel
theorem dX7_goes_176 : decode cX7_goes 176 = .ok (.goto 4, 3) := by decide +kernel
theorem dX7_goes_179 : decode cX7_goes 179 = .ok (.iconst 0, 1) := by decide +kernel
theorem dX7_goes_180 : decode cX7_goes 180 = .ok (.iadd, 1) := by decide +kernel
theorem dX7_goes_181 : decode cX7_goes 181 = .ok (.iastore, 1) := by decide +kernel
theorem dX7_goes_182 : decode cX7_goes 182 = .ok (.iload_n 3, 1) := by decide +kernel
theorem dX7_goes_183 : decode cX7_goes 183 = .ok (.ireturn, 1) := by decide +kernel
theorem dX7_ticks_0 : decode cX7_ticks 0 = .ok (.iload_n 1, 1) := by decide +kernel
theorem dX7_ticks_1 : decode cX7_ticks 1 = .ok (.iconst 1, 1) := by decide +kernel
theorem dX7_ticks_2 : decode cX7_ticks 2 = .ok (.bipush 60, 2) := by decide +kernel
theorem dX7_ticks_4 : decode cX7_ticks 4 = .ok (.invokestatic 96, 3) := by decide +kernel
theorem dX7_ticks_7 : decode cX7_ticks 7 = .ok (.ifCond .ne 5, 3) := by decide +kernel
theorem dX7_ticks_10 : decode cX7_ticks 10 = .ok (.iconst (-1), 1) := by decide +kernel
theorem dX7_ticks_11 : decode cX7_ticks 11 = .ok (.ireturn, 1) := by decide +kernel
theorem dX7_ticks_12 : decode cX7_ticks 12 = .ok (.aload_n 0, 1) := by decide +kernel
theorem dX7_ticks_13 : decode cX7_ticks 13 = .ok (.getfield 7, 3) := by decide +kernel
theorem dX7_ticks_16 : decode cX7_ticks 16 = .ok (.iconst 0, 1) := by decide +kernel
theorem dX7_ticks_17 : decode cX7_ticks 17 = .ok (.iaload, 1) := by decide +kernel
theorem dX7_ticks_18 : decode cX7_ticks 18 = .ok (.ifCond .ne 6, 3) := by decide +kernel
theorem dX7_ticks_21 : decode cX7_ticks 21 = .ok (.bipush (-2), 2) := by decide +kernel
theorem dX7_ticks_23 : decode cX7_ticks 23 = .ok (.ireturn, 1) := by decide +kernel
theorem dX7_ticks_24 : decode cX7_ticks 24 = .ok (.aload_n 0, 1) := by decide +kernel
theorem dX7_ticks_25 : decode cX7_ticks 25 = .ok (.getfield 7, 3) := by decide +kernel
theorem dX7_ticks_28 : decode cX7_ticks 28 = .ok (.iconst 5, 1) := by decide +kernel
theorem dX7_ticks_29 : decode cX7_ticks 29 = .ok (.iaload, 1) := by decide +kernel
theorem dX7_ticks_30 : decode cX7_ticks 30 = .ok (.iload_n 1, 1) := by decide +kernel
theorem dX7_ticks_31 : decode cX7_ticks 31 = .ok (.iadd, 1) := by decide +kernel
theorem dX7_ticks_32 : decode cX7_ticks 32 = .ok (.sipush 9999, 3) := by decide +kernel
theorem dX7_ticks_35 : decode cX7_ticks 35 = .ok (.if_icmp .le 6, 3) := by decide +kernel
theorem dX7_ticks_38 : decode cX7_ticks 38 = .ok (.bipush (-3), 2) := by decide +kernel
theorem dX7_ticks_40 : decode cX7_ticks 40 = .ok (.ireturn, 1) := by decide +kernel
theorem dX7_ticks_41 : decode cX7_ticks 41 = .ok (.aload_n 0, 1) := by decide +kernel
theorem dX7_ticks_42 : decode cX7_ticks 42 = .ok (.invokevirtual 181, 3) := by decide +kernel
theorem dX7_ticks_45 : decode cX7_ticks 45 = .ok (.aload_n 0, 1) := by decide +kernel
theorem dX7_ticks_46 : decode cX7_ticks 46 = .ok (.getfield 7, 3) := by decide +kernel
theorem dX7_ticks_49 : decode cX7_ticks 49 = .ok (.bipush 7, 2) := by decide +kernel
theorem dX7_ticks_51 : decode cX7_ticks 51 = .ok (.iaload, 1) := by decide +kernel
theorem dX7_ticks_52 : decode cX7_ticks 52 = .ok (.istore_n 2, 1) := by decide +kernel
theorem dX7_ticks_53 : decode cX7_ticks 53 = .ok (.iconst 0, 1) := by decide +kernel
theorem dX7_ticks_54 : decode cX7_ticks 54 = .ok (.istore_n 3, 1) := by decide +kernel
theorem dX7_ticks_55 : decode cX7_ticks 55 = .ok (.iload_n 3, 1) := by decide +kernel
theorem dX7_ticks_56 : decode cX7_ticks 56 = .ok (.iload_n 1, 1) := by decide +kernel
theorem dX7_ticks_57 : decode cX7_ticks 57 = .ok (.if_icmp .ge 25, 3) := by decide +kernel
theorem dX7_ticks_60 : decode cX7_ticks 60 = .ok (.aload_n 0, 1) := by decide +kernel
theorem dX7_ticks_61 : decode cX7_ticks 61 = .ok (.getfield 7, 3) := by decide +kernel
theorem dX7_ticks_64 : decode cX7_ticks 64 = .ok (.iconst 0, 1) := by decide +kernel
theorem dX7_ticks_65 : decode cX7_ticks 65 = .ok (.iaload, 1) := by decide +kernel
theorem dX7_ticks_66 : decode cX7_ticks 66 = .ok (.iconst 1, 1) := by decide +kernel
theorem dX7_ticks_67 : decode cX7_ticks 67 = .ok (.if_icmp .ne 15, 3) := by decide +kernel
theorem dX7_ticks_70 : decode cX7_ticks 70 = .ok (.aload_n 0, 1) := by decide +kernel
theorem dX7_ticks_71 : decode cX7_ticks 71 = .ok (.iconst 0, 1) := by decide +kernel
theorem dX7_ticks_72 : decode cX7_ticks 72 = .ok (.invokevirtual 184, 3) := by decide +kernel
theorem dX7_ticks_75 : decode cX7_ticks 75 = .ok (.pop, 1) := by decide +kernel
theorem dX7_ticks_76 : decode cX7_ticks 76 = .ok (.iinc 3 1, 3) := by decide +kernel
theorem dX7_ticks_79 : decode cX7_ticks 79 = .ok (.goto (-24), 3) := by decide +kernel
theorem dX7_ticks_82 : decode cX7_ticks 82 = .ok (.aload_n 0, 1) := by decide +kernel
theorem dX7_ticks_83 : decode cX7_ticks 83 = .ok (.getfield 7, 3) := by decide +kernel
theorem dX7_ticks_86 : decode cX7_ticks 86 = .ok (.bipush 7, 2) := by decide +kernel
theorem dX7_ticks_88 : decode cX7_ticks 88 = .ok (.iaload, 1) := by decide +kernel
theorem dX7_ticks_89 : decode cX7_ticks 89 = .ok (.iload_n 2, 1) := by decide +kernel
theorem dX7_ticks_90 : decode cX7_ticks 90 = .ok (.isub, 1) := by decide +kernel
theorem dX7_ticks_91 : decode cX7_ticks 91 = .ok (.ireturn, 1) := by decide +kernel
theorem dX7_isLater_0 : decode cX7_isLater 0 = .ok (.iload_n 1, 1) := by decide +kernel
theorem dX7_isLater_1 : decode cX7_isLater 1 = .ok (.iconst 1, 1) := by decide +kernel
theorem dX7_isLater_2 : decode cX7_isLater 2 = .ok (.aload_n 0, 1) := by decide +kernel
theorem dX7_isLater_3 : decode cX7_isLater 3 = .ok (.getfield 75, 3) := by decide +kernel
theorem dX7_isLater_6 : decode cX7_isLater 6 = .ok (.iconst 1, 1) := by decide +kernel
theorem dX7_isLater_7 : decode cX7_isLater 7 = .ok (.isub, 1) := by decide +kernel
theorem dX7_isLater_8 : decode cX7_isLater 8 = .ok (.invokestatic 96, 3) := by decide +kernel
theorem dX7_isLater_11 : decode cX7_isLater 11 = .ok (.ireturn, 1) := by decide +kernel
theorem dX7_drifts_0 : decode cX7_drifts 0 = .ok (.aload_n 0, 1) := by decide +kernel
theorem dX7_drifts_1 : decode cX7_drifts 1 = .ok (.iload_n 1, 1) := by decide +kernel
theorem dX7_drifts_2 : decode cX7_drifts 2 = .ok (.invokevirtual 187, 3) := by decide +kernel
theorem dX7_drifts_5 : decode cX7_drifts 5 = .ok (.ifCond .eq 14, 3) := by decide +kernel
theorem dX7_drifts_8 : decode cX7_drifts 8 = .ok (.iload_n 2, 1) := by decide +kernel
theorem dX7_drifts_9 : decode cX7_drifts 9 = .ok (.bipush (-20), 2) := by decide +kernel
theorem dX7_drifts_11 : decode cX7_drifts 11 = .ok (.bipush 20, 2) := by decide +kernel
theorem dX7_drifts_13 : decode cX7_drifts 13 = .ok (.invokestatic 96, 3) := by decide +kernel
theorem dX7_drifts_16 : decode cX7_drifts 16 = .ok (.ifCond .ne 5, 3) := by decide +kernel
theorem dX7_drifts_19 : decode cX7_drifts 19 = .ok (.iconst (-1), 1) := by decide +kernel
theorem dX7_drifts_20 : decode cX7_drifts 20 = .ok (.ireturn, 1) := by decide +kernel
theorem dX7_drifts_21 : decode cX7_drifts 21 = .ok (.aload_n 0, 1) := by decide +kernel
theorem dX7_drifts_22 : decode cX7_drifts 22 = .ok (.getfield 7, 3) := by decide +kernel
theorem dX7_drifts_25 : decode cX7_drifts 25 = .ok (.bipush 10, 2) := by decide +kernel
theorem dX7_drifts_27 : decode cX7_drifts 27 = .ok (.iload_n 1, 1) := by decide +kernel
theorem dX7_drifts_28 : decode cX7_drifts 28 = .ok (.iadd, 1) := by decide +kernel
theorem dX7_drifts_29 : decode cX7_drifts 29 = .ok (.iaload, 1) := by decide +kernel
theorem dX7_drifts_30 : decode cX7_drifts 30 = .ok (.iload_n 2, 1) := by decide +kernel
theorem dX7_drifts_31 : decode cX7_drifts 31 = .ok (.if_icmp .ne 6, 3) := by decide +kernel
theorem dX7_drifts_34 : decode cX7_drifts 34 = .ok (.bipush (-2), 2) := by decide +kernel
theorem dX7_drifts_36 : decode cX7_drifts 36 = .ok (.ireturn, 1) := by decide +kernel
theorem dX7_drifts_37 : decode cX7_drifts 37 = .ok (.aload_n 0, 1) := by decide +kernel
theorem dX7_drifts_38 : decode cX7_drifts 38 = .ok (.invokevirtual 181, 3) := by decide +kernel
theorem dX7_drifts_41 : decode cX7_drifts 41 = .ok (.aload_n 0, 1) := by decide +kernel
theorem dX7_drifts_42 : decode cX7_drifts 42 = .ok (.getfield 7, 3) := by decide +kernel
theorem dX7_drifts_45 : decode cX7_drifts 45 = .ok (.bipush 10, 2) := by decide +kernel
theorem dX7_drifts_47 : decode cX7_drifts 47 = .ok (.iload_n 1, 1) := by decide +kernel
theorem dX7_drifts_48 : decode cX7_drifts 48 = .ok (.iadd, 1) := by decide +kernel
theorem dX7_drifts_49 : decode cX7_drifts 49 = .ok (.iload_n 2, 1) := by decide +kernel
theorem dX7_drifts_50 : decode cX7_drifts 50 = .ok (.iastore, 1) := by decide +kernel
theorem dX7_drifts_51 : decode cX7_drifts 51 = .ok (.iconst 1, 1) := by decide +kernel
theorem dX7_drifts_52 : decode cX7_drifts 52 = .ok (.ireturn, 1) := by decide +kernel
theorem dX7_corrects_0 : decode cX7_corrects 0 = .ok (.aload_n 0, 1) := by decide +kernel
theorem dX7_corrects_1 : decode cX7_corrects 1 = .ok (.iload_n 1, 1) := by decide +kernel
theorem dX7_corrects_2 : decode cX7_corrects 2 = .ok (.invokevirtual 187, 3) := by decide +kernel
theorem dX7_corrects_5 : decode cX7_corrects 5 = .ok (.ifCond .eq 18, 3) := by decide +kernel
theorem dX7_corrects_8 : decode cX7_corrects 8 = .ok (.iload_n 2, 1) := by decide +kernel
theorem dX7_corrects_9 : decode cX7_corrects 9 = .ok (.bipush (-20), 2) := by decide +kernel
theorem dX7_corrects_11 : decode cX7_corrects 11 = .ok (.bipush 20, 2) := by decide +kernel
theorem dX7_corrects_13 : decode cX7_corrects 13 = .ok (.invokestatic 96, 3) := by decide +kernel
theorem dX7_corrects_16 : decode cX7_corrects 16 = .ok (.ifCond .eq 7, 3) := by decide +kernel
theorem dX7_corrects_19 : decode cX7_corrects 19 = .ok (.iload_n 2, 1) := by decide +kernel
theorem dX7_corrects_20 : decode cX7_corrects 20 = .ok (.ifCond .ne 5, 3) := by decide +kernel
theorem dX7_corrects_23 : decode cX7_corrects 23 = .ok (.iconst (-1), 1) := by decide +kernel
theorem dX7_corrects_24 : decode cX7_corrects 24 = .ok (.ireturn, 1) := by decide +kernel
theorem dX7_corrects_25 : decode cX7_corrects 25 = .ok (.aload_n 0, 1) := by decide +kernel
theorem dX7_corrects_26 : decode cX7_corrects 26 = .ok (.invokevirtual 181, 3) := by decide +kernel
theorem dX7_corrects_29 : decode cX7_corrects 29 = .ok (.aload_n 0, 1) := by decide +kernel
theorem dX7_corrects_30 : decode cX7_corrects 30 = .ok (.iload_n 1, 1) := by decide +kernel
theorem dX7_corrects_31 : decode cX7_corrects 31 = .ok (.iload_n 2, 1) := by decide +kernel
theorem dX7_corrects_32 : decode cX7_corrects 32 = .ok (.invokevirtual 154, 3) := by decide +kernel
theorem dX7_corrects_35 : decode cX7_corrects 35 = .ok (.aload_n 0, 1) := by decide +kernel
theorem dX7_corrects_36 : decode cX7_corrects 36 = .ok (.getfield 7, 3) := by decide +kernel
theorem dX7_corrects_39 : decode cX7_corrects 39 = .ok (.bipush 18, 2) := by decide +kernel
theorem dX7_corrects_41 : decode cX7_corrects 41 = .ok (.iload_n 1, 1) := by decide +kernel
theorem dX7_corrects_42 : decode cX7_corrects 42 = .ok (.iadd, 1) := by decide +kernel
theorem dX7_corrects_43 : decode cX7_corrects 43 = .ok (.iaload, 1) := by decide +kernel
theorem dX7_corrects_44 : decode cX7_corrects 44 = .ok (.ireturn, 1) := by decide +kernel
theorem dX7_spins_0 : decode cX7_spins 0 = .ok (.aload_n 0, 1) := by decide +kernel
theorem dX7_spins_1 : decode cX7_spins 1 = .ok (.getfield 7, 3) := by decide +kernel
theorem dX7_spins_4 : decode cX7_spins 4 = .ok (.iconst 0, 1) := by decide +kernel
theorem dX7_spins_5 : decode cX7_spins 5 = .ok (.iaload, 1) := by decide +kernel
theorem dX7_spins_6 : decode cX7_spins 6 = .ok (.ifCond .eq 21, 3) := by decide +kernel
theorem dX7_spins_9 : decode cX7_spins 9 = .ok (.aload_n 0, 1) := by decide +kernel
theorem dX7_spins_10 : decode cX7_spins 10 = .ok (.invokevirtual 158, 3) := by decide +kernel
theorem dX7_spins_13 : decode cX7_spins 13 = .ok (.bipush (-9), 2) := by decide +kernel
theorem dX7_spins_15 : decode cX7_spins 15 = .ok (.if_icmp .eq 12, 3) := by decide +kernel
theorem dX7_spins_18 : decode cX7_spins 18 = .ok (.aload_n 0, 1) := by decide +kernel
theorem dX7_spins_19 : decode cX7_spins 19 = .ok (.getfield 7, 3) := by decide +kernel
theorem dX7_spins_22 : decode cX7_spins 22 = .ok (.iconst 3, 1) := by decide +kernel
theorem dX7_spins_23 : decode cX7_spins 23 = .ok (.iaload, 1) := by decide +kernel
theorem dX7_spins_24 : decode cX7_spins 24 = .ok (.ifCond .le 6, 3) := by decide +kernel
theorem dX7_spins_27 : decode cX7_spins 27 = .ok (.bipush (-2), 2) := by decide +kernel
theorem dX7_spins_29 : decode cX7_spins 29 = .ok (.ireturn, 1) := by decide +kernel
theorem dX7_spins_30 : decode cX7_spins 30 = .ok (.aload_n 0, 1) := by decide +kernel
theorem dX7_spins_31 : decode cX7_spins 31 = .ok (.invokevirtual 181, 3) := by decide +kernel
theorem dX7_spins_34 : decode cX7_spins 34 = .ok (.aload_n 0, 1) := by decide +kernel
theorem dX7_spins_35 : decode cX7_spins 35 = .ok (.getfield 7, 3) := by decide +kernel
theorem dX7_spins_38 : decode cX7_spins 38 = .ok (.iconst 3, 1) := by decide +kernel
theorem dX7_spins_39 : decode cX7_spins 39 = .ok (.iconst 1, 1) := by decide +kernel
theorem dX7_spins_40 : decode cX7_spins 40 = .ok (.iastore, 1) := by decide +kernel
theorem dX7_spins_41 : decode cX7_spins 41 = .ok (.aload_n 0, 1) := by decide +kernel
theorem dX7_spins_42 : decode cX7_spins 42 = .ok (.invokevirtual 158, 3) := by decide +kernel
theorem dX7_spins_45 : decode cX7_spins 45 = .ok (.ireturn, 1) := by decide +kernel
theorem dX7_starts_0 : decode cX7_starts 0 = .ok (.aload_n 0, 1) := by decide +kernel
theorem dX7_starts_1 : decode cX7_starts 1 = .ok (.getfield 7, 3) := by decide +kernel
theorem dX7_starts_4 : decode cX7_starts 4 = .ok (.iconst 0, 1) := by decide +kernel
theorem dX7_starts_5 : decode cX7_starts 5 = .ok (.iaload, 1) := by decide +kernel
theorem dX7_starts_6 : decode cX7_starts 6 = .ok (.iconst 1, 1) := by decide +kernel
theorem dX7_starts_7 : decode cX7_starts 7 = .ok (.if_icmp .eq 12, 3) := by decide +kernel
theorem dX7_starts_10 : decode cX7_starts 10 = .ok (.aload_n 0, 1) := by decide +kernel
theorem dX7_starts_11 : decode cX7_starts 11 = .ok (.invokevirtual 158, 3) := by decide +kernel
theorem dX7_starts_14 : decode cX7_starts 14 = .ok (.bipush (-9), 2) := by decide +kernel
theorem dX7_starts_16 : decode cX7_starts 16 = .ok (.if_icmp .ne 6, 3) := by decide +kernel
theorem dX7_starts_19 : decode cX7_starts 19 = .ok (.bipush (-2), 2) := by decide +kernel
theorem dX7_starts_21 : decode cX7_starts 21 = .ok (.ireturn, 1) := by decide +kernel
theorem dX7_starts_22 : decode cX7_starts 22 = .ok (.aload_n 0, 1) := by decide +kernel
theorem dX7_starts_23 : decode cX7_starts 23 = .ok (.invokevirtual 181, 3) := by decide +kernel
theorem dX7_starts_26 : decode cX7_starts 26 = .ok (.aload_n 0, 1) := by decide +kernel
theorem dX7_starts_27 : decode cX7_starts 27 = .ok (.invokevirtual 164, 3) := by decide +kernel
theorem dX7_starts_30 : decode cX7_starts 30 = .ok (.aload_n 0, 1) := by decide +kernel
theorem dX7_starts_31 : decode cX7_starts 31 = .ok (.getfield 7, 3) := by decide +kernel
theorem dX7_starts_34 : decode cX7_starts 34 = .ok (.iconst 0, 1) := by decide +kernel
theorem dX7_starts_35 : decode cX7_starts 35 = .ok (.iconst 1, 1) := by decide +kernel
theorem dX7_starts_36 : decode cX7_starts 36 = .ok (.iastore, 1) := by decide +kernel
theorem dX7_starts_37 : decode cX7_starts 37 = .ok (.iconst 0, 1) := by decide +kernel
theorem dX7_starts_38 : decode cX7_starts 38 = .ok (.istore_n 1, 1) := by decide +kernel
theorem dX7_starts_39 : decode cX7_starts 39 = .ok (.iload_n 1, 1) := by decide +kernel
theorem dX7_starts_40 : decode cX7_starts 40 = .ok (.iconst 4, 1) := by decide +kernel
theorem dX7_starts_41 : decode cX7_starts 41 = .ok (.if_icmp .ge 19, 3) := by decide +kernel
theorem dX7_starts_44 : decode cX7_starts 44 = .ok (.aload_n 0, 1) := by decide +kernel
theorem dX7_starts_45 : decode cX7_starts 45 = .ok (.getfield 7, 3) := by decide +kernel
theorem dX7_starts_48 : decode cX7_starts 48 = .ok (.bipush 18, 2) := by decide +kernel
theorem dX7_starts_50 : decode cX7_starts 50 = .ok (.iload_n 1, 1) := by decide +kernel
theorem dX7_starts_51 : decode cX7_starts 51 = .ok (.iadd, 1) := by decide +kernel
theorem dX7_starts_52 : decode cX7_starts 52 = .ok (.iconst 0, 1) := by decide +kernel
theorem dX7_starts_53 : decode cX7_starts 53 = .ok (.iastore, 1) := by decide +kernel
theorem dX7_starts_54 : decode cX7_starts 54 = .ok (.iinc 1 1, 3) := by decide +kernel
theorem dX7_starts_57 : decode cX7_starts 57 = .ok (.goto (-18), 3) := by decide +kernel
theorem dX7_starts_60 : decode cX7_starts 60 = .ok (.aload_n 0, 1) := by decide +kernel
theorem dX7_starts_61 : decode cX7_starts 61 = .ok (.getfield 7, 3) := by decide +kernel
theorem dX7_starts_64 : decode cX7_starts 64 = .ok (.iconst 1, 1) := by decide +kernel
theorem dX7_starts_65 : decode cX7_starts 65 = .ok (.iaload, 1) := by decide +kernel
theorem dX7_starts_66 : decode cX7_starts 66 = .ok (.ireturn, 1) := by decide +kernel
theorem dX7_aheads_0 : decode cX7_aheads 0 = .ok (.iload_n 1, 1) := by decide +kernel
theorem dX7_aheads_1 : decode cX7_aheads 1 = .ok (.iconst 0, 1) := by decide +kernel
theorem dX7_aheads_2 : decode cX7_aheads 2 = .ok (.iconst 1, 1) := by decide +kernel
theorem dX7_aheads_3 : decode cX7_aheads 3 = .ok (.invokestatic 96, 3) := by decide +kernel
theorem dX7_aheads_6 : decode cX7_aheads 6 = .ok (.ifCond .ne 5, 3) := by decide +kernel
theorem dX7_aheads_9 : decode cX7_aheads 9 = .ok (.iconst (-1), 1) := by decide +kernel
theorem dX7_aheads_10 : decode cX7_aheads 10 = .ok (.ireturn, 1) := by decide +kernel
theorem dX7_aheads_11 : decode cX7_aheads 11 = .ok (.aload_n 0, 1) := by decide +kernel
theorem dX7_aheads_12 : decode cX7_aheads 12 = .ok (.getfield 7, 3) := by decide +kernel
theorem dX7_aheads_15 : decode cX7_aheads 15 = .ok (.iconst 4, 1) := by decide +kernel
theorem dX7_aheads_16 : decode cX7_aheads 16 = .ok (.iaload, 1) := by decide +kernel
theorem dX7_aheads_17 : decode cX7_aheads 17 = .ok (.iload_n 1, 1) := by decide +kernel
theorem dX7_aheads_18 : decode cX7_aheads 18 = .ok (.if_icmp .ne 6, 3) := by decide +kernel
theorem dX7_aheads_21 : decode cX7_aheads 21 = .ok (.bipush (-2), 2) := by decide +kernel
theorem dX7_aheads_23 : decode cX7_aheads 23 = .ok (.ireturn, 1) := by decide +kernel
theorem dX7_aheads_24 : decode cX7_aheads 24 = .ok (.aload_n 0, 1) := by decide +kernel
theorem dX7_aheads_25 : decode cX7_aheads 25 = .ok (.invokevirtual 181, 3) := by decide +kernel
theorem dX7_aheads_28 : decode cX7_aheads 28 = .ok (.aload_n 0, 1) := by decide +kernel
theorem dX7_aheads_29 : decode cX7_aheads 29 = .ok (.getfield 7, 3) := by decide +kernel
theorem dX7_aheads_32 : decode cX7_aheads 32 = .ok (.iconst 4, 1) := by decide +kernel
theorem dX7_aheads_33 : decode cX7_aheads 33 = .ok (.iload_n 1, 1) := by decide +kernel
theorem dX7_aheads_34 : decode cX7_aheads 34 = .ok (.iastore, 1) := by decide +kernel
theorem dX7_aheads_35 : decode cX7_aheads 35 = .ok (.iconst 1, 1) := by decide +kernel
theorem dX7_aheads_36 : decode cX7_aheads 36 = .ok (.ireturn, 1) := by decide +kernel
theorem dX7_passedTo_0 : decode cX7_passedTo 0 = .ok (.iconst 0, 1) := by decide +kernel
theorem dX7_passedTo_1 : decode cX7_passedTo 1 = .ok (.istore_n 2, 1) := by decide +kernel
theorem dX7_passedTo_2 : decode cX7_passedTo 2 = .ok (.iconst 0, 1) := by decide +kernel
theorem dX7_passedTo_3 : decode cX7_passedTo 3 = .ok (.istore_n 3, 1) := by decide +kernel
theorem dX7_passedTo_4 : decode cX7_passedTo 4 = .ok (.iload_n 3, 1) := by decide +kernel
theorem dX7_passedTo_5 : decode cX7_passedTo 5 = .ok (.bipush 8, 2) := by decide +kernel
theorem dX7_passedTo_7 : decode cX7_passedTo 7 = .ok (.if_icmp .ge 26, 3) := by decide +kernel
theorem dX7_passedTo_10 : decode cX7_passedTo 10 = .ok (.iload_n 2, 1) := by decide +kernel
theorem dX7_passedTo_11 : decode cX7_passedTo 11 = .ok (.aload_n 0, 1) := by decide +kernel
theorem dX7_passedTo_12 : decode cX7_passedTo 12 = .ok (.getfield 7, 3) := by decide +kernel
theorem dX7_passedTo_15 : decode cX7_passedTo 15 = .ok (.bipush 22, 2) := by decide +kernel
theorem dX7_passedTo_17 : decode cX7_passedTo 17 = .ok (.bipush 8, 2) := by decide +kernel
theorem dX7_passedTo_19 : decode cX7_passedTo 19 = .ok (.iload_n 1, 1) := by decide +kernel
theorem dX7_passedTo_20 : decode cX7_passedTo 20 = .ok (.imul, 1) := by decide +kernel
theorem dX7_passedTo_21 : decode cX7_passedTo 21 = .ok (.iadd, 1) := by decide +kernel
theorem dX7_passedTo_22 : decode cX7_passedTo 22 = .ok (.iload_n 3, 1) := by decide +kernel
theorem dX7_passedTo_23 : decode cX7_passedTo 23 = .ok (.iadd, 1) := by decide +kernel
theorem dX7_passedTo_24 : decode cX7_passedTo 24 = .ok (.iaload, 1) := by decide +kernel
theorem dX7_passedTo_25 : decode cX7_passedTo 25 = .ok (.iadd, 1) := by decide +kernel
theorem dX7_passedTo_26 : decode cX7_passedTo 26 = .ok (.istore_n 2, 1) := by decide +kernel
theorem dX7_passedTo_27 : decode cX7_passedTo 27 = .ok (.iinc 3 1, 3) := by decide +kernel
theorem dX7_passedTo_30 : decode cX7_passedTo 30 = .ok (.goto (-26), 3) := by decide +kernel
theorem dX7_passedTo_33 : decode cX7_passedTo 33 = .ok (.iload_n 2, 1) := by decide +kernel
theorem dX7_passedTo_34 : decode cX7_passedTo 34 = .ok (.ireturn, 1) := by decide +kernel
theorem dX7_unit_0 : decode cX7_unit 0 = .ok (.iload_n 1, 1) := by decide +kernel
theorem dX7_unit_1 : decode cX7_unit 1 = .ok (.iconst 0, 1) := by decide +kernel
theorem dX7_unit_2 : decode cX7_unit 2 = .ok (.aload_n 0, 1) := by decide +kernel
theorem dX7_unit_3 : decode cX7_unit 3 = .ok (.getfield 75, 3) := by decide +kernel
theorem dX7_unit_6 : decode cX7_unit 6 = .ok (.iconst 1, 1) := by decide +kernel
theorem dX7_unit_7 : decode cX7_unit 7 = .ok (.isub, 1) := by decide +kernel
theorem dX7_unit_8 : decode cX7_unit 8 = .ok (.invokestatic 96, 3) := by decide +kernel
theorem dX7_unit_11 : decode cX7_unit 11 = .ok (.ifCond .eq 12, 3) := by decide +kernel
theorem dX7_unit_14 : decode cX7_unit 14 = .ok (.iload_n 2, 1) := by decide +kernel
theorem dX7_unit_15 : decode cX7_unit 15 = .ok (.iconst 0, 1) := by decide +kernel
theorem dX7_unit_16 : decode cX7_unit 16 = .ok (.iconst 5, 1) := by decide +kernel
theorem dX7_unit_17 : decode cX7_unit 17 = .ok (.invokestatic 96, 3) := by decide +kernel
theorem dX7_unit_20 : decode cX7_unit 20 = .ok (.ifCond .ne 6, 3) := by decide +kernel
theorem dX7_unit_23 : decode cX7_unit 23 = .ok (.ldc 190, 2) := by decide +kernel
theorem dX7_unit_25 : decode cX7_unit 25 = .ok (.ireturn, 1) := by decide +kernel
theorem dX7_unit_26 : decode cX7_unit 26 = .ok (.iload_n 2, 1) := by decide +kernel
theorem dX7_unit_27 : decode cX7_unit 27 = .ok (.tableswitch 77 0 4 #[33, 40, 47, 57, 67], 33) := by decide +kernel
theorem dX7_unit_60 : decode cX7_unit 60 = .ok (.aload_n 0, 1) := by decide +kernel
theorem dX7_unit_61 : decode cX7_unit 61 = .ok (.getfield 32, 3) := by decide +kernel
theorem dX7_unit_64 : decode cX7_unit 64 = .ok (.iload_n 1, 1) := by decide +kernel
theorem dX7_unit_65 : decode cX7_unit 65 = .ok (.iaload, 1) := by decide +kernel
theorem dX7_unit_66 : decode cX7_unit 66 = .ok (.ireturn, 1) := by decide +kernel
theorem dX7_unit_67 : decode cX7_unit 67 = .ok (.aload_n 0, 1) := by decide +kernel
theorem dX7_unit_68 : decode cX7_unit 68 = .ok (.getfield 35, 3) := by decide +kernel
theorem dX7_unit_71 : decode cX7_unit 71 = .ok (.iload_n 1, 1) := by decide +kernel
theorem dX7_unit_72 : decode cX7_unit 72 = .ok (.iaload, 1) := by decide +kernel
theorem dX7_unit_73 : decode cX7_unit 73 = .ok (.ireturn, 1) := by decide +kernel
theorem dX7_unit_74 : decode cX7_unit 74 = .ok (.aload_n 0, 1) := by decide +kernel
theorem dX7_unit_75 : decode cX7_unit 75 = .ok (.getfield 7, 3) := by decide +kernel
theorem dX7_unit_78 : decode cX7_unit 78 = .ok (.bipush 10, 2) := by decide +kernel
theorem dX7_unit_80 : decode cX7_unit 80 = .ok (.iload_n 1, 1) := by decide +kernel
theorem dX7_unit_81 : decode cX7_unit 81 = .ok (.iadd, 1) := by decide +kernel
theorem dX7_unit_82 : decode cX7_unit 82 = .ok (.iaload, 1) := by decide +kernel
theorem dX7_unit_83 : decode cX7_unit 83 = .ok (.ireturn, 1) := by decide +kernel
theorem dX7_unit_84 : decode cX7_unit 84 = .ok (.aload_n 0, 1) := by decide +kernel
theorem dX7_unit_85 : decode cX7_unit 85 = .ok (.getfield 7, 3) := by decide +kernel
theorem dX7_unit_88 : decode cX7_unit 88 = .ok (.bipush 14, 2) := by decide +kernel
theorem dX7_unit_90 : decode cX7_unit 90 = .ok (.iload_n 1, 1) := by decide +kernel
theorem dX7_unit_91 : decode cX7_unit 91 = .ok (.iadd, 1) := by decide +kernel
theorem dX7_unit_92 : decode cX7_unit 92 = .ok (.iaload, 1) := by decide +kernel
theorem dX7_unit_93 : decode cX7_unit 93 = .ok (.ireturn, 1) := by decide +kernel
theorem dX7_unit_94 : decode cX7_unit 94 = .ok (.aload_n 0, 1) := by decide +kernel
theorem dX7_unit_95 : decode cX7_unit 95 = .ok (.getfield 7, 3) := by decide +kernel
theorem dX7_unit_98 : decode cX7_unit 98 = .ok (.bipush 18, 2) := by decide +kernel
theorem dX7_unit_100 : decode cX7_unit 100 = .ok (.iload_n 1, 1) := by decide +kernel
theorem dX7_unit_101 : decode cX7_unit 101 = .ok (.iadd, 1) := by decide +kernel
theorem dX7_unit_102 : decode cX7_unit 102 = .ok (.iaload, 1) := by decide +kernel
theorem dX7_unit_103 : decode cX7_unit 103 = .ok (.ireturn, 1) := by decide +kernel
theorem dX7_unit_104 : decode cX7_unit 104 = .ok (.aload_n 0, 1) := by decide +kernel
theorem dX7_unit_105 : decode cX7_unit 105 = .ok (.iload_n 1, 1) := by decide +kernel
theorem dX7_unit_106 : decode cX7_unit 106 = .ok (.invokevirtual 191, 3) := by decide +kernel
theorem dX7_unit_109 : decode cX7_unit 109 = .ok (.ireturn, 1) := by decide +kernel
theorem dX7_reel_0 : decode cX7_reel 0 = .ok (.iload_n 1, 1) := by decide +kernel
theorem dX7_reel_1 : decode cX7_reel 1 = .ok (.iconst 0, 1) := by decide +kernel
theorem dX7_reel_2 : decode cX7_reel 2 = .ok (.aload_n 0, 1) := by decide +kernel
theorem dX7_reel_3 : decode cX7_reel 3 = .ok (.getfield 78, 3) := by decide +kernel
theorem dX7_reel_6 : decode cX7_reel 6 = .ok (.iconst 1, 1) := by decide +kernel
theorem dX7_reel_7 : decode cX7_reel 7 = .ok (.isub, 1) := by decide +kernel
theorem dX7_reel_8 : decode cX7_reel 8 = .ok (.invokestatic 96, 3) := by decide +kernel
theorem dX7_reel_11 : decode cX7_reel 11 = .ok (.ifCond .eq 12, 3) := by decide +kernel
theorem dX7_reel_14 : decode cX7_reel 14 = .ok (.iload_n 2, 1) := by decide +kernel
theorem dX7_reel_15 : decode cX7_reel 15 = .ok (.iconst 0, 1) := by decide +kernel
theorem dX7_reel_16 : decode cX7_reel 16 = .ok (.iconst 2, 1) := by decide +kernel
theorem dX7_reel_17 : decode cX7_reel 17 = .ok (.invokestatic 96, 3) := by decide +kernel
theorem dX7_reel_20 : decode cX7_reel 20 = .ok (.ifCond .ne 6, 3) := by decide +kernel
theorem dX7_reel_23 : decode cX7_reel 23 = .ok (.ldc 190, 2) := by decide +kernel
theorem dX7_reel_25 : decode cX7_reel 25 = .ok (.ireturn, 1) := by decide +kernel
theorem dX7_reel_26 : decode cX7_reel 26 = .ok (.iload_n 2, 1) := by decide +kernel
theorem dX7_reel_27 : decode cX7_reel 27 = .ok (.iconst 1, 1) := by decide +kernel
theorem dX7_reel_28 : decode cX7_reel 28 = .ok (.if_icmp .ne 10, 3) := by decide +kernel
theorem dX7_reel_31 : decode cX7_reel 31 = .ok (.aload_n 0, 1) := by decide +kernel
theorem dX7_reel_32 : decode cX7_reel 32 = .ok (.getfield 41, 3) := by decide +kernel
theorem dX7_reel_35 : decode cX7_reel 35 = .ok (.iload_n 1, 1) := by decide +kernel
theorem dX7_reel_36 : decode cX7_reel 36 = .ok (.iaload, 1) := by decide +kernel
theorem dX7_reel_37 : decode cX7_reel 37 = .ok (.ireturn, 1) := by decide +kernel
theorem dX7_reel_38 : decode cX7_reel 38 = .ok (.iload_n 2, 1) := by decide +kernel
theorem dX7_reel_39 : decode cX7_reel 39 = .ok (.ifCond .eq 13, 3) := by decide +kernel
theorem dX7_reel_42 : decode cX7_reel 42 = .ok (.iload_n 1, 1) := by decide +kernel
theorem dX7_reel_43 : decode cX7_reel 43 = .ok (.aload_n 0, 1) := by decide +kernel
theorem dX7_reel_44 : decode cX7_reel 44 = .ok (.getfield 7, 3) := by decide +kernel
theorem dX7_reel_47 : decode cX7_reel 47 = .ok (.iconst 1, 1) := by decide +kernel
theorem dX7_reel_48 : decode cX7_reel 48 = .ok (.iaload, 1) := by decide +kernel
theorem dX7_reel_49 : decode cX7_reel 49 = .ok (.if_icmp .le 12, 3) := by decide +kernel
theorem dX7_reel_52 : decode cX7_reel 52 = .ok (.aload_n 0, 1) := by decide +kernel
theorem dX7_reel_53 : decode cX7_reel 53 = .ok (.getfield 38, 3) := by decide +kernel
theorem dX7_reel_56 : decode cX7_reel 56 = .ok (.iload_n 1, 1) := by decide +kernel
theorem dX7_reel_57 : decode cX7_reel 57 = .ok (.iaload, 1) := by decide +kernel
theorem dX7_reel_58 : decode cX7_reel 58 = .ok (.goto 23, 3) := by decide +kernel
theorem dX7_reel_61 : decode cX7_reel 61 = .ok (.iload_n 1, 1) := by decide +kernel
theorem dX7_reel_62 : decode cX7_reel 62 = .ok (.aload_n 0, 1) := by decide +kernel
theorem dX7_reel_63 : decode cX7_reel 63 = .ok (.getfield 7, 3) := by decide +kernel
theorem dX7_reel_66 : decode cX7_reel 66 = .ok (.iconst 1, 1) := by decide +kernel
theorem dX7_reel_67 : decode cX7_reel 67 = .ok (.iaload, 1) := by decide +kernel
theorem dX7_reel_68 : decode cX7_reel 68 = .ok (.if_icmp .ne 12, 3) := by decide +kernel
theorem dX7_reel_71 : decode cX7_reel 71 = .ok (.aload_n 0, 1) := by decide +kernel
theorem dX7_reel_72 : decode cX7_reel 72 = .ok (.getfield 7, 3) := by decide +kernel
theorem dX7_reel_75 : decode cX7_reel 75 = .ok (.iconst 2, 1) := by decide +kernel
theorem dX7_reel_76 : decode cX7_reel 76 = .ok (.iaload, 1) := by decide +kernel
theorem dX7_reel_77 : decode cX7_reel 77 = .ok (.goto 4, 3) := by decide +kernel
theorem dX7_reel_80 : decode cX7_reel 80 = .ok (.iconst 0, 1) := by decide +kernel
theorem dX7_reel_81 : decode cX7_reel 81 = .ok (.ireturn, 1) := by decide +kernel
theorem dX7_last_0 : decode cX7_last 0 = .ok (.iload_n 1, 1) := by decide +kernel
theorem dX7_last_1 : decode cX7_last 1 = .ok (.iconst 0, 1) := by decide +kernel
theorem dX7_last_2 : decode cX7_last 2 = .ok (.bipush 6, 2) := by decide +kernel
theorem dX7_last_4 : decode cX7_last 4 = .ok (.invokestatic 96, 3) := by decide +kernel
theorem dX7_last_7 : decode cX7_last 7 = .ok (.ifCond .ne 6, 3) := by decide +kernel
theorem dX7_last_10 : decode cX7_last 10 = .ok (.ldc 190, 2) := by decide +kernel
theorem dX7_last_12 : decode cX7_last 12 = .ok (.ireturn, 1) := by decide +kernel
theorem dX7_last_13 : decode cX7_last 13 = .ok (.aload_n 0, 1) := by decide +kernel
theorem dX7_last_14 : decode cX7_last 14 = .ok (.getfield 7, 3) := by decide +kernel
theorem dX7_last_17 : decode cX7_last 17 = .ok (.bipush 54, 2) := by decide +kernel
theorem dX7_last_19 : decode cX7_last 19 = .ok (.iaload, 1) := by decide +kernel
theorem dX7_last_20 : decode cX7_last 20 = .ok (.ifCond .ne 6, 3) := by decide +kernel
theorem dX7_last_23 : decode cX7_last 23 = .ok (.ldc 194, 2) := by decide +kernel
theorem dX7_last_25 : decode cX7_last 25 = .ok (.ireturn, 1) := by decide +kernel
theorem dX7_last_26 : decode cX7_last 26 = .ok (.iload_n 1, 1) := by decide +kernel
theorem dX7_last_27 : decode cX7_last 27 = .ok (.ifCond .ne 15, 3) := by decide +kernel
theorem dX7_last_30 : decode cX7_last 30 = .ok (.aload_n 0, 1) := by decide +kernel
theorem dX7_last_31 : decode cX7_last 31 = .ok (.getfield 7, 3) := by decide +kernel
theorem dX7_last_34 : decode cX7_last 34 = .ok (.bipush 54, 2) := by decide +kernel
theorem dX7_last_36 : decode cX7_last 36 = .ok (.iaload, 1) := by decide +kernel
theorem dX7_last_37 : decode cX7_last 37 = .ok (.iconst 1, 1) := by decide +kernel
theorem dX7_last_38 : decode cX7_last 38 = .ok (.isub, 1) := by decide +kernel
theorem dX7_last_39 : decode cX7_last 39 = .ok (.goto 12, 3) := by decide +kernel
theorem dX7_last_42 : decode cX7_last 42 = .ok (.aload_n 0, 1) := by decide +kernel
theorem dX7_last_43 : decode cX7_last 43 = .ok (.getfield 7, 3) := by decide +kernel
theorem dX7_last_46 : decode cX7_last 46 = .ok (.bipush 54, 2) := by decide +kernel
theorem dX7_last_48 : decode cX7_last 48 = .ok (.iload_n 1, 1) := by decide +kernel
theorem dX7_last_49 : decode cX7_last 49 = .ok (.iadd, 1) := by decide +kernel
theorem dX7_last_50 : decode cX7_last 50 = .ok (.iaload, 1) := by decide +kernel
theorem dX7_last_51 : decode cX7_last 51 = .ok (.ireturn, 1) := by decide +kernel
theorem dX7_error_0 : decode cX7_error 0 = .ok (.iload_n 1, 1) := by decide +kernel
theorem dX7_error_1 : decode cX7_error 1 = .ok (.iconst 0, 1) := by decide +kernel
theorem dX7_error_2 : decode cX7_error 2 = .ok (.aload_n 0, 1) := by decide +kernel
theorem dX7_error_3 : decode cX7_error 3 = .ok (.getfield 75, 3) := by decide +kernel
theorem dX7_error_6 : decode cX7_error 6 = .ok (.iconst 1, 1) := by decide +kernel
theorem dX7_error_7 : decode cX7_error 7 = .ok (.isub, 1) := by decide +kernel
theorem dX7_error_8 : decode cX7_error 8 = .ok (.invokestatic 96, 3) := by decide +kernel
theorem dX7_error_11 : decode cX7_error 11 = .ok (.ifCond .eq 7, 3) := by decide +kernel
theorem dX7_error_14 : decode cX7_error 14 = .ok (.iload_n 2, 1) := by decide +kernel
theorem dX7_error_15 : decode cX7_error 15 = .ok (.ifCond .ge 6, 3) := by decide +kernel
theorem dX7_error_18 : decode cX7_error 18 = .ok (.ldc 190, 2) := by decide +kernel
theorem dX7_error_20 : decode cX7_error 20 = .ok (.ireturn, 1) := by decide +kernel
theorem dX7_error_21 : decode cX7_error 21 = .ok (.iconst 0, 1) := by decide +kernel
theorem dX7_error_22 : decode cX7_error 22 = .ok (.istore_n 3, 1) := by decide +kernel
theorem dX7_error_23 : decode cX7_error 23 = .ok (.aload_n 0, 1) := by decide +kernel
theorem dX7_error_24 : decode cX7_error 24 = .ok (.getfield 7, 3) := by decide +kernel
theorem dX7_error_27 : decode cX7_error 27 = .ok (.iconst 5, 1) := by decide +kernel
theorem dX7_error_28 : decode cX7_error 28 = .ok (.iaload, 1) := by decide +kernel
theorem dX7_error_29 : decode cX7_error 29 = .ok (.istore 4, 2) := by decide +kernel
theorem dX7_error_31 : decode cX7_error 31 = .ok (.iload 4, 2) := by decide +kernel
theorem dX7_error_33 : decode cX7_error 33 = .ok (.aload_n 0, 1) := by decide +kernel
theorem dX7_error_34 : decode cX7_error 34 = .ok (.getfield 7, 3) := by decide +kernel
theorem dX7_error_37 : decode cX7_error 37 = .ok (.iconst 5, 1) := by decide +kernel
theorem dX7_error_38 : decode cX7_error 38 = .ok (.iaload, 1) := by decide +kernel
theorem dX7_error_39 : decode cX7_error 39 = .ok (.bipush 32, 2) := by decide +kernel
theorem dX7_error_41 : decode cX7_error 41 = .ok (.isub, 1) := by decide +kernel
theorem dX7_error_42 : decode cX7_error 42 = .ok (.if_icmp .le 64, 3) := by decide +kernel
theorem dX7_error_45 : decode cX7_error 45 = .ok (.aload_n 0, 1) := by decide +kernel
theorem dX7_error_46 : decode cX7_error 46 = .ok (.iload 4, 2) := by decide +kernel
theorem dX7_error_48 : decode cX7_error 48 = .ok (.invokevirtual 142, 3) := by decide +kernel
theorem dX7_error_51 : decode cX7_error 51 = .ok (.ifCond .eq 49, 3) := by decide +kernel
theorem dX7_error_54 : decode cX7_error 54 = .ok (.iload_n 3, 1) := by decide +kernel
theorem dX7_error_55 : decode cX7_error 55 = .ok (.iload_n 2, 1) := by decide +kernel
theorem dX7_error_56 : decode cX7_error 56 = .ok (.if_icmp .ne 41, 3) := by decide +kernel
theorem dX7_error_59 : decode cX7_error 59 = .ok (.aload_n 0, 1) := by decide +kernel
theorem dX7_error_60 : decode cX7_error 60 = .ok (.getfield 7, 3) := by decide +kernel
theorem dX7_error_63 : decode cX7_error 63 = .ok (.iconst 5, 1) := by decide +kernel
theorem dX7_error_64 : decode cX7_error 64 = .ok (.iaload, 1) := by decide +kernel
theorem dX7_error_65 : decode cX7_error 65 = .ok (.iload 4, 2) := by decide +kernel
theorem dX7_error_67 : decode cX7_error 67 = .ok (.isub, 1) := by decide +kernel
theorem dX7_error_68 : decode cX7_error 68 = .ok (.aload_n 0, 1) := by decide +kernel
theorem dX7_error_69 : decode cX7_error 69 = .ok (.getfield 35, 3) := by decide +kernel
theorem dX7_error_72 : decode cX7_error 72 = .ok (.iload_n 1, 1) := by decide +kernel
theorem dX7_error_73 : decode cX7_error 73 = .ok (.iaload, 1) := by decide +kernel
theorem dX7_error_74 : decode cX7_error 74 = .ok (.if_icmp .lt 20, 3) := by decide +kernel
theorem dX7_error_77 : decode cX7_error 77 = .ok (.aload_n 0, 1) := by decide +kernel
theorem dX7_error_78 : decode cX7_error 78 = .ok (.getfield 7, 3) := by decide +kernel
theorem dX7_error_81 : decode cX7_error 81 = .ok (.iload 4, 2) := by decide +kernel
theorem dX7_error_83 : decode cX7_error 83 = .ok (.invokestatic 134, 3) := by decide +kernel
theorem dX7_error_86 : decode cX7_error 86 = .ok (.iconst 5, 1) := by decide +kernel
theorem dX7_error_87 : decode cX7_error 87 = .ok (.iadd, 1) := by decide +kernel
theorem dX7_error_88 : decode cX7_error 88 = .ok (.iload_n 1, 1) := by decide +kernel
theorem dX7_error_89 : decode cX7_error 89 = .ok (.iadd, 1) := by decide +kernel
theorem dX7_error_90 : decode cX7_error 90 = .ok (.iaload, 1) := by decide +kernel
theorem dX7_error_91 : decode cX7_error 91 = .ok (.goto 5, 3) := by decide +kernel
theorem dX7_error_94 : decode cX7_error 94 = .ok (.ldc 194, 2) := by decide +kernel
theorem dX7_error_96 : decode cX7_error 96 = .ok (.ireturn, 1) := by decide +kernel
theorem dX7_error_97 : decode cX7_error 97 = .ok (.iinc 3 1, 3) := by decide +kernel
theorem dX7_error_100 : decode cX7_error 100 = .ok (.iinc 4 (-1), 3) := by decide +kernel
theorem dX7_error_103 : decode cX7_error 103 = .ok (.goto (-72), 3) := by decide +kernel
theorem dX7_error_106 : decode cX7_error 106 = .ok (.ldc 194, 2) := by decide +kernel
theorem dX7_error_108 : decode cX7_error 108 = .ok (.ireturn, 1) := by decide +kernel
theorem dX7_steady_0 : decode cX7_steady 0 = .ok (.aload_n 0, 1) := by decide +kernel
theorem dX7_steady_1 : decode cX7_steady 1 = .ok (.getfield 7, 3) := by decide +kernel
theorem dX7_steady_4 : decode cX7_steady 4 = .ok (.iconst 0, 1) := by decide +kernel
theorem dX7_steady_5 : decode cX7_steady 5 = .ok (.iaload, 1) := by decide +kernel
theorem dX7_steady_6 : decode cX7_steady 6 = .ok (.ifCond .eq 12, 3) := by decide +kernel
theorem dX7_steady_9 : decode cX7_steady 9 = .ok (.aload_n 0, 1) := by decide +kernel
theorem dX7_steady_10 : decode cX7_steady 10 = .ok (.getfield 7, 3) := by decide +kernel
theorem dX7_steady_13 : decode cX7_steady 13 = .ok (.iconst 1, 1) := by decide +kernel
theorem dX7_steady_14 : decode cX7_steady 14 = .ok (.iaload, 1) := by decide +kernel
theorem dX7_steady_15 : decode cX7_steady 15 = .ok (.ifCond .ge 6, 3) := by decide +kernel
theorem dX7_steady_18 : decode cX7_steady 18 = .ok (.bipush (-9), 2) := by decide +kernel
theorem dX7_steady_20 : decode cX7_steady 20 = .ok (.ireturn, 1) := by decide +kernel
theorem dX7_steady_21 : decode cX7_steady 21 = .ok (.aload_n 0, 1) := by decide +kernel
theorem dX7_steady_22 : decode cX7_steady 22 = .ok (.invokevirtual 195, 3) := by decide +kernel
theorem dX7_steady_25 : decode cX7_steady 25 = .ok (.iconst 0, 1) := by decide +kernel
theorem dX7_steady_26 : decode cX7_steady 26 = .ok (.istore_n 1, 1) := by decide +kernel
theorem dX7_steady_27 : decode cX7_steady 27 = .ok (.iconst 1, 1) := by decide +kernel
theorem dX7_steady_28 : decode cX7_steady 28 = .ok (.istore_n 2, 1) := by decide +kernel
theorem dX7_steady_29 : decode cX7_steady 29 = .ok (.iload_n 2, 1) := by decide +kernel
theorem dX7_steady_30 : decode cX7_steady 30 = .ok (.sipush 300, 3) := by decide +kernel
theorem dX7_steady_33 : decode cX7_steady 33 = .ok (.if_icmp .gt 38, 3) := by decide +kernel
theorem dX7_steady_36 : decode cX7_steady 36 = .ok (.aload_n 0, 1) := by decide +kernel
theorem dX7_steady_37 : decode cX7_steady 37 = .ok (.iconst 1, 1) := by decide +kernel
theorem dX7_steady_38 : decode cX7_steady 38 = .ok (.invokevirtual 184, 3) := by decide +kernel
theorem dX7_steady_41 : decode cX7_steady 41 = .ok (.istore_n 3, 1) := by decide +kernel
theorem dX7_steady_42 : decode cX7_steady 42 = .ok (.iload_n 3, 1) := by decide +kernel
theorem dX7_steady_43 : decode cX7_steady 43 = .ok (.ifCond .eq 20, 3) := by decide +kernel
theorem dX7_steady_46 : decode cX7_steady 46 = .ok (.aload_n 0, 1) := by decide +kernel
theorem dX7_steady_47 : decode cX7_steady 47 = .ok (.invokevirtual 151, 3) := by decide +kernel
theorem dX7_steady_50 : decode cX7_steady 50 = .ok (.aload_n 0, 1) := by decide +kernel
theorem dX7_steady_51 : decode cX7_steady 51 = .ok (.getfield 44, 3) := by decide +kernel
theorem dX7_steady_54 : decode cX7_steady 54 = .ok (.iconst 2, 1) := by decide +kernel
theorem dX7_steady_55 : decode cX7_steady 55 = .ok (.iaload, 1) := by decide +kernel
theorem dX7_steady_56 : decode cX7_steady 56 = .ok (.if_icmp .le 7, 3) := by decide +kernel
theorem dX7_steady_59 : decode cX7_steady 59 = .ok (.iload_n 2, 1) := by decide +kernel
theorem dX7_steady_60 : decode cX7_steady 60 = .ok (.goto 4, 3) := by decide +kernel
theorem dX7_steady_63 : decode cX7_steady 63 = .ok (.iload_n 1, 1) := by decide +kernel
theorem dX7_steady_64 : decode cX7_steady 64 = .ok (.istore_n 1, 1) := by decide +kernel
theorem dX7_steady_65 : decode cX7_steady 65 = .ok (.iinc 2 1, 3) := by decide +kernel
theorem dX7_steady_68 : decode cX7_steady 68 = .ok (.goto (-39), 3) := by decide +kernel
theorem dX7_steady_71 : decode cX7_steady 71 = .ok (.aload_n 0, 1) := by decide +kernel
theorem dX7_steady_72 : decode cX7_steady 72 = .ok (.invokevirtual 198, 3) := by decide +kernel
theorem dX7_steady_75 : decode cX7_steady 75 = .ok (.iload_n 1, 1) := by decide +kernel
theorem dX7_steady_76 : decode cX7_steady 76 = .ok (.sipush 200, 3) := by decide +kernel
theorem dX7_steady_79 : decode cX7_steady 79 = .ok (.if_icmp .le 8, 3) := by decide +kernel
theorem dX7_steady_82 : decode cX7_steady 82 = .ok (.bipush (-9), 2) := by decide +kernel
theorem dX7_steady_84 : decode cX7_steady 84 = .ok (.goto 4, 3) := by decide +kernel
theorem dX7_steady_87 : decode cX7_steady 87 = .ok (.iload_n 1, 1) := by decide +kernel
theorem dX7_steady_88 : decode cX7_steady 88 = .ok (.ireturn, 1) := by decide +kernel
theorem dX7_wasteBy_0 : decode cX7_wasteBy 0 = .ok (.aload_n 0, 1) := by decide +kernel
theorem dX7_wasteBy_1 : decode cX7_wasteBy 1 = .ok (.invokevirtual 195, 3) := by decide +kernel
theorem dX7_wasteBy_4 : decode cX7_wasteBy 4 = .ok (.aload_n 0, 1) := by decide +kernel
theorem dX7_wasteBy_5 : decode cX7_wasteBy 5 = .ok (.getfield 7, 3) := by decide +kernel
theorem dX7_wasteBy_8 : decode cX7_wasteBy 8 = .ok (.bipush 8, 2) := by decide +kernel
theorem dX7_wasteBy_10 : decode cX7_wasteBy 10 = .ok (.iaload, 1) := by decide +kernel
theorem dX7_wasteBy_11 : decode cX7_wasteBy 11 = .ok (.istore_n 2, 1) := by decide +kernel
theorem dX7_wasteBy_12 : decode cX7_wasteBy 12 = .ok (.iconst 0, 1) := by decide +kernel
theorem dX7_wasteBy_13 : decode cX7_wasteBy 13 = .ok (.istore_n 3, 1) := by decide +kernel
theorem dX7_wasteBy_14 : decode cX7_wasteBy 14 = .ok (.iload_n 3, 1) := by decide +kernel
theorem dX7_wasteBy_15 : decode cX7_wasteBy 15 = .ok (.sipush 200, 3) := by decide +kernel
theorem dX7_wasteBy_18 : decode cX7_wasteBy 18 = .ok (.if_icmp .ge 23, 3) := by decide +kernel
theorem dX7_wasteBy_21 : decode cX7_wasteBy 21 = .ok (.aload_n 0, 1) := by decide +kernel
theorem dX7_wasteBy_22 : decode cX7_wasteBy 22 = .ok (.iload_n 3, 1) := by decide +kernel
theorem dX7_wasteBy_23 : decode cX7_wasteBy 23 = .ok (.ifCond .ne 7, 3) := by decide +kernel
theorem dX7_wasteBy_26 : decode cX7_wasteBy 26 = .ok (.iload_n 1, 1) := by decide +kernel
theorem dX7_wasteBy_27 : decode cX7_wasteBy 27 = .ok (.goto 4, 3) := by decide +kernel
theorem dX7_wasteBy_30 : decode cX7_wasteBy 30 = .ok (.iconst 1, 1) := by decide +kernel
theorem dX7_wasteBy_31 : decode cX7_wasteBy 31 = .ok (.invokevirtual 184, 3) := by decide +kernel
theorem dX7_wasteBy_34 : decode cX7_wasteBy 34 = .ok (.pop, 1) := by decide +kernel
theorem dX7_wasteBy_35 : decode cX7_wasteBy 35 = .ok (.iinc 3 1, 3) := by decide +kernel
theorem dX7_wasteBy_38 : decode cX7_wasteBy 38 = .ok (.goto (-24), 3) := by decide +kernel
theorem dX7_wasteBy_41 : decode cX7_wasteBy 41 = .ok (.aload_n 0, 1) := by decide +kernel
theorem dX7_wasteBy_42 : decode cX7_wasteBy 42 = .ok (.getfield 7, 3) := by decide +kernel
theorem dX7_wasteBy_45 : decode cX7_wasteBy 45 = .ok (.bipush 8, 2) := by decide +kernel
theorem dX7_wasteBy_47 : decode cX7_wasteBy 47 = .ok (.iaload, 1) := by decide +kernel
theorem dX7_wasteBy_48 : decode cX7_wasteBy 48 = .ok (.iload_n 2, 1) := by decide +kernel
theorem dX7_wasteBy_49 : decode cX7_wasteBy 49 = .ok (.isub, 1) := by decide +kernel
theorem dX7_wasteBy_50 : decode cX7_wasteBy 50 = .ok (.istore_n 3, 1) := by decide +kernel
theorem dX7_wasteBy_51 : decode cX7_wasteBy 51 = .ok (.aload_n 0, 1) := by decide +kernel
theorem dX7_wasteBy_52 : decode cX7_wasteBy 52 = .ok (.invokevirtual 198, 3) := by decide +kernel
theorem dX7_wasteBy_55 : decode cX7_wasteBy 55 = .ok (.iload_n 3, 1) := by decide +kernel
theorem dX7_wasteBy_56 : decode cX7_wasteBy 56 = .ok (.ireturn, 1) := by decide +kernel
theorem dX7_cost_0 : decode cX7_cost 0 = .ok (.aload_n 0, 1) := by decide +kernel
theorem dX7_cost_1 : decode cX7_cost 1 = .ok (.getfield 7, 3) := by decide +kernel
theorem dX7_cost_4 : decode cX7_cost 4 = .ok (.iconst 0, 1) := by decide +kernel
theorem dX7_cost_5 : decode cX7_cost 5 = .ok (.iaload, 1) := by decide +kernel
theorem dX7_cost_6 : decode cX7_cost 6 = .ok (.ifCond .eq 12, 3) := by decide +kernel
theorem dX7_cost_9 : decode cX7_cost 9 = .ok (.aload_n 0, 1) := by decide +kernel
theorem dX7_cost_10 : decode cX7_cost 10 = .ok (.invokevirtual 158, 3) := by decide +kernel
theorem dX7_cost_13 : decode cX7_cost 13 = .ok (.bipush (-9), 2) := by decide +kernel
theorem dX7_cost_15 : decode cX7_cost 15 = .ok (.if_icmp .ne 6, 3) := by decide +kernel
theorem dX7_cost_18 : decode cX7_cost 18 = .ok (.ldc 194, 2) := by decide +kernel
theorem dX7_cost_20 : decode cX7_cost 20 = .ok (.ireturn, 1) := by decide +kernel
theorem dX7_cost_21 : decode cX7_cost 21 = .ok (.aload_n 0, 1) := by decide +kernel
theorem dX7_cost_22 : decode cX7_cost 22 = .ok (.iconst 2, 1) := by decide +kernel
theorem dX7_cost_23 : decode cX7_cost 23 = .ok (.invokevirtual 201, 3) := by decide +kernel
theorem dX7_cost_26 : decode cX7_cost 26 = .ok (.aload_n 0, 1) := by decide +kernel
theorem dX7_cost_27 : decode cX7_cost 27 = .ok (.iconst 1, 1) := by decide +kernel
theorem dX7_cost_28 : decode cX7_cost 28 = .ok (.invokevirtual 201, 3) := by decide +kernel
theorem dX7_cost_31 : decode cX7_cost 31 = .ok (.isub, 1) := by decide +kernel
theorem dX7_cost_32 : decode cX7_cost 32 = .ok (.ireturn, 1) := by decide +kernel
theorem dX7_sees_0 : decode cX7_sees 0 = .ok (.aload_n 0, 1) := by decide +kernel
theorem dX7_sees_1 : decode cX7_sees 1 = .ok (.iload_n 1, 1) := by decide +kernel
theorem dX7_sees_2 : decode cX7_sees 2 = .ok (.invokevirtual 187, 3) := by decide +kernel
theorem dX7_sees_5 : decode cX7_sees 5 = .ok (.ifCond .eq 14, 3) := by decide +kernel
theorem dX7_sees_8 : decode cX7_sees 8 = .ok (.iload_n 2, 1) := by decide +kernel
theorem dX7_sees_9 : decode cX7_sees 9 = .ok (.bipush (-99), 2) := by decide +kernel
theorem dX7_sees_11 : decode cX7_sees 11 = .ok (.bipush 99, 2) := by decide +kernel
theorem dX7_sees_13 : decode cX7_sees 13 = .ok (.invokestatic 96, 3) := by decide +kernel
theorem dX7_sees_16 : decode cX7_sees 16 = .ok (.ifCond .ne 5, 3) := by decide +kernel
theorem dX7_sees_19 : decode cX7_sees 19 = .ok (.iconst (-1), 1) := by decide +kernel
theorem dX7_sees_20 : decode cX7_sees 20 = .ok (.ireturn, 1) := by decide +kernel
theorem dX7_sees_21 : decode cX7_sees 21 = .ok (.aload_n 0, 1) := by decide +kernel
theorem dX7_sees_22 : decode cX7_sees 22 = .ok (.getfield 84, 3) := by decide +kernel
theorem dX7_sees_25 : decode cX7_sees 25 = .ok (.bipush 6, 2) := by decide +kernel
theorem dX7_sees_27 : decode cX7_sees 27 = .ok (.if_icmp .ne 6, 3) := by decide +kernel
theorem dX7_sees_30 : decode cX7_sees 30 = .ok (.bipush (-3), 2) := by decide +kernel
theorem dX7_sees_32 : decode cX7_sees 32 = .ok (.ireturn, 1) := by decide +kernel
theorem dX7_sees_33 : decode cX7_sees 33 = .ok (.aload_n 0, 1) := by decide +kernel
theorem dX7_sees_34 : decode cX7_sees 34 = .ok (.getfield 29, 3) := by decide +kernel
theorem dX7_sees_37 : decode cX7_sees 37 = .ok (.iconst 2, 1) := by decide +kernel
theorem dX7_sees_38 : decode cX7_sees 38 = .ok (.aload_n 0, 1) := by decide +kernel
theorem dX7_sees_39 : decode cX7_sees 39 = .ok (.getfield 84, 3) := by decide +kernel
theorem dX7_sees_42 : decode cX7_sees 42 = .ok (.imul, 1) := by decide +kernel
theorem dX7_sees_43 : decode cX7_sees 43 = .ok (.iload_n 1, 1) := by decide +kernel
theorem dX7_sees_44 : decode cX7_sees 44 = .ok (.iastore, 1) := by decide +kernel
theorem dX7_sees_45 : decode cX7_sees 45 = .ok (.aload_n 0, 1) := by decide +kernel
theorem dX7_sees_46 : decode cX7_sees 46 = .ok (.getfield 29, 3) := by decide +kernel
theorem dX7_sees_49 : decode cX7_sees 49 = .ok (.iconst 2, 1) := by decide +kernel
theorem dX7_sees_50 : decode cX7_sees 50 = .ok (.aload_n 0, 1) := by decide +kernel
theorem dX7_sees_51 : decode cX7_sees 51 = .ok (.getfield 84, 3) := by decide +kernel
theorem dX7_sees_54 : decode cX7_sees 54 = .ok (.imul, 1) := by decide +kernel
theorem dX7_sees_55 : decode cX7_sees 55 = .ok (.iconst 1, 1) := by decide +kernel
theorem dX7_sees_56 : decode cX7_sees 56 = .ok (.iadd, 1) := by decide +kernel
theorem dX7_sees_57 : decode cX7_sees 57 = .ok (.iload_n 2, 1) := by decide +kernel
theorem dX7_sees_58 : decode cX7_sees 58 = .ok (.iastore, 1) := by decide +kernel
theorem dX7_sees_59 : decode cX7_sees 59 = .ok (.aload_n 0, 1) := by decide +kernel
theorem dX7_sees_60 : decode cX7_sees 60 = .ok (.dup, 1) := by decide +kernel
theorem dX7_sees_61 : decode cX7_sees 61 = .ok (.getfield 84, 3) := by decide +kernel
theorem dX7_sees_64 : decode cX7_sees 64 = .ok (.iconst 1, 1) := by decide +kernel
theorem dX7_sees_65 : decode cX7_sees 65 = .ok (.iadd, 1) := by decide +kernel
theorem dX7_sees_66 : decode cX7_sees 66 = .ok (.putfield 84, 3) := by decide +kernel
theorem dX7_sees_69 : decode cX7_sees 69 = .ok (.aload_n 0, 1) := by decide +kernel
theorem dX7_sees_70 : decode cX7_sees 70 = .ok (.getfield 84, 3) := by decide +kernel
theorem dX7_sees_73 : decode cX7_sees 73 = .ok (.ireturn, 1) := by decide +kernel
theorem dX7_forget_0 : decode cX7_forget 0 = .ok (.aload_n 0, 1) := by decide +kernel
theorem dX7_forget_1 : decode cX7_forget 1 = .ok (.getfield 84, 3) := by decide +kernel
theorem dX7_forget_4 : decode cX7_forget 4 = .ok (.istore_n 1, 1) := by decide +kernel
theorem dX7_forget_5 : decode cX7_forget 5 = .ok (.aload_n 0, 1) := by decide +kernel
theorem dX7_forget_6 : decode cX7_forget 6 = .ok (.iconst 0, 1) := by decide +kernel
theorem dX7_forget_7 : decode cX7_forget 7 = .ok (.putfield 84, 3) := by decide +kernel
theorem dX7_forget_10 : decode cX7_forget 10 = .ok (.iload_n 1, 1) := by decide +kernel
theorem dX7_forget_11 : decode cX7_forget 11 = .ok (.ireturn, 1) := by decide +kernel
theorem dX7_times_0 : decode cX7_times 0 = .ok (.iload_n 0, 1) := by decide +kernel
theorem dX7_times_1 : decode cX7_times 1 = .ok (.ifCond .ne 5, 3) := by decide +kernel
theorem dX7_times_4 : decode cX7_times 4 = .ok (.iload_n 1, 1) := by decide +kernel
theorem dX7_times_5 : decode cX7_times 5 = .ok (.ireturn, 1) := by decide +kernel
theorem dX7_times_6 : decode cX7_times 6 = .ok (.iload_n 0, 1) := by decide +kernel
theorem dX7_times_7 : decode cX7_times 7 = .ok (.iconst 4, 1) := by decide +kernel
theorem dX7_times_8 : decode cX7_times 8 = .ok (.if_icmp .ge 16, 3) := by decide +kernel
theorem dX7_times_11 : decode cX7_times 11 = .ok (.iload_n 1, 1) := by decide +kernel
theorem dX7_times_12 : decode cX7_times 12 = .ok (.iload_n 0, 1) := by decide +kernel
theorem dX7_times_13 : decode cX7_times 13 = .ok (.if_icmp .ne 7, 3) := by decide +kernel
theorem dX7_times_16 : decode cX7_times 16 = .ok (.iconst 1, 1) := by decide +kernel
theorem dX7_times_17 : decode cX7_times 17 = .ok (.goto 19, 3) := by decide +kernel
theorem dX7_times_20 : decode cX7_times 20 = .ok (.iconst 0, 1) := by decide +kernel
theorem dX7_times_21 : decode cX7_times 21 = .ok (.goto 15, 3) := by decide +kernel
theorem dX7_times_24 : decode cX7_times 24 = .ok (.iload_n 1, 1) := by decide +kernel
theorem dX7_times_25 : decode cX7_times 25 = .ok (.iload_n 0, 1) := by decide +kernel
theorem dX7_times_26 : decode cX7_times 26 = .ok (.iconst 3, 1) := by decide +kernel
theorem dX7_times_27 : decode cX7_times 27 = .ok (.isub, 1) := by decide +kernel
theorem dX7_times_28 : decode cX7_times 28 = .ok (.if_icmp .lt 7, 3) := by decide +kernel
theorem dX7_times_31 : decode cX7_times 31 = .ok (.iconst 1, 1) := by decide +kernel
theorem dX7_times_32 : decode cX7_times 32 = .ok (.goto 4, 3) := by decide +kernel
theorem dX7_times_35 : decode cX7_times 35 = .ok (.iconst 0, 1) := by decide +kernel
theorem dX7_times_36 : decode cX7_times 36 = .ok (.ireturn, 1) := by decide +kernel
theorem dX7_isCause_0 : decode cX7_isCause 0 = .ok (.iload_n 1, 1) := by decide +kernel
theorem dX7_isCause_1 : decode cX7_isCause 1 = .ok (.ifCond .eq 33, 3) := by decide +kernel
theorem dX7_isCause_4 : decode cX7_isCause 4 = .ok (.iload_n 1, 1) := by decide +kernel
theorem dX7_isCause_5 : decode cX7_isCause 5 = .ok (.iconst 1, 1) := by decide +kernel
theorem dX7_isCause_6 : decode cX7_isCause 6 = .ok (.aload_n 0, 1) := by decide +kernel
theorem dX7_isCause_7 : decode cX7_isCause 7 = .ok (.getfield 75, 3) := by decide +kernel
theorem dX7_isCause_10 : decode cX7_isCause 10 = .ok (.iconst 1, 1) := by decide +kernel
theorem dX7_isCause_11 : decode cX7_isCause 11 = .ok (.isub, 1) := by decide +kernel
theorem dX7_isCause_12 : decode cX7_isCause 12 = .ok (.invokestatic 96, 3) := by decide +kernel
theorem dX7_isCause_15 : decode cX7_isCause 15 = .ok (.ifCond .ne 19, 3) := by decide +kernel
theorem dX7_isCause_18 : decode cX7_isCause 18 = .ok (.iload_n 1, 1) := by decide +kernel
theorem dX7_isCause_19 : decode cX7_isCause 19 = .ok (.iconst 3, 1) := by decide +kernel
theorem dX7_isCause_20 : decode cX7_isCause 20 = .ok (.isub, 1) := by decide +kernel
theorem dX7_isCause_21 : decode cX7_isCause 21 = .ok (.iconst 1, 1) := by decide +kernel
theorem dX7_isCause_22 : decode cX7_isCause 22 = .ok (.aload_n 0, 1) := by decide +kernel
theorem dX7_isCause_23 : decode cX7_isCause 23 = .ok (.getfield 75, 3) := by decide +kernel
theorem dX7_isCause_26 : decode cX7_isCause 26 = .ok (.iconst 1, 1) := by decide +kernel
theorem dX7_isCause_27 : decode cX7_isCause 27 = .ok (.isub, 1) := by decide +kernel
theorem dX7_isCause_28 : decode cX7_isCause 28 = .ok (.invokestatic 96, 3) := by decide +kernel
theorem dX7_isCause_31 : decode cX7_isCause 31 = .ok (.ifCond .eq 7, 3) := by decide +kernel
theorem dX7_isCause_34 : decode cX7_isCause 34 = .ok (.iconst 1, 1) := by decide +kernel
theorem dX7_isCause_35 : decode cX7_isCause 35 = .ok (.goto 4, 3) := by decide +kernel
theorem dX7_isCause_38 : decode cX7_isCause 38 = .ok (.iconst 0, 1) := by decide +kernel
theorem dX7_isCause_39 : decode cX7_isCause 39 = .ok (.ireturn, 1) := by decide +kernel
theorem dX7_isSo_0 : decode cX7_isSo 0 = .ok (.bipush (-20), 2) := by decide +kernel
theorem dX7_isSo_2 : decode cX7_isSo 2 = .ok (.istore_n 2, 1) := by decide +kernel
theorem dX7_isSo_3 : decode cX7_isSo 3 = .ok (.iload_n 2, 1) := by decide +kernel
theorem dX7_isSo_4 : decode cX7_isSo 4 = .ok (.bipush 20, 2) := by decide +kernel
theorem dX7_isSo_6 : decode cX7_isSo 6 = .ok (.if_icmp .gt 82, 3) := by decide +kernel
theorem dX7_isSo_9 : decode cX7_isSo 9 = .ok (.iload_n 2, 1) := by decide +kernel
theorem dX7_isSo_10 : decode cX7_isSo 10 = .ok (.ifCond .eq 7, 3) := by decide +kernel
theorem dX7_isSo_13 : decode cX7_isSo 13 = .ok (.iconst 1, 1) := by decide +kernel
theorem dX7_isSo_14 : decode cX7_isSo 14 = .ok (.goto 4, 3) := by decide +kernel
theorem dX7_isSo_17 : decode cX7_isSo 17 = .ok (.iconst 0, 1) := by decide +kernel
theorem dX7_isSo_18 : decode cX7_isSo 18 = .ok (.istore_n 3, 1) := by decide +kernel
theorem dX7_isSo_19 : decode cX7_isSo 19 = .ok (.iconst 0, 1) := by decide +kernel
theorem dX7_isSo_20 : decode cX7_isSo 20 = .ok (.istore 4, 2) := by decide +kernel
theorem dX7_isSo_22 : decode cX7_isSo 22 = .ok (.iload 4, 2) := by decide +kernel
theorem dX7_isSo_24 : decode cX7_isSo 24 = .ok (.aload_n 0, 1) := by decide +kernel
theorem dX7_isSo_25 : decode cX7_isSo 25 = .ok (.getfield 84, 3) := by decide +kernel
theorem dX7_isSo_28 : decode cX7_isSo 28 = .ok (.if_icmp .ge 48, 3) := by decide +kernel
theorem dX7_isSo_31 : decode cX7_isSo 31 = .ok (.iload_n 3, 1) := by decide +kernel
theorem dX7_isSo_32 : decode cX7_isSo 32 = .ok (.ifCond .eq 44, 3) := by decide +kernel
theorem dX7_isSo_35 : decode cX7_isSo 35 = .ok (.iload_n 1, 1) := by decide +kernel
theorem dX7_isSo_36 : decode cX7_isSo 36 = .ok (.aload_n 0, 1) := by decide +kernel
theorem dX7_isSo_37 : decode cX7_isSo 37 = .ok (.getfield 29, 3) := by decide +kernel
theorem dX7_isSo_40 : decode cX7_isSo 40 = .ok (.iconst 2, 1) := by decide +kernel
theorem dX7_isSo_41 : decode cX7_isSo 41 = .ok (.iload 4, 2) := by decide +kernel
theorem dX7_isSo_43 : decode cX7_isSo 43 = .ok (.imul, 1) := by decide +kernel
theorem dX7_isSo_44 : decode cX7_isSo 44 = .ok (.iaload, 1) := by decide +kernel
theorem dX7_isSo_45 : decode cX7_isSo 45 = .ok (.invokestatic 204, 3) := by decide +kernel
theorem dX7_isSo_48 : decode cX7_isSo 48 = .ok (.iload_n 2, 1) := by decide +kernel
theorem dX7_isSo_49 : decode cX7_isSo 49 = .ok (.imul, 1) := by decide +kernel
theorem dX7_isSo_50 : decode cX7_isSo 50 = .ok (.aload_n 0, 1) := by decide +kernel
theorem dX7_isSo_51 : decode cX7_isSo 51 = .ok (.getfield 29, 3) := by decide +kernel
theorem dX7_isSo_54 : decode cX7_isSo 54 = .ok (.iconst 2, 1) := by decide +kernel
theorem dX7_isSo_55 : decode cX7_isSo 55 = .ok (.iload 4, 2) := by decide +kernel
theorem dX7_isSo_57 : decode cX7_isSo 57 = .ok (.imul, 1) := by decide +kernel
theorem dX7_isSo_58 : decode cX7_isSo 58 = .ok (.iconst 1, 1) := by decide +kernel
theorem dX7_isSo_59 : decode cX7_isSo 59 = .ok (.iadd, 1) := by decide +kernel
theorem dX7_isSo_60 : decode cX7_isSo 60 = .ok (.iaload, 1) := by decide +kernel
theorem dX7_isSo_61 : decode cX7_isSo 61 = .ok (.if_icmp .ne 7, 3) := by decide +kernel
theorem dX7_isSo_64 : decode cX7_isSo 64 = .ok (.iconst 1, 1) := by decide +kernel
theorem dX7_isSo_65 : decode cX7_isSo 65 = .ok (.goto 4, 3) := by decide +kernel
theorem dX7_isSo_68 : decode cX7_isSo 68 = .ok (.iconst 0, 1) := by decide +kernel
theorem dX7_isSo_69 : decode cX7_isSo 69 = .ok (.istore_n 3, 1) := by decide +kernel
theorem dX7_isSo_70 : decode cX7_isSo 70 = .ok (.iinc 4 1, 3) := by decide +kernel
theorem dX7_isSo_73 : decode cX7_isSo 73 = .ok (.goto (-51), 3) := by decide +kernel
theorem dX7_isSo_76 : decode cX7_isSo 76 = .ok (.iload_n 3, 1) := by decide +kernel
theorem dX7_isSo_77 : decode cX7_isSo 77 = .ok (.ifCond .eq 5, 3) := by decide +kernel
theorem dX7_isSo_80 : decode cX7_isSo 80 = .ok (.iconst 1, 1) := by decide +kernel
theorem dX7_isSo_81 : decode cX7_isSo 81 = .ok (.ireturn, 1) := by decide +kernel
theorem dX7_isSo_82 : decode cX7_isSo 82 = .ok (.iinc 2 1, 3) := by decide +kernel
theorem dX7_isSo_85 : decode cX7_isSo 85 = .ok (.goto (-82), 3) := by decide +kernel
theorem dX7_isSo_88 : decode cX7_isSo 88 = .ok (.iconst 0, 1) := by decide +kernel
theorem dX7_isSo_89 : decode cX7_isSo 89 = .ok (.ireturn, 1) := by decide +kernel
theorem dX7_causes_0 : decode cX7_causes 0 = .ok (.iconst 0, 1) := by decide +kernel
theorem dX7_causes_1 : decode cX7_causes 1 = .ok (.istore_n 1, 1) := by decide +kernel
theorem dX7_causes_2 : decode cX7_causes 2 = .ok (.iconst 0, 1) := by decide +kernel
theorem dX7_causes_3 : decode cX7_causes 3 = .ok (.istore_n 2, 1) := by decide +kernel
theorem dX7_causes_4 : decode cX7_causes 4 = .ok (.iload_n 2, 1) := by decide +kernel
theorem dX7_causes_5 : decode cX7_causes 5 = .ok (.bipush 7, 2) := by decide +kernel
theorem dX7_causes_7 : decode cX7_causes 7 = .ok (.if_icmp .ge 35, 3) := by decide +kernel
theorem dX7_causes_10 : decode cX7_causes 10 = .ok (.iload_n 1, 1) := by decide +kernel
theorem dX7_causes_11 : decode cX7_causes 11 = .ok (.aload_n 0, 1) := by decide +kernel
theorem dX7_causes_12 : decode cX7_causes 12 = .ok (.iload_n 2, 1) := by decide +kernel
theorem dX7_causes_13 : decode cX7_causes 13 = .ok (.invokevirtual 207, 3) := by decide +kernel
theorem dX7_causes_16 : decode cX7_causes 16 = .ok (.ifCond .eq 17, 3) := by decide +kernel
theorem dX7_causes_19 : decode cX7_causes 19 = .ok (.aload_n 0, 1) := by decide +kernel
theorem dX7_causes_20 : decode cX7_causes 20 = .ok (.iload_n 2, 1) := by decide +kernel
theorem dX7_causes_21 : decode cX7_causes 21 = .ok (.invokevirtual 210, 3) := by decide +kernel
theorem dX7_causes_24 : decode cX7_causes 24 = .ok (.ifCond .eq 9, 3) := by decide +kernel
theorem dX7_causes_27 : decode cX7_causes 27 = .ok (.iconst 1, 1) := by decide +kernel
theorem dX7_causes_28 : decode cX7_causes 28 = .ok (.iload_n 2, 1) := by decide +kernel
theorem dX7_causes_29 : decode cX7_causes 29 = .ok (.ishl, 1) := by decide +kernel
theorem dX7_causes_30 : decode cX7_causes 30 = .ok (.goto 4, 3) := by decide +kernel
theorem dX7_causes_33 : decode cX7_causes 33 = .ok (.iconst 0, 1) := by decide +kernel
theorem dX7_causes_34 : decode cX7_causes 34 = .ok (.ior, 1) := by decide +kernel
theorem dX7_causes_35 : decode cX7_causes 35 = .ok (.istore_n 1, 1) := by decide +kernel
theorem dX7_causes_36 : decode cX7_causes 36 = .ok (.iinc 2 1, 3) := by decide +kernel
theorem dX7_causes_39 : decode cX7_causes 39 = .ok (.goto (-35), 3) := by decide +kernel
theorem dX7_causes_42 : decode cX7_causes 42 = .ok (.iload_n 1, 1) := by decide +kernel
theorem dX7_causes_43 : decode cX7_causes 43 = .ok (.ireturn, 1) := by decide +kernel
theorem dX7_which_0 : decode cX7_which 0 = .ok (.aload_n 0, 1) := by decide +kernel
theorem dX7_which_1 : decode cX7_which 1 = .ok (.invokevirtual 213, 3) := by decide +kernel
theorem dX7_which_4 : decode cX7_which 4 = .ok (.ireturn, 1) := by decide +kernel
theorem dX7_look_0 : decode cX7_look 0 = .ok (.aload_n 0, 1) := by decide +kernel
theorem dX7_look_1 : decode cX7_look 1 = .ok (.invokevirtual 213, 3) := by decide +kernel
theorem dX7_look_4 : decode cX7_look 4 = .ok (.istore_n 1, 1) := by decide +kernel
theorem dX7_look_5 : decode cX7_look 5 = .ok (.iload_n 1, 1) := by decide +kernel
theorem dX7_look_6 : decode cX7_look 6 = .ok (.iload_n 1, 1) := by decide +kernel
theorem dX7_look_7 : decode cX7_look 7 = .ok (.iconst 1, 1) := by decide +kernel
theorem dX7_look_8 : decode cX7_look 8 = .ok (.isub, 1) := by decide +kernel
theorem dX7_look_9 : decode cX7_look 9 = .ok (.iand, 1) := by decide +kernel
theorem dX7_look_10 : decode cX7_look 10 = .ok (.ifCond .ne 6, 3) := by decide +kernel
theorem dX7_look_13 : decode cX7_look 13 = .ok (.bipush (-9), 2) := by decide +kernel
theorem dX7_look_15 : decode cX7_look 15 = .ok (.ireturn, 1) := by decide +kernel
theorem dX7_look_16 : decode cX7_look 16 = .ok (.bipush (-9), 2) := by decide +kernel
theorem dX7_look_18 : decode cX7_look 18 = .ok (.istore_n 2, 1) := by decide +kernel
theorem dX7_look_19 : decode cX7_look 19 = .ok (.bipush 8, 2) := by decide +kernel
theorem dX7_look_21 : decode cX7_look 21 = .ok (.istore_n 3, 1) := by decide +kernel
theorem dX7_look_22 : decode cX7_look 22 = .ok (.iconst 1, 1) := by decide +kernel
theorem dX7_look_23 : decode cX7_look 23 = .ok (.istore 4, 2) := by decide +kernel
theorem dX7_look_25 : decode cX7_look 25 = .ok (.iload 4, 2) := by decide +kernel
theorem dX7_look_27 : decode cX7_look 27 = .ok (.aload_n 0, 1) := by decide +kernel
theorem dX7_look_28 : decode cX7_look 28 = .ok (.getfield 75, 3) := by decide +kernel
theorem dX7_look_31 : decode cX7_look 31 = .ok (.if_icmp .ge 123, 3) := by decide +kernel
theorem dX7_look_34 : decode cX7_look 34 = .ok (.iconst 0, 1) := by decide +kernel
theorem dX7_look_35 : decode cX7_look 35 = .ok (.istore 5, 2) := by decide +kernel
theorem dX7_look_37 : decode cX7_look 37 = .ok (.iconst 0, 1) := by decide +kernel
theorem dX7_look_38 : decode cX7_look 38 = .ok (.istore 6, 2) := by decide +kernel
theorem dX7_look_40 : decode cX7_look 40 = .ok (.iconst 0, 1) := by decide +kernel
theorem dX7_look_41 : decode cX7_look 41 = .ok (.istore 7, 2) := by decide +kernel
theorem dX7_look_43 : decode cX7_look 43 = .ok (.iload 7, 2) := by decide +kernel
theorem dX7_look_45 : decode cX7_look 45 = .ok (.bipush 7, 2) := by decide +kernel
theorem dX7_look_47 : decode cX7_look 47 = .ok (.if_icmp .ge 59, 3) := by decide +kernel
theorem dX7_look_50 : decode cX7_look 50 = .ok (.iload_n 1, 1) := by decide +kernel
theorem dX7_look_51 : decode cX7_look 51 = .ok (.iload 7, 2) := by decide +kernel
theorem dX7_look_53 : decode cX7_look 53 = .ok (.ishr, 1) := by decide +kernel
theorem dX7_look_54 : decode cX7_look 54 = .ok (.iconst 1, 1) := by decide +kernel
theorem dX7_look_55 : decode cX7_look 55 = .ok (.iand, 1) := by decide +kernel
theorem dX7_look_56 : decode cX7_look 56 = .ok (.iconst 1, 1) := by decide +kernel
theorem dX7_look_57 : decode cX7_look 57 = .ok (.if_icmp .ne 43, 3) := by decide +kernel
theorem dX7_look_60 : decode cX7_look 60 = .ok (.iload 5, 2) := by decide +kernel
theorem dX7_look_62 : decode cX7_look 62 = .ok (.iload 7, 2) := by decide +kernel
theorem dX7_look_64 : decode cX7_look 64 = .ok (.iload 4, 2) := by decide +kernel
theorem dX7_look_66 : decode cX7_look 66 = .ok (.invokestatic 204, 3) := by decide +kernel
theorem dX7_look_69 : decode cX7_look 69 = .ok (.ifCond .ne 7, 3) := by decide +kernel
theorem dX7_look_72 : decode cX7_look 72 = .ok (.iconst 1, 1) := by decide +kernel
theorem dX7_look_73 : decode cX7_look 73 = .ok (.goto 4, 3) := by decide +kernel
theorem dX7_look_76 : decode cX7_look 76 = .ok (.iconst 0, 1) := by decide +kernel
theorem dX7_look_77 : decode cX7_look 77 = .ok (.iadd, 1) := by decide +kernel
theorem dX7_look_78 : decode cX7_look 78 = .ok (.istore 5, 2) := by decide +kernel
theorem dX7_look_80 : decode cX7_look 80 = .ok (.iload 6, 2) := by decide +kernel
theorem dX7_look_82 : decode cX7_look 82 = .ok (.iload 7, 2) := by decide +kernel
theorem dX7_look_84 : decode cX7_look 84 = .ok (.iload 4, 2) := by decide +kernel
theorem dX7_look_86 : decode cX7_look 86 = .ok (.invokestatic 204, 3) := by decide +kernel
theorem dX7_look_89 : decode cX7_look 89 = .ok (.ifCond .ne 7, 3) := by decide +kernel
theorem dX7_look_92 : decode cX7_look 92 = .ok (.iconst 0, 1) := by decide +kernel
theorem dX7_look_93 : decode cX7_look 93 = .ok (.goto 4, 3) := by decide +kernel
theorem dX7_look_96 : decode cX7_look 96 = .ok (.iconst 1, 1) := by decide +kernel
theorem dX7_look_97 : decode cX7_look 97 = .ok (.iadd, 1) := by decide +kernel
theorem dX7_look_98 : decode cX7_look 98 = .ok (.istore 6, 2) := by decide +kernel
theorem dX7_look_100 : decode cX7_look 100 = .ok (.iinc 7 1, 3) := by decide +kernel
theorem dX7_look_103 : decode cX7_look 103 = .ok (.goto (-60), 3) := by decide +kernel
theorem dX7_look_106 : decode cX7_look 106 = .ok (.iload 5, 2) := by decide +kernel
theorem dX7_look_108 : decode cX7_look 108 = .ok (.iload 6, 2) := by decide +kernel
theorem dX7_look_110 : decode cX7_look 110 = .ok (.if_icmp .le 8, 3) := by decide +kernel
theorem dX7_look_113 : decode cX7_look 113 = .ok (.iload 5, 2) := by decide +kernel
theorem dX7_look_115 : decode cX7_look 115 = .ok (.goto 5, 3) := by decide +kernel
theorem dX7_look_118 : decode cX7_look 118 = .ok (.iload 6, 2) := by decide +kernel
theorem dX7_look_120 : decode cX7_look 120 = .ok (.istore 7, 2) := by decide +kernel
theorem dX7_look_122 : decode cX7_look 122 = .ok (.iload 7, 2) := by decide +kernel
theorem dX7_look_124 : decode cX7_look 124 = .ok (.iload_n 3, 1) := by decide +kernel
theorem dX7_look_125 : decode cX7_look 125 = .ok (.if_icmp .ge 8, 3) := by decide +kernel
theorem dX7_look_128 : decode cX7_look 128 = .ok (.iload 4, 2) := by decide +kernel
theorem dX7_look_130 : decode cX7_look 130 = .ok (.goto 4, 3) := by decide +kernel
theorem dX7_look_133 : decode cX7_look 133 = .ok (.iload_n 2, 1) := by decide +kernel
theorem dX7_look_134 : decode cX7_look 134 = .ok (.istore_n 2, 1) := by decide +kernel
theorem dX7_look_135 : decode cX7_look 135 = .ok (.iload 7, 2) := by decide +kernel
theorem dX7_look_137 : decode cX7_look 137 = .ok (.iload_n 3, 1) := by decide +kernel
theorem dX7_look_138 : decode cX7_look 138 = .ok (.if_icmp .ge 8, 3) := by decide +kernel
theorem dX7_look_141 : decode cX7_look 141 = .ok (.iload 7, 2) := by decide +kernel
theorem dX7_look_143 : decode cX7_look 143 = .ok (.goto 4, 3) := by decide +kernel
theorem dX7_look_146 : decode cX7_look 146 = .ok (.iload_n 3, 1) := by decide +kernel
theorem dX7_look_147 : decode cX7_look 147 = .ok (.istore_n 3, 1) := by decide +kernel
theorem dX7_look_148 : decode cX7_look 148 = .ok (.iinc 4 1, 3) := by decide +kernel
theorem dX7_look_151 : decode cX7_look 151 = .ok (.goto (-126), 3) := by decide +kernel
theorem dX7_look_154 : decode cX7_look 154 = .ok (.iload_n 2, 1) := by decide +kernel
theorem dX7_look_155 : decode cX7_look 155 = .ok (.ireturn, 1) := by decide +kernel
theorem dX7_keep_0 : decode cX7_keep 0 = .ok (.iload_n 1, 1) := by decide +kernel
theorem dX7_keep_1 : decode cX7_keep 1 = .ok (.iconst 0, 1) := by decide +kernel
theorem dX7_keep_2 : decode cX7_keep 2 = .ok (.iconst 1, 1) := by decide +kernel
theorem dX7_keep_3 : decode cX7_keep 3 = .ok (.invokestatic 96, 3) := by decide +kernel
theorem dX7_keep_6 : decode cX7_keep 6 = .ok (.ifCond .ne 5, 3) := by decide +kernel
theorem dX7_keep_9 : decode cX7_keep 9 = .ok (.iconst (-1), 1) := by decide +kernel
theorem dX7_keep_10 : decode cX7_keep 10 = .ok (.ireturn, 1) := by decide +kernel
theorem dX7_keep_11 : decode cX7_keep 11 = .ok (.iconst 0, 1) := by decide +kernel
theorem dX7_keep_12 : decode cX7_keep 12 = .ok (.istore_n 2, 1) := by decide +kernel
theorem dX7_keep_13 : decode cX7_keep 13 = .ok (.iload_n 2, 1) := by decide +kernel
theorem dX7_keep_14 : decode cX7_keep 14 = .ok (.sipush 349, 3) := by decide +kernel
theorem dX7_keep_17 : decode cX7_keep 17 = .ok (.if_icmp .ge 27, 3) := by decide +kernel
theorem dX7_keep_20 : decode cX7_keep 20 = .ok (.aload_n 0, 1) := by decide +kernel
theorem dX7_keep_21 : decode cX7_keep 21 = .ok (.getfield 19, 3) := by decide +kernel
theorem dX7_keep_24 : decode cX7_keep 24 = .ok (.sipush 349, 3) := by decide +kernel
theorem dX7_keep_27 : decode cX7_keep 27 = .ok (.iload_n 1, 1) := by decide +kernel
theorem dX7_keep_28 : decode cX7_keep 28 = .ok (.imul, 1) := by decide +kernel
theorem dX7_keep_29 : decode cX7_keep 29 = .ok (.iload_n 2, 1) := by decide +kernel
theorem dX7_keep_30 : decode cX7_keep 30 = .ok (.iadd, 1) := by decide +kernel
theorem dX7_keep_31 : decode cX7_keep 31 = .ok (.aload_n 0, 1) := by decide +kernel
theorem dX7_keep_32 : decode cX7_keep 32 = .ok (.getfield 7, 3) := by decide +kernel
theorem dX7_keep_35 : decode cX7_keep 35 = .ok (.iload_n 2, 1) := by decide +kernel
theorem dX7_keep_36 : decode cX7_keep 36 = .ok (.iaload, 1) := by decide +kernel
theorem dX7_keep_37 : decode cX7_keep 37 = .ok (.iastore, 1) := by decide +kernel
theorem dX7_keep_38 : decode cX7_keep 38 = .ok (.iinc 2 1, 3) := by decide +kernel
theorem dX7_keep_41 : decode cX7_keep 41 = .ok (.goto (-28), 3) := by decide +kernel
theorem dX7_keep_44 : decode cX7_keep 44 = .ok (.aload_n 0, 1) := by decide +kernel
theorem dX7_keep_45 : decode cX7_keep 45 = .ok (.getfield 22, 3) := by decide +kernel
theorem dX7_keep_48 : decode cX7_keep 48 = .ok (.iload_n 1, 1) := by decide +kernel
theorem dX7_keep_49 : decode cX7_keep 49 = .ok (.iconst 1, 1) := by decide +kernel
theorem dX7_keep_50 : decode cX7_keep 50 = .ok (.bastore, 1) := by decide +kernel
theorem dX7_keep_51 : decode cX7_keep 51 = .ok (.aload_n 0, 1) := by decide +kernel
theorem dX7_keep_52 : decode cX7_keep 52 = .ok (.getfield 7, 3) := by decide +kernel
theorem dX7_keep_55 : decode cX7_keep 55 = .ok (.iconst 5, 1) := by decide +kernel
theorem dX7_keep_56 : decode cX7_keep 56 = .ok (.iaload, 1) := by decide +kernel
theorem dX7_keep_57 : decode cX7_keep 57 = .ok (.ireturn, 1) := by decide +kernel
theorem dX7_back_0 : decode cX7_back 0 = .ok (.iload_n 1, 1) := by decide +kernel
theorem dX7_back_1 : decode cX7_back 1 = .ok (.iconst 0, 1) := by decide +kernel
theorem dX7_back_2 : decode cX7_back 2 = .ok (.iconst 1, 1) := by decide +kernel
theorem dX7_back_3 : decode cX7_back 3 = .ok (.invokestatic 96, 3) := by decide +kernel
theorem dX7_back_6 : decode cX7_back 6 = .ok (.ifCond .ne 5, 3) := by decide +kernel
theorem dX7_back_9 : decode cX7_back 9 = .ok (.iconst (-1), 1) := by decide +kernel
theorem dX7_back_10 : decode cX7_back 10 = .ok (.ireturn, 1) := by decide +kernel
theorem dX7_back_11 : decode cX7_back 11 = .ok (.aload_n 0, 1) := by decide +kernel
theorem dX7_back_12 : decode cX7_back 12 = .ok (.getfield 22, 3) := by decide +kernel
theorem dX7_back_15 : decode cX7_back 15 = .ok (.iload_n 1, 1) := by decide +kernel
theorem dX7_back_16 : decode cX7_back 16 = .ok (.baload, 1) := by decide +kernel
theorem dX7_back_17 : decode cX7_back 17 = .ok (.ifCond .ne 6, 3) := by decide +kernel
theorem dX7_back_20 : decode cX7_back 20 = .ok (.bipush (-2), 2) := by decide +kernel
theorem dX7_back_22 : decode cX7_back 22 = .ok (.ireturn, 1) := by decide +kernel
theorem dX7_back_23 : decode cX7_back 23 = .ok (.iconst 0, 1) := by decide +kernel
theorem dX7_back_24 : decode cX7_back 24 = .ok (.istore_n 2, 1) := by decide +kernel
theorem dX7_back_25 : decode cX7_back 25 = .ok (.iload_n 2, 1) := by decide +kernel
theorem dX7_back_26 : decode cX7_back 26 = .ok (.sipush 349, 3) := by decide +kernel
theorem dX7_back_29 : decode cX7_back 29 = .ok (.if_icmp .ge 27, 3) := by decide +kernel
theorem dX7_back_32 : decode cX7_back 32 = .ok (.aload_n 0, 1) := by decide +kernel
theorem dX7_back_33 : decode cX7_back 33 = .ok (.getfield 7, 3) := by decide +kernel
theorem dX7_back_36 : decode cX7_back 36 = .ok (.iload_n 2, 1) := by decide +kernel
theorem dX7_back_37 : decode cX7_back 37 = .ok (.aload_n 0, 1) := by decide +kernel
theorem dX7_back_38 : decode cX7_back 38 = .ok (.getfield 19, 3) := by decide +kernel
theorem dX7_back_41 : decode cX7_back 41 = .ok (.sipush 349, 3) := by decide +kernel
theorem dX7_back_44 : decode cX7_back 44 = .ok (.iload_n 1, 1) := by decide +kernel
theorem dX7_back_45 : decode cX7_back 45 = .ok (.imul, 1) := by decide +kernel
theorem dX7_back_46 : decode cX7_back 46 = .ok (.iload_n 2, 1) := by decide +kernel
theorem dX7_back_47 : decode cX7_back 47 = .ok (.iadd, 1) := by decide +kernel
theorem dX7_back_48 : decode cX7_back 48 = .ok (.iaload, 1) := by decide +kernel
theorem dX7_back_49 : decode cX7_back 49 = .ok (.iastore, 1) := by decide +kernel
theorem dX7_back_50 : decode cX7_back 50 = .ok (.iinc 2 1, 3) := by decide +kernel
theorem dX7_back_53 : decode cX7_back 53 = .ok (.goto (-28), 3) := by decide +kernel
theorem dX7_back_56 : decode cX7_back 56 = .ok (.aload_n 0, 1) := by decide +kernel
theorem dX7_back_57 : decode cX7_back 57 = .ok (.iconst 0, 1) := by decide +kernel
theorem dX7_back_58 : decode cX7_back 58 = .ok (.putfield 81, 3) := by decide +kernel
theorem dX7_back_61 : decode cX7_back 61 = .ok (.aload_n 0, 1) := by decide +kernel
theorem dX7_back_62 : decode cX7_back 62 = .ok (.getfield 7, 3) := by decide +kernel
theorem dX7_back_65 : decode cX7_back 65 = .ok (.iconst 5, 1) := by decide +kernel
theorem dX7_back_66 : decode cX7_back 66 = .ok (.iaload, 1) := by decide +kernel
theorem dX7_back_67 : decode cX7_back 67 = .ok (.ireturn, 1) := by decide +kernel
theorem dX7_underWay_0 : decode cX7_underWay 0 = .ok (.iconst 0, 1) := by decide +kernel
theorem dX7_underWay_1 : decode cX7_underWay 1 = .ok (.istore_n 1, 1) := by decide +kernel
theorem dX7_underWay_2 : decode cX7_underWay 2 = .ok (.iconst 0, 1) := by decide +kernel
theorem dX7_underWay_3 : decode cX7_underWay 3 = .ok (.istore_n 2, 1) := by decide +kernel
theorem dX7_underWay_4 : decode cX7_underWay 4 = .ok (.iload_n 2, 1) := by decide +kernel
theorem dX7_underWay_5 : decode cX7_underWay 5 = .ok (.bipush 32, 2) := by decide +kernel
theorem dX7_underWay_7 : decode cX7_underWay 7 = .ok (.if_icmp .ge 21, 3) := by decide +kernel
theorem dX7_underWay_10 : decode cX7_underWay 10 = .ok (.iload_n 1, 1) := by decide +kernel
theorem dX7_underWay_11 : decode cX7_underWay 11 = .ok (.aload_n 0, 1) := by decide +kernel
theorem dX7_underWay_12 : decode cX7_underWay 12 = .ok (.getfield 7, 3) := by decide +kernel
theorem dX7_underWay_15 : decode cX7_underWay 15 = .ok (.iload_n 2, 1) := by decide +kernel
theorem dX7_underWay_16 : decode cX7_underWay 16 = .ok (.invokestatic 134, 3) := by decide +kernel
theorem dX7_underWay_19 : decode cX7_underWay 19 = .ok (.iaload, 1) := by decide +kernel
theorem dX7_underWay_20 : decode cX7_underWay 20 = .ok (.iadd, 1) := by decide +kernel
theorem dX7_underWay_21 : decode cX7_underWay 21 = .ok (.istore_n 1, 1) := by decide +kernel
theorem dX7_underWay_22 : decode cX7_underWay 22 = .ok (.iinc 2 1, 3) := by decide +kernel
theorem dX7_underWay_25 : decode cX7_underWay 25 = .ok (.goto (-21), 3) := by decide +kernel
theorem dX7_underWay_28 : decode cX7_underWay 28 = .ok (.iload_n 1, 1) := by decide +kernel
theorem dX7_underWay_29 : decode cX7_underWay 29 = .ok (.ireturn, 1) := by decide +kernel
theorem dX7_count_0 : decode cX7_count 0 = .ok (.iload_n 1, 1) := by decide +kernel
theorem dX7_count_1 : decode cX7_count 1 = .ok (.tableswitch 221 0 19 #[95, 100, 105, 112, 120, 128, 136, 141, 162, 167, 174, 181, 188, 196, 196, 196, 196, 206, 211, 216], 95) := by decide +kernel
theorem dX7_count_96 : decode cX7_count 96 = .ok (.aload_n 0, 1) := by decide +kernel
theorem dX7_count_97 : decode cX7_count 97 = .ok (.getfield 75, 3) := by decide +kernel
theorem dX7_count_100 : decode cX7_count 100 = .ok (.ireturn, 1) := by decide +kernel
theorem dX7_count_101 : decode cX7_count 101 = .ok (.aload_n 0, 1) := by decide +kernel
theorem dX7_count_102 : decode cX7_count 102 = .ok (.getfield 78, 3) := by decide +kernel
theorem dX7_count_105 : decode cX7_count 105 = .ok (.ireturn, 1) := by decide +kernel
theorem dX7_count_106 : decode cX7_count 106 = .ok (.aload_n 0, 1) := by decide +kernel
theorem dX7_count_107 : decode cX7_count 107 = .ok (.getfield 7, 3) := by decide +kernel
theorem dX7_count_110 : decode cX7_count 110 = .ok (.iconst 5, 1) := by decide +kernel
theorem dX7_count_111 : decode cX7_count 111 = .ok (.iaload, 1) := by decide +kernel
theorem dX7_count_112 : decode cX7_count 112 = .ok (.ireturn, 1) := by decide +kernel
theorem dX7_count_113 : decode cX7_count 113 = .ok (.aload_n 0, 1) := by decide +kernel
theorem dX7_count_114 : decode cX7_count 114 = .ok (.getfield 7, 3) := by decide +kernel
theorem dX7_count_117 : decode cX7_count 117 = .ok (.bipush 6, 2) := by decide +kernel
theorem dX7_count_119 : decode cX7_count 119 = .ok (.iaload, 1) := by decide +kernel
theorem dX7_count_120 : decode cX7_count 120 = .ok (.ireturn, 1) := by decide +kernel
theorem dX7_count_121 : decode cX7_count 121 = .ok (.aload_n 0, 1) := by decide +kernel
theorem dX7_count_122 : decode cX7_count 122 = .ok (.getfield 7, 3) := by decide +kernel
theorem dX7_count_125 : decode cX7_count 125 = .ok (.bipush 7, 2) := by decide +kernel
theorem dX7_count_127 : decode cX7_count 127 = .ok (.iaload, 1) := by decide +kernel
theorem dX7_count_128 : decode cX7_count 128 = .ok (.ireturn, 1) := by decide +kernel
theorem dX7_count_129 : decode cX7_count 129 = .ok (.aload_n 0, 1) := by decide +kernel
theorem dX7_count_130 : decode cX7_count 130 = .ok (.getfield 7, 3) := by decide +kernel
theorem dX7_count_133 : decode cX7_count 133 = .ok (.bipush 8, 2) := by decide +kernel
theorem dX7_count_135 : decode cX7_count 135 = .ok (.iaload, 1) := by decide +kernel
theorem dX7_count_136 : decode cX7_count 136 = .ok (.ireturn, 1) := by decide +kernel
theorem dX7_count_137 : decode cX7_count 137 = .ok (.aload_n 0, 1) := by decide +kernel
theorem dX7_count_138 : decode cX7_count 138 = .ok (.invokevirtual 216, 3) := by decide +kernel
theorem dX7_count_141 : decode cX7_count 141 = .ok (.ireturn, 1) := by decide +kernel
theorem dX7_count_142 : decode cX7_count 142 = .ok (.aload_n 0, 1) := by decide +kernel
theorem dX7_count_143 : decode cX7_count 143 = .ok (.getfield 7, 3) := by decide +kernel
theorem dX7_count_146 : decode cX7_count 146 = .ok (.iconst 1, 1) := by decide +kernel
theorem dX7_count_147 : decode cX7_count 147 = .ok (.iaload, 1) := by decide +kernel
theorem dX7_count_148 : decode cX7_count 148 = .ok (.ifCond .ge 8, 3) := by decide +kernel
theorem dX7_count_151 : decode cX7_count 151 = .ok (.bipush (-9), 2) := by decide +kernel
theorem dX7_count_153 : decode cX7_count 153 = .ok (.goto 9, 3) := by decide +kernel
theorem dX7_count_156 : decode cX7_count 156 = .ok (.aload_n 0, 1) := by decide +kernel
theorem dX7_count_157 : decode cX7_count 157 = .ok (.getfield 7, 3) := by decide +kernel
theorem dX7_count_160 : decode cX7_count 160 = .ok (.iconst 1, 1) := by decide +kernel
theorem dX7_count_161 : decode cX7_count 161 = .ok (.iaload, 1) := by decide +kernel
theorem dX7_count_162 : decode cX7_count 162 = .ok (.ireturn, 1) := by decide +kernel
theorem dX7_count_163 : decode cX7_count 163 = .ok (.aload_n 0, 1) := by decide +kernel
theorem dX7_count_164 : decode cX7_count 164 = .ok (.invokevirtual 158, 3) := by decide +kernel
theorem dX7_count_167 : decode cX7_count 167 = .ok (.ireturn, 1) := by decide +kernel
theorem dX7_count_168 : decode cX7_count 168 = .ok (.aload_n 0, 1) := by decide +kernel
theorem dX7_count_169 : decode cX7_count 169 = .ok (.getfield 7, 3) := by decide +kernel
theorem dX7_count_172 : decode cX7_count 172 = .ok (.iconst 3, 1) := by decide +kernel
theorem dX7_count_173 : decode cX7_count 173 = .ok (.iaload, 1) := by decide +kernel
theorem dX7_count_174 : decode cX7_count 174 = .ok (.ireturn, 1) := by decide +kernel
theorem dX7_count_175 : decode cX7_count 175 = .ok (.aload_n 0, 1) := by decide +kernel
theorem dX7_count_176 : decode cX7_count 176 = .ok (.getfield 7, 3) := by decide +kernel
theorem dX7_count_179 : decode cX7_count 179 = .ok (.iconst 0, 1) := by decide +kernel
theorem dX7_count_180 : decode cX7_count 180 = .ok (.iaload, 1) := by decide +kernel
theorem dX7_count_181 : decode cX7_count 181 = .ok (.ireturn, 1) := by decide +kernel
theorem dX7_count_182 : decode cX7_count 182 = .ok (.aload_n 0, 1) := by decide +kernel
theorem dX7_count_183 : decode cX7_count 183 = .ok (.getfield 7, 3) := by decide +kernel
theorem dX7_count_186 : decode cX7_count 186 = .ok (.iconst 4, 1) := by decide +kernel
theorem dX7_count_187 : decode cX7_count 187 = .ok (.iaload, 1) := by decide +kernel
theorem dX7_count_188 : decode cX7_count 188 = .ok (.ireturn, 1) := by decide +kernel
theorem dX7_count_189 : decode cX7_count 189 = .ok (.aload_n 0, 1) := by decide +kernel
theorem dX7_count_190 : decode cX7_count 190 = .ok (.getfield 7, 3) := by decide +kernel
theorem dX7_count_193 : decode cX7_count 193 = .ok (.bipush 9, 2) := by decide +kernel
theorem dX7_count_195 : decode cX7_count 195 = .ok (.iaload, 1) := by decide +kernel
theorem dX7_count_196 : decode cX7_count 196 = .ok (.ireturn, 1) := by decide +kernel
theorem dX7_count_197 : decode cX7_count 197 = .ok (.aload_n 0, 1) := by decide +kernel
theorem dX7_count_198 : decode cX7_count 198 = .ok (.getfield 44, 3) := by decide +kernel
theorem dX7_count_201 : decode cX7_count 201 = .ok (.iload_n 1, 1) := by decide +kernel
theorem dX7_count_202 : decode cX7_count 202 = .ok (.bipush 13, 2) := by decide +kernel
theorem dX7_count_204 : decode cX7_count 204 = .ok (.isub, 1) := by decide +kernel
theorem dX7_count_205 : decode cX7_count 205 = .ok (.iaload, 1) := by decide +kernel
theorem dX7_count_206 : decode cX7_count 206 = .ok (.ireturn, 1) := by decide +kernel
theorem dX7_count_207 : decode cX7_count 207 = .ok (.aload_n 0, 1) := by decide +kernel
theorem dX7_count_208 : decode cX7_count 208 = .ok (.getfield 84, 3) := by decide +kernel
theorem dX7_count_211 : decode cX7_count 211 = .ok (.ireturn, 1) := by decide +kernel
theorem dX7_count_212 : decode cX7_count 212 = .ok (.aload_n 0, 1) := by decide +kernel
theorem dX7_count_213 : decode cX7_count 213 = .ok (.getfield 90, 3) := by decide +kernel
theorem dX7_count_216 : decode cX7_count 216 = .ok (.ireturn, 1) := by decide +kernel
theorem dX7_count_217 : decode cX7_count 217 = .ok (.aload_n 0, 1) := by decide +kernel
theorem dX7_count_218 : decode cX7_count 218 = .ok (.getfield 81, 3) := by decide +kernel
theorem dX7_count_221 : decode cX7_count 221 = .ok (.ireturn, 1) := by decide +kernel
theorem dX7_count_222 : decode cX7_count 222 = .ok (.iconst (-1), 1) := by decide +kernel
theorem dX7_count_223 : decode cX7_count 223 = .ok (.ireturn, 1) := by decide +kernel
