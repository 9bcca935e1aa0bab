theorem dX4_base_10 : decode cX4_base 10 = .ok (.getfield 22, 3) := by decide +kernel
theorem dX4_base_13 : decode cX4_base 13 = .ok (.iload_n 1, 1) := by decide +kernel
theorem dX4_base_14 : decode cX4_base 14 = .ok (.faload, 1) := by decide +kernel
theorem dX4_base_15 : decode cX4_base 15 = .ok (.freturn, 1) := by decide +kernel
theorem dX4_base_16 : decode cX4_base 16 = .ok (.aload_n 0, 1) := by decide +kernel
theorem dX4_base_17 : decode cX4_base 17 = .ok (.getfield 9, 3) := by decide +kernel
theorem dX4_base_20 : decode cX4_base 20 = .ok (.iload_n 1, 1) := by decide +kernel
theorem dX4_base_21 : decode cX4_base 21 = .ok (.iaload, 1) := by decide +kernel
theorem dX4_base_22 : decode cX4_base 22 = .ok (.iconst 4, 1) := by decide +kernel
theorem dX4_base_23 : decode cX4_base 23 = .ok (.if_icmp .ne 13, 3) := by decide +kernel
theorem dX4_base_26 : decode cX4_base 26 = .ok (.aload_n 0, 1) := by decide +kernel
theorem dX4_base_27 : decode cX4_base 27 = .ok (.getfield 22, 3) := by decide +kernel
theorem dX4_base_30 : decode cX4_base 30 = .ok (.iload_n 1, 1) := by decide +kernel
theorem dX4_base_31 : decode cX4_base 31 = .ok (.faload, 1) := by decide +kernel
theorem dX4_base_32 : decode cX4_base 32 = .ok (.ldc 152, 2) := by decide +kernel
theorem dX4_base_34 : decode cX4_base 34 = .ok (.fmul, 1) := by decide +kernel
theorem dX4_base_35 : decode cX4_base 35 = .ok (.freturn, 1) := by decide +kernel
theorem dX4_base_36 : decode cX4_base 36 = .ok (.aload_n 0, 1) := by decide +kernel
theorem dX4_base_37 : decode cX4_base 37 = .ok (.getfield 9, 3) := by decide +kernel
theorem dX4_base_40 : decode cX4_base 40 = .ok (.iload_n 1, 1) := by decide +kernel
theorem dX4_base_41 : decode cX4_base 41 = .ok (.iaload, 1) := by decide +kernel
theorem dX4_base_42 : decode cX4_base 42 = .ok (.iconst 5, 1) := by decide +kernel
theorem dX4_base_43 : decode cX4_base 43 = .ok (.if_icmp .ne 84, 3) := by decide +kernel
theorem dX4_base_46 : decode cX4_base 46 = .ok (.aload_n 0, 1) := by decide +kernel
theorem dX4_base_47 : decode cX4_base 47 = .ok (.getfield 29, 3) := by decide +kernel
theorem dX4_base_50 : decode cX4_base 50 = .ok (.bipush 9, 2) := by decide +kernel
theorem dX4_base_52 : decode cX4_base 52 = .ok (.iload_n 1, 1) := by decide +kernel
theorem dX4_base_53 : decode cX4_base 53 = .ok (.imul, 1) := by decide +kernel
theorem dX4_base_54 : decode cX4_base 54 = .ok (.iaload, 1) := by decide +kernel
theorem dX4_base_55 : decode cX4_base 55 = .ok (.istore_n 2, 1) := by decide +kernel
theorem dX4_base_56 : decode cX4_base 56 = .ok (.aload_n 0, 1) := by decide +kernel
theorem dX4_base_57 : decode cX4_base 57 = .ok (.getfield 29, 3) := by decide +kernel
theorem dX4_base_60 : decode cX4_base 60 = .ok (.bipush 9, 2) := by decide +kernel
theorem dX4_base_62 : decode cX4_base 62 = .ok (.iload_n 1, 1) := by decide +kernel
theorem dX4_base_63 : decode cX4_base 63 = .ok (.imul, 1) := by decide +kernel
theorem dX4_base_64 : decode cX4_base 64 = .ok (.iconst 1, 1) := by decide +kernel
theorem dX4_base_65 : decode cX4_base 65 = .ok (.iadd, 1) := by decide +kernel
theorem dX4_base_66 : decode cX4_base 66 = .ok (.iaload, 1) := by decide +kernel
theorem dX4_base_67 : decode cX4_base 67 = .ok (.istore_n 3, 1) := by decide +kernel
theorem dX4_base_68 : decode cX4_base 68 = .ok (.aload_n 0, 1) := by decide +kernel
theorem dX4_base_69 : decode cX4_base 69 = .ok (.getfield 90, 3) := by decide +kernel
theorem dX4_base_72 : decode cX4_base 72 = .ok (.iload_n 2, 1) := by decide +kernel
theorem dX4_base_73 : decode cX4_base 73 = .ok (.iaload, 1) := by decide +kernel
theorem dX4_base_74 : decode cX4_base 74 = .ok (.ifCond .ge 12, 3) := by decide +kernel
theorem dX4_base_77 : decode cX4_base 77 = .ok (.aload_n 0, 1) := by decide +kernel
theorem dX4_base_78 : decode cX4_base 78 = .ok (.getfield 93, 3) := by decide +kernel
theorem dX4_base_81 : decode cX4_base 81 = .ok (.iload_n 3, 1) := by decide +kernel
theorem dX4_base_82 : decode cX4_base 82 = .ok (.faload, 1) := by decide +kernel
theorem dX4_base_83 : decode cX4_base 83 = .ok (.goto 43, 3) := by decide +kernel
theorem dX4_base_86 : decode cX4_base 86 = .ok (.aload_n 0, 1) := by decide +kernel
theorem dX4_base_87 : decode cX4_base 87 = .ok (.getfield 90, 3) := by decide +kernel
theorem dX4_base_90 : decode cX4_base 90 = .ok (.iload_n 3, 1) := by decide +kernel
theorem dX4_base_91 : decode cX4_base 91 = .ok (.iaload, 1) := by decide +kernel
theorem dX4_base_92 : decode cX4_base 92 = .ok (.ifCond .lt 19, 3) := by decide +kernel
theorem dX4_base_95 : decode cX4_base 95 = .ok (.aload_n 0, 1) := by decide +kernel
theorem dX4_base_96 : decode cX4_base 96 = .ok (.getfield 93, 3) := by decide +kernel
theorem dX4_base_99 : decode cX4_base 99 = .ok (.iload_n 2, 1) := by decide +kernel
theorem dX4_base_100 : decode cX4_base 100 = .ok (.faload, 1) := by decide +kernel
theorem dX4_base_101 : decode cX4_base 101 = .ok (.aload_n 0, 1) := by decide +kernel
theorem dX4_base_102 : decode cX4_base 102 = .ok (.getfield 93, 3) := by decide +kernel
theorem dX4_base_105 : decode cX4_base 105 = .ok (.iload_n 3, 1) := by decide +kernel
theorem dX4_base_106 : decode cX4_base 106 = .ok (.faload, 1) := by decide +kernel
theorem dX4_base_107 : decode cX4_base 107 = .ok (.fcmp .l, 1) := by decide +kernel
theorem dX4_base_108 : decode cX4_base 108 = .ok (.ifCond .lt 12, 3) := by decide +kernel
theorem dX4_base_111 : decode cX4_base 111 = .ok (.aload_n 0, 1) := by decide +kernel
theorem dX4_base_112 : decode cX4_base 112 = .ok (.getfield 93, 3) := by decide +kernel
theorem dX4_base_115 : decode cX4_base 115 = .ok (.iload_n 2, 1) := by decide +kernel
theorem dX4_base_116 : decode cX4_base 116 = .ok (.faload, 1) := by decide +kernel
theorem dX4_base_117 : decode cX4_base 117 = .ok (.goto 9, 3) := by decide +kernel
theorem dX4_base_120 : decode cX4_base 120 = .ok (.aload_n 0, 1) := by decide +kernel
theorem dX4_base_121 : decode cX4_base 121 = .ok (.getfield 93, 3) := by decide +kernel
theorem dX4_base_124 : decode cX4_base 124 = .ok (.iload_n 3, 1) := by decide +kernel
theorem dX4_base_125 : decode cX4_base 125 = .ok (.faload, 1) := by decide +kernel
theorem dX4_base_126 : decode cX4_base 126 = .ok (.freturn, 1) := by decide +kernel
theorem dX4_base_127 : decode cX4_base 127 = .ok (.fconst 0, 1) := by decide +kernel
theorem dX4_base_128 : decode cX4_base 128 = .ok (.fstore_n 2, 1) := by decide +kernel
theorem dX4_base_129 : decode cX4_base 129 = .ok (.iconst 0, 1) := by decide +kernel
theorem dX4_base_130 : decode cX4_base 130 = .ok (.istore_n 3, 1) := by decide +kernel
theorem dX4_base_131 : decode cX4_base 131 = .ok (.iload_n 3, 1) := by decide +kernel
theorem dX4_base_132 : decode cX4_base 132 = .ok (.aload_n 0, 1) := by decide +kernel
theorem dX4_base_133 : decode cX4_base 133 = .ok (.getfield 26, 3) := by decide +kernel
theorem dX4_base_136 : decode cX4_base 136 = .ok (.iload_n 1, 1) := by decide +kernel
theorem dX4_base_137 : decode cX4_base 137 = .ok (.iaload, 1) := by decide +kernel
theorem dX4_base_138 : decode cX4_base 138 = .ok (.if_icmp .ge 28, 3) := by decide +kernel
theorem dX4_base_141 : decode cX4_base 141 = .ok (.fload_n 2, 1) := by decide +kernel
theorem dX4_base_142 : decode cX4_base 142 = .ok (.aload_n 0, 1) := by decide +kernel
theorem dX4_base_143 : decode cX4_base 143 = .ok (.getfield 93, 3) := by decide +kernel
theorem dX4_base_146 : decode cX4_base 146 = .ok (.aload_n 0, 1) := by decide +kernel
theorem dX4_base_147 : decode cX4_base 147 = .ok (.getfield 29, 3) := by decide +kernel
theorem dX4_base_150 : decode cX4_base 150 = .ok (.bipush 9, 2) := by decide +kernel
theorem dX4_base_152 : decode cX4_base 152 = .ok (.iload_n 1, 1) := by decide +kernel
theorem dX4_base_153 : decode cX4_base 153 = .ok (.imul, 1) := by decide +kernel
theorem dX4_base_154 : decode cX4_base 154 = .ok (.iload_n 3, 1) := by decide +kernel
theorem dX4_base_155 : decode cX4_base 155 = .ok (.iadd, 1) := by decide +kernel
theorem dX4_base_156 : decode cX4_base 156 = .ok (.iaload, 1) := by decide +kernel
theorem dX4_base_157 : decode cX4_base 157 = .ok (.faload, 1) := by decide +kernel
theorem dX4_base_158 : decode cX4_base 158 = .ok (.fadd, 1) := by decide +kernel
theorem dX4_base_159 : decode cX4_base 159 = .ok (.fstore_n 2, 1) := by decide +kernel
theorem dX4_base_160 : decode cX4_base 160 = .ok (.iinc 3 1, 3) := by decide +kernel
theorem dX4_base_163 : decode cX4_base 163 = .ok (.goto (-32), 3) := by decide +kernel
theorem dX4_base_166 : decode cX4_base 166 = .ok (.aload_n 0, 1) := by decide +kernel
theorem dX4_base_167 : decode cX4_base 167 = .ok (.getfield 9, 3) := by decide +kernel
theorem dX4_base_170 : decode cX4_base 170 = .ok (.iload_n 1, 1) := by decide +kernel
theorem dX4_base_171 : decode cX4_base 171 = .ok (.iaload, 1) := by decide +kernel
theorem dX4_base_172 : decode cX4_base 172 = .ok (.iconst 1, 1) := by decide +kernel
theorem dX4_base_173 : decode cX4_base 173 = .ok (.if_icmp .ne 10, 3) := by decide +kernel
theorem dX4_base_176 : decode cX4_base 176 = .ok (.fload_n 2, 1) := by decide +kernel
theorem dX4_base_177 : decode cX4_base 177 = .ok (.ldc 153, 2) := by decide +kernel
theorem dX4_base_179 : decode cX4_base 179 = .ok (.fmul, 1) := by decide +kernel
theorem dX4_base_180 : decode cX4_base 180 = .ok (.goto 24, 3) := by decide +kernel
theorem dX4_base_183 : decode cX4_base 183 = .ok (.aload_n 0, 1) := by decide +kernel
theorem dX4_base_184 : decode cX4_base 184 = .ok (.getfield 9, 3) := by decide +kernel
theorem dX4_base_187 : decode cX4_base 187 = .ok (.iload_n 1, 1) := by decide +kernel
theorem dX4_base_188 : decode cX4_base 188 = .ok (.iaload, 1) := by decide +kernel
theorem dX4_base_189 : decode cX4_base 189 = .ok (.iconst 2, 1) := by decide +kernel
theorem dX4_base_190 : decode cX4_base 190 = .ok (.if_icmp .ne 10, 3) := by decide +kernel
theorem dX4_base_193 : decode cX4_base 193 = .ok (.fload_n 2, 1) := by decide +kernel
theorem dX4_base_194 : decode cX4_base 194 = .ok (.ldc 154, 2) := by decide +kernel
theorem dX4_base_196 : decode cX4_base 196 = .ok (.fmul, 1) := by decide +kernel
theorem dX4_base_197 : decode cX4_base 197 = .ok (.goto 7, 3) := by decide +kernel
theorem dX4_base_200 : decode cX4_base 200 = .ok (.fload_n 2, 1) := by decide +kernel
theorem dX4_base_201 : decode cX4_base 201 = .ok (.ldc 155, 2) := by decide +kernel
theorem dX4_base_203 : decode cX4_base 203 = .ok (.fmul, 1) := by decide +kernel
theorem dX4_base_204 : decode cX4_base 204 = .ok (.freturn, 1) := by decide +kernel
theorem dX4_bearing_0 : decode cX4_bearing 0 = .ok (.aload_n 0, 1) := by decide +kernel
theorem dX4_bearing_1 : decode cX4_bearing 1 = .ok (.iload_n 1, 1) := by decide +kernel
theorem dX4_bearing_2 : decode cX4_bearing 2 = .ok (.iload_n 2, 1) := by decide +kernel
theorem dX4_bearing_3 : decode cX4_bearing 3 = .ok (.invokevirtual 156, 3) := by decide +kernel
theorem dX4_bearing_6 : decode cX4_bearing 6 = .ok (.iconst 0, 1) := by decide +kernel
theorem dX4_bearing_7 : decode cX4_bearing 7 = .ok (.istore_n 3, 1) := by decide +kernel
theorem dX4_bearing_8 : decode cX4_bearing 8 = .ok (.iload_n 3, 1) := by decide +kernel
theorem dX4_bearing_9 : decode cX4_bearing 9 = .ok (.iload_n 1, 1) := by decide +kernel
theorem dX4_bearing_10 : decode cX4_bearing 10 = .ok (.if_icmp .gt 119, 3) := by decide +kernel
theorem dX4_bearing_13 : decode cX4_bearing 13 = .ok (.aload_n 0, 1) := by decide +kernel
theorem dX4_bearing_14 : decode cX4_bearing 14 = .ok (.getfield 90, 3) := by decide +kernel
theorem dX4_bearing_17 : decode cX4_bearing 17 = .ok (.iload_n 3, 1) := by decide +kernel
theorem dX4_bearing_18 : decode cX4_bearing 18 = .ok (.iaload, 1) := by decide +kernel
theorem dX4_bearing_19 : decode cX4_bearing 19 = .ok (.ifCond .ge 6, 3) := by decide +kernel
theorem dX4_bearing_22 : decode cX4_bearing 22 = .ok (.goto 101, 3) := by decide +kernel
theorem dX4_bearing_25 : decode cX4_bearing 25 = .ok (.aload_n 0, 1) := by decide +kernel
theorem dX4_bearing_26 : decode cX4_bearing 26 = .ok (.iload_n 3, 1) := by decide +kernel
theorem dX4_bearing_27 : decode cX4_bearing 27 = .ok (.invokevirtual 159, 3) := by decide +kernel
theorem dX4_bearing_30 : decode cX4_bearing 30 = .ok (.fstore 4, 2) := by decide +kernel
theorem dX4_bearing_32 : decode cX4_bearing 32 = .ok (.iconst 0, 1) := by decide +kernel
theorem dX4_bearing_33 : decode cX4_bearing 33 = .ok (.istore 5, 2) := by decide +kernel
theorem dX4_bearing_35 : decode cX4_bearing 35 = .ok (.iload 5, 2) := by decide +kernel
theorem dX4_bearing_37 : decode cX4_bearing 37 = .ok (.aload_n 0, 1) := by decide +kernel
theorem dX4_bearing_38 : decode cX4_bearing 38 = .ok (.getfield 38, 3) := by decide +kernel
theorem dX4_bearing_41 : decode cX4_bearing 41 = .ok (.iload_n 3, 1) := by decide +kernel
theorem dX4_bearing_42 : decode cX4_bearing 42 = .ok (.iaload, 1) := by decide +kernel
theorem dX4_bearing_43 : decode cX4_bearing 43 = .ok (.if_icmp .ge 72, 3) := by decide +kernel
theorem dX4_bearing_46 : decode cX4_bearing 46 = .ok (.bipush 8, 2) := by decide +kernel
theorem dX4_bearing_48 : decode cX4_bearing 48 = .ok (.iload_n 3, 1) := by decide +kernel
theorem dX4_bearing_49 : decode cX4_bearing 49 = .ok (.imul, 1) := by decide +kernel
theorem dX4_bearing_50 : decode cX4_bearing 50 = .ok (.iload 5, 2) := by decide +kernel
theorem dX4_bearing_52 : decode cX4_bearing 52 = .ok (.iadd, 1) := by decide +kernel
theorem dX4_bearing_53 : decode cX4_bearing 53 = .ok (.istore 6, 2) := by decide +kernel
theorem dX4_bearing_55 : decode cX4_bearing 55 = .ok (.aload_n 0, 1) := by decide +kernel
theorem dX4_bearing_56 : decode cX4_bearing 56 = .ok (.getfield 41, 3) := by decide +kernel
theorem dX4_bearing_59 : decode cX4_bearing 59 = .ok (.iload 6, 2) := by decide +kernel
theorem dX4_bearing_61 : decode cX4_bearing 61 = .ok (.baload, 1) := by decide +kernel
theorem dX4_bearing_62 : decode cX4_bearing 62 = .ok (.ifCond .eq 47, 3) := by decide +kernel
theorem dX4_bearing_65 : decode cX4_bearing 65 = .ok (.aload_n 0, 1) := by decide +kernel
theorem dX4_bearing_66 : decode cX4_bearing 66 = .ok (.getfield 45, 3) := by decide +kernel
theorem dX4_bearing_69 : decode cX4_bearing 69 = .ok (.iload 6, 2) := by decide +kernel
theorem dX4_bearing_71 : decode cX4_bearing 71 = .ok (.iaload, 1) := by decide +kernel
theorem dX4_bearing_72 : decode cX4_bearing 72 = .ok (.aload_n 0, 1) := by decide +kernel
theorem dX4_bearing_73 : decode cX4_bearing 73 = .ok (.getfield 90, 3) := by decide +kernel
theorem dX4_bearing_76 : decode cX4_bearing 76 = .ok (.iload_n 3, 1) := by decide +kernel
theorem dX4_bearing_77 : decode cX4_bearing 77 = .ok (.iaload, 1) := by decide +kernel
theorem dX4_bearing_78 : decode cX4_bearing 78 = .ok (.if_icmp .gt 31, 3) := by decide +kernel
theorem dX4_bearing_81 : decode cX4_bearing 81 = .ok (.aload_n 0, 1) := by decide +kernel
theorem dX4_bearing_82 : decode cX4_bearing 82 = .ok (.getfield 90, 3) := by decide +kernel
theorem dX4_bearing_85 : decode cX4_bearing 85 = .ok (.iload_n 3, 1) := by decide +kernel
theorem dX4_bearing_86 : decode cX4_bearing 86 = .ok (.iaload, 1) := by decide +kernel
theorem dX4_bearing_87 : decode cX4_bearing 87 = .ok (.aload_n 0, 1) := by decide +kernel
theorem dX4_bearing_88 : decode cX4_bearing 88 = .ok (.getfield 48, 3) := by decide +kernel
theorem dX4_bearing_91 : decode cX4_bearing 91 = .ok (.iload 6, 2) := by decide +kernel
theorem dX4_bearing_93 : decode cX4_bearing 93 = .ok (.iaload, 1) := by decide +kernel
theorem dX4_bearing_94 : decode cX4_bearing 94 = .ok (.if_icmp .gt 15, 3) := by decide +kernel
theorem dX4_bearing_97 : decode cX4_bearing 97 = .ok (.fload 4, 2) := by decide +kernel
theorem dX4_bearing_99 : decode cX4_bearing 99 = .ok (.aload_n 0, 1) := by decide +kernel
theorem dX4_bearing_100 : decode cX4_bearing 100 = .ok (.getfield 51, 3) := by decide +kernel
theorem dX4_bearing_103 : decode cX4_bearing 103 = .ok (.iload 6, 2) := by decide +kernel
theorem dX4_bearing_105 : decode cX4_bearing 105 = .ok (.faload, 1) := by decide +kernel
theorem dX4_bearing_106 : decode cX4_bearing 106 = .ok (.fmul, 1) := by decide +kernel
theorem dX4_bearing_107 : decode cX4_bearing 107 = .ok (.fstore 4, 2) := by decide +kernel
theorem dX4_bearing_109 : decode cX4_bearing 109 = .ok (.iinc 5 1, 3) := by decide +kernel
theorem dX4_bearing_112 : decode cX4_bearing 112 = .ok (.goto (-77), 3) := by decide +kernel
theorem dX4_bearing_115 : decode cX4_bearing 115 = .ok (.aload_n 0, 1) := by decide +kernel
theorem dX4_bearing_116 : decode cX4_bearing 116 = .ok (.getfield 93, 3) := by decide +kernel
theorem dX4_bearing_119 : decode cX4_bearing 119 = .ok (.iload_n 3, 1) := by decide +kernel
theorem dX4_bearing_120 : decode cX4_bearing 120 = .ok (.fload 4, 2) := by decide +kernel
theorem dX4_bearing_122 : decode cX4_bearing 122 = .ok (.fastore, 1) := by decide +kernel
theorem dX4_bearing_123 : decode cX4_bearing 123 = .ok (.iinc 3 1, 3) := by decide +kernel
theorem dX4_bearing_126 : decode cX4_bearing 126 = .ok (.goto (-118), 3) := by decide +kernel
theorem dX4_bearing_129 : decode cX4_bearing 129 = .ok (.aload_n 0, 1) := by decide +kernel
theorem dX4_bearing_130 : decode cX4_bearing 130 = .ok (.getfield 93, 3) := by decide +kernel
theorem dX4_bearing_133 : decode cX4_bearing 133 = .ok (.iload_n 1, 1) := by decide +kernel
theorem dX4_bearing_134 : decode cX4_bearing 134 = .ok (.faload, 1) := by decide +kernel
theorem dX4_bearing_135 : decode cX4_bearing 135 = .ok (.freturn, 1) := by decide +kernel
theorem dX4_leastOf_0 : decode cX4_leastOf 0 = .ok (.aload_n 0, 1) := by decide +kernel
theorem dX4_leastOf_1 : decode cX4_leastOf 1 = .ok (.iload_n 1, 1) := by decide +kernel
theorem dX4_leastOf_2 : decode cX4_leastOf 2 = .ok (.iconst 0, 1) := by decide +kernel
theorem dX4_leastOf_3 : decode cX4_leastOf 3 = .ok (.invokevirtual 163, 3) := by decide +kernel
theorem dX4_leastOf_6 : decode cX4_leastOf 6 = .ok (.fstore_n 2, 1) := by decide +kernel
theorem dX4_leastOf_7 : decode cX4_leastOf 7 = .ok (.aload_n 0, 1) := by decide +kernel
theorem dX4_leastOf_8 : decode cX4_leastOf 8 = .ok (.iconst 0, 1) := by decide +kernel
theorem dX4_leastOf_9 : decode cX4_leastOf 9 = .ok (.putfield 167, 3) := by decide +kernel
theorem dX4_leastOf_12 : decode cX4_leastOf 12 = .ok (.iconst 1, 1) := by decide +kernel
theorem dX4_leastOf_13 : decode cX4_leastOf 13 = .ok (.istore_n 3, 1) := by decide +kernel
theorem dX4_leastOf_14 : decode cX4_leastOf 14 = .ok (.iload_n 3, 1) := by decide +kernel
theorem dX4_leastOf_15 : decode cX4_leastOf 15 = .ok (.aload_n 0, 1) := by decide +kernel
theorem dX4_leastOf_16 : decode cX4_leastOf 16 = .ok (.getfield 13, 3) := by decide +kernel
theorem dX4_leastOf_19 : decode cX4_leastOf 19 = .ok (.iload_n 1, 1) := by decide +kernel
theorem dX4_leastOf_20 : decode cX4_leastOf 20 = .ok (.iaload, 1) := by decide +kernel
theorem dX4_leastOf_21 : decode cX4_leastOf 21 = .ok (.if_icmp .ge 32, 3) := by decide +kernel
theorem dX4_leastOf_24 : decode cX4_leastOf 24 = .ok (.aload_n 0, 1) := by decide +kernel
theorem dX4_leastOf_25 : decode cX4_leastOf 25 = .ok (.iload_n 1, 1) := by decide +kernel
theorem dX4_leastOf_26 : decode cX4_leastOf 26 = .ok (.iload_n 3, 1) := by decide +kernel
theorem dX4_leastOf_27 : decode cX4_leastOf 27 = .ok (.invokevirtual 163, 3) := by decide +kernel
theorem dX4_leastOf_30 : decode cX4_leastOf 30 = .ok (.fstore 4, 2) := by decide +kernel
theorem dX4_leastOf_32 : decode cX4_leastOf 32 = .ok (.fload 4, 2) := by decide +kernel
theorem dX4_leastOf_34 : decode cX4_leastOf 34 = .ok (.fload_n 2, 1) := by decide +kernel
theorem dX4_leastOf_35 : decode cX4_leastOf 35 = .ok (.fcmp .g, 1) := by decide +kernel
theorem dX4_leastOf_36 : decode cX4_leastOf 36 = .ok (.ifCond .ge 11, 3) := by decide +kernel
theorem dX4_leastOf_39 : decode cX4_leastOf 39 = .ok (.fload 4, 2) := by decide +kernel
theorem dX4_leastOf_41 : decode cX4_leastOf 41 = .ok (.fstore_n 2, 1) := by decide +kernel
theorem dX4_leastOf_42 : decode cX4_leastOf 42 = .ok (.aload_n 0, 1) := by decide +kernel
theorem dX4_leastOf_43 : decode cX4_leastOf 43 = .ok (.iload_n 3, 1) := by decide +kernel
theorem dX4_leastOf_44 : decode cX4_leastOf 44 = .ok (.putfield 167, 3) := by decide +kernel
theorem dX4_leastOf_47 : decode cX4_leastOf 47 = .ok (.iinc 3 1, 3) := by decide +kernel
theorem dX4_leastOf_50 : decode cX4_leastOf 50 = .ok (.goto (-36), 3) := by decide +kernel
theorem dX4_leastOf_53 : decode cX4_leastOf 53 = .ok (.fload_n 2, 1) := by decide +kernel
theorem dX4_leastOf_54 : decode cX4_leastOf 54 = .ok (.freturn, 1) := by decide +kernel
theorem dX4_bears_0 : decode cX4_bears 0 = .ok (.aload_n 0, 1) := by decide +kernel
theorem dX4_bears_1 : decode cX4_bears 1 = .ok (.iload_n 1, 1) := by decide +kernel
theorem dX4_bears_2 : decode cX4_bears 2 = .ok (.invokevirtual 149, 3) := by decide +kernel
theorem dX4_bears_5 : decode cX4_bears 5 = .ok (.ifCond .eq 17, 3) := by decide +kernel
theorem dX4_bears_8 : decode cX4_bears 8 = .ok (.iload_n 2, 1) := by decide +kernel
theorem dX4_bears_9 : decode cX4_bears 9 = .ok (.ifCond .lt 13, 3) := by decide +kernel
theorem dX4_bears_12 : decode cX4_bears 12 = .ok (.iload_n 2, 1) := by decide +kernel
theorem dX4_bears_13 : decode cX4_bears 13 = .ok (.aload_n 0, 1) := by decide +kernel
theorem dX4_bears_14 : decode cX4_bears 14 = .ok (.getfield 13, 3) := by decide +kernel
theorem dX4_bears_17 : decode cX4_bears 17 = .ok (.iload_n 1, 1) := by decide +kernel
theorem dX4_bears_18 : decode cX4_bears 18 = .ok (.iaload, 1) := by decide +kernel
theorem dX4_bears_19 : decode cX4_bears 19 = .ok (.if_icmp .lt 9, 3) := by decide +kernel
theorem dX4_bears_22 : decode cX4_bears 22 = .ok (.ldc2_w 170, 3) := by decide +kernel
theorem dX4_bears_25 : decode cX4_bears 25 = .ok (.goto 10, 3) := by decide +kernel
theorem dX4_bears_28 : decode cX4_bears 28 = .ok (.aload_n 0, 1) := by decide +kernel
theorem dX4_bears_29 : decode cX4_bears 29 = .ok (.iload_n 1, 1) := by decide +kernel
theorem dX4_bears_30 : decode cX4_bears 30 = .ok (.iload_n 2, 1) := by decide +kernel
theorem dX4_bears_31 : decode cX4_bears 31 = .ok (.invokevirtual 163, 3) := by decide +kernel
theorem dX4_bears_34 : decode cX4_bears 34 = .ok (.f2d, 1) := by decide +kernel
theorem dX4_bears_35 : decode cX4_bears 35 = .ok (.dreturn, 1) := by decide +kernel
theorem dX4_least_0 : decode cX4_least 0 = .ok (.aload_n 0, 1) := by decide +kernel
theorem dX4_least_1 : decode cX4_least 1 = .ok (.iload_n 1, 1) := by decide +kernel
theorem dX4_least_2 : decode cX4_least 2 = .ok (.invokevirtual 149, 3) := by decide +kernel
theorem dX4_least_5 : decode cX4_least 5 = .ok (.ifCond .eq 12, 3) := by decide +kernel
theorem dX4_least_8 : decode cX4_least 8 = .ok (.aload_n 0, 1) := by decide +kernel
theorem dX4_least_9 : decode cX4_least 9 = .ok (.iload_n 1, 1) := by decide +kernel
theorem dX4_least_10 : decode cX4_least 10 = .ok (.invokevirtual 172, 3) := by decide +kernel
theorem dX4_least_13 : decode cX4_least 13 = .ok (.f2d, 1) := by decide +kernel
theorem dX4_least_14 : decode cX4_least 14 = .ok (.goto 6, 3) := by decide +kernel
theorem dX4_least_17 : decode cX4_least 17 = .ok (.ldc2_w 170, 3) := by decide +kernel
theorem dX4_least_20 : decode cX4_least 20 = .ok (.dreturn, 1) := by decide +kernel
theorem dX4_where_0 : decode cX4_where 0 = .ok (.aload_n 0, 1) := by decide +kernel
theorem dX4_where_1 : decode cX4_where 1 = .ok (.iload_n 1, 1) := by decide +kernel
theorem dX4_where_2 : decode cX4_where 2 = .ok (.invokevirtual 149, 3) := by decide +kernel
theorem dX4_where_5 : decode cX4_where 5 = .ok (.ifCond .ne 6, 3) := by decide +kernel
theorem dX4_where_8 : decode cX4_where 8 = .ok (.bipush (-2), 2) := by decide +kernel
theorem dX4_where_10 : decode cX4_where 10 = .ok (.ireturn, 1) := by decide +kernel
theorem dX4_where_11 : decode cX4_where 11 = .ok (.aload_n 0, 1) := by decide +kernel
theorem dX4_where_12 : decode cX4_where 12 = .ok (.iload_n 1, 1) := by decide +kernel
theorem dX4_where_13 : decode cX4_where 13 = .ok (.invokevirtual 172, 3) := by decide +kernel
theorem dX4_where_16 : decode cX4_where 16 = .ok (.fstore_n 2, 1) := by decide +kernel
theorem dX4_where_17 : decode cX4_where 17 = .ok (.aload_n 0, 1) := by decide +kernel
theorem dX4_where_18 : decode cX4_where 18 = .ok (.getfield 167, 3) := by decide +kernel
theorem dX4_where_21 : decode cX4_where 21 = .ok (.ireturn, 1) := by decide +kernel
theorem dX4_grams_0 : decode cX4_grams 0 = .ok (.aload_n 0, 1) := by decide +kernel
theorem dX4_grams_1 : decode cX4_grams 1 = .ok (.iload_n 1, 1) := by decide +kernel
theorem dX4_grams_2 : decode cX4_grams 2 = .ok (.invokevirtual 149, 3) := by decide +kernel
theorem dX4_grams_5 : decode cX4_grams 5 = .ok (.ifCond .eq 15, 3) := by decide +kernel
theorem dX4_grams_8 : decode cX4_grams 8 = .ok (.aload_n 0, 1) := by decide +kernel
theorem dX4_grams_9 : decode cX4_grams 9 = .ok (.iload_n 1, 1) := by decide +kernel
theorem dX4_grams_10 : decode cX4_grams 10 = .ok (.invokevirtual 172, 3) := by decide +kernel
theorem dX4_grams_13 : decode cX4_grams 13 = .ok (.ldc 175, 2) := by decide +kernel
theorem dX4_grams_15 : decode cX4_grams 15 = .ok (.fmul, 1) := by decide +kernel
theorem dX4_grams_16 : decode cX4_grams 16 = .ok (.f2l, 1) := by decide +kernel
theorem dX4_grams_17 : decode cX4_grams 17 = .ok (.goto 6, 3) := by decide +kernel
theorem dX4_grams_20 : decode cX4_grams 20 = .ok (.ldc2_w 176, 3) := by decide +kernel
theorem dX4_grams_23 : decode cX4_grams 23 = .ok (.lreturn, 1) := by decide +kernel
theorem dX4_rest_0 : decode cX4_rest 0 = .ok (.aload_n 0, 1) := by decide +kernel
theorem dX4_rest_1 : decode cX4_rest 1 = .ok (.iload_n 1, 1) := by decide +kernel
theorem dX4_rest_2 : decode cX4_rest 2 = .ok (.invokevirtual 149, 3) := by decide +kernel
theorem dX4_rest_5 : decode cX4_rest 5 = .ok (.ifCond .eq 14, 3) := by decide +kernel
theorem dX4_rest_8 : decode cX4_rest 8 = .ok (.iload_n 2, 1) := by decide +kernel
theorem dX4_rest_9 : decode cX4_rest 9 = .ok (.iconst 1, 1) := by decide +kernel
theorem dX4_rest_10 : decode cX4_rest 10 = .ok (.if_icmp .lt 9, 3) := by decide +kernel
theorem dX4_rest_13 : decode cX4_rest 13 = .ok (.iload_n 2, 1) := by decide +kernel
theorem dX4_rest_14 : decode cX4_rest 14 = .ok (.ldc 113, 2) := by decide +kernel
theorem dX4_rest_16 : decode cX4_rest 16 = .ok (.if_icmp .le 9, 3) := by decide +kernel
theorem dX4_rest_19 : decode cX4_rest 19 = .ok (.ldc2_w 170, 3) := by decide +kernel
theorem dX4_rest_22 : decode cX4_rest 22 = .ok (.goto 15, 3) := by decide +kernel
theorem dX4_rest_25 : decode cX4_rest 25 = .ok (.aload_n 0, 1) := by decide +kernel
theorem dX4_rest_26 : decode cX4_rest 26 = .ok (.iload_n 1, 1) := by decide +kernel
theorem dX4_rest_27 : decode cX4_rest 27 = .ok (.invokevirtual 172, 3) := by decide +kernel
theorem dX4_rest_30 : decode cX4_rest 30 = .ok (.iload_n 2, 1) := by decide +kernel
theorem dX4_rest_31 : decode cX4_rest 31 = .ok (.i2f, 1) := by decide +kernel
theorem dX4_rest_32 : decode cX4_rest 32 = .ok (.ldc 118, 2) := by decide +kernel
theorem dX4_rest_34 : decode cX4_rest 34 = .ok (.fmul, 1) := by decide +kernel
theorem dX4_rest_35 : decode cX4_rest 35 = .ok (.frem, 1) := by decide +kernel
theorem dX4_rest_36 : decode cX4_rest 36 = .ok (.f2d, 1) := by decide +kernel
theorem dX4_rest_37 : decode cX4_rest 37 = .ok (.dreturn, 1) := by decide +kernel
theorem dX4_left_0 : decode cX4_left 0 = .ok (.aload_n 0, 1) := by decide +kernel
theorem dX4_left_1 : decode cX4_left 1 = .ok (.iload_n 1, 1) := by decide +kernel
theorem dX4_left_2 : decode cX4_left 2 = .ok (.invokevirtual 149, 3) := by decide +kernel
theorem dX4_left_5 : decode cX4_left 5 = .ok (.ifCond .eq 14, 3) := by decide +kernel
theorem dX4_left_8 : decode cX4_left 8 = .ok (.iload_n 2, 1) := by decide +kernel
theorem dX4_left_9 : decode cX4_left 9 = .ok (.iconst 1, 1) := by decide +kernel
theorem dX4_left_10 : decode cX4_left 10 = .ok (.if_icmp .lt 9, 3) := by decide +kernel
theorem dX4_left_13 : decode cX4_left 13 = .ok (.iload_n 2, 1) := by decide +kernel
theorem dX4_left_14 : decode cX4_left 14 = .ok (.ldc 178, 2) := by decide +kernel
theorem dX4_left_16 : decode cX4_left 16 = .ok (.if_icmp .le 9, 3) := by decide +kernel
theorem dX4_left_19 : decode cX4_left 19 = .ok (.ldc2_w 170, 3) := by decide +kernel
theorem dX4_left_22 : decode cX4_left 22 = .ok (.goto 16, 3) := by decide +kernel
theorem dX4_left_25 : decode cX4_left 25 = .ok (.aload_n 0, 1) := by decide +kernel
theorem dX4_left_26 : decode cX4_left 26 = .ok (.iload_n 1, 1) := by decide +kernel
theorem dX4_left_27 : decode cX4_left 27 = .ok (.invokevirtual 172, 3) := by decide +kernel
theorem dX4_left_30 : decode cX4_left 30 = .ok (.f2d, 1) := by decide +kernel
theorem dX4_left_31 : decode cX4_left 31 = .ok (.iload_n 2, 1) := by decide +kernel
theorem dX4_left_32 : decode cX4_left 32 = .ok (.i2d, 1) := by decide +kernel
theorem dX4_left_33 : decode cX4_left 33 = .ok (.ldc2_w 179, 3) := by decide +kernel
theorem dX4_left_36 : decode cX4_left 36 = .ok (.dmul, 1) := by decide +kernel
theorem dX4_left_37 : decode cX4_left 37 = .ok (.drem, 1) := by decide +kernel
theorem dX4_left_38 : decode cX4_left 38 = .ok (.dreturn, 1) := by decide +kernel
theorem dX4_floor_0 : decode cX4_floor 0 = .ok (.dload_n 0, 1) := by decide +kernel
theorem dX4_floor_1 : decode cX4_floor 1 = .ok (.d2l, 1) := by decide +kernel
theorem dX4_floor_2 : decode cX4_floor 2 = .ok (.lstore_n 2, 1) := by decide +kernel
theorem dX4_floor_3 : decode cX4_floor 3 = .ok (.lload_n 2, 1) := by decide +kernel
theorem dX4_floor_4 : decode cX4_floor 4 = .ok (.l2d, 1) := by decide +kernel
theorem dX4_floor_5 : decode cX4_floor 5 = .ok (.dload_n 0, 1) := by decide +kernel
theorem dX4_floor_6 : decode cX4_floor 6 = .ok (.dcmp .l, 1) := by decide +kernel
theorem dX4_floor_7 : decode cX4_floor 7 = .ok (.ifCond .le 9, 3) := by decide +kernel
theorem dX4_floor_10 : decode cX4_floor 10 = .ok (.lload_n 2, 1) := by decide +kernel
theorem dX4_floor_11 : decode cX4_floor 11 = .ok (.lconst 1, 1) := by decide +kernel
theorem dX4_floor_12 : decode cX4_floor 12 = .ok (.lsub, 1) := by decide +kernel
theorem dX4_floor_13 : decode cX4_floor 13 = .ok (.goto 4, 3) := by decide +kernel
theorem dX4_floor_16 : decode cX4_floor 16 = .ok (.lload_n 2, 1) := by decide +kernel
theorem dX4_floor_17 : decode cX4_floor 17 = .ok (.lreturn, 1) := by decide +kernel
theorem dX4_nearest_0 : decode cX4_nearest 0 = .ok (.dload_n 0, 1) := by decide +kernel
theorem dX4_nearest_1 : decode cX4_nearest 1 = .ok (.invokestatic 181, 3) := by decide +kernel
theorem dX4_nearest_4 : decode cX4_nearest 4 = .ok (.lstore_n 2, 1) := by decide +kernel
theorem dX4_nearest_5 : decode cX4_nearest 5 = .ok (.dload_n 0, 1) := by decide +kernel
theorem dX4_nearest_6 : decode cX4_nearest 6 = .ok (.lload_n 2, 1) := by decide +kernel
theorem dX4_nearest_7 : decode cX4_nearest 7 = .ok (.l2d, 1) := by decide +kernel
theorem dX4_nearest_8 : decode cX4_nearest 8 = .ok (.dsub, 1) := by decide +kernel
theorem dX4_nearest_9 : decode cX4_nearest 9 = .ok (.dstore 4, 2) := by decide +kernel
theorem dX4_nearest_11 : decode cX4_nearest 11 = .ok (.dload 4, 2) := by decide +kernel
theorem dX4_nearest_13 : decode cX4_nearest 13 = .ok (.ldc2_w 185, 3) := by decide +kernel
theorem dX4_nearest_16 : decode cX4_nearest 16 = .ok (.dcmp .l, 1) := by decide +kernel
theorem dX4_nearest_17 : decode cX4_nearest 17 = .ok (.ifCond .gt 20, 3) := by decide +kernel
theorem dX4_nearest_20 : decode cX4_nearest 20 = .ok (.dload 4, 2) := by decide +kernel
theorem dX4_nearest_22 : decode cX4_nearest 22 = .ok (.ldc2_w 185, 3) := by decide +kernel
theorem dX4_nearest_25 : decode cX4_nearest 25 = .ok (.dcmp .l, 1) := by decide +kernel
theorem dX4_nearest_26 : decode cX4_nearest 26 = .ok (.ifCond .ne 17, 3) := by decide +kernel
theorem dX4_nearest_29 : decode cX4_nearest 29 = .ok (.lload_n 2, 1) := by decide +kernel
theorem dX4_nearest_30 : decode cX4_nearest 30 = .ok (.lconst 1, 1) := by decide +kernel
theorem dX4_nearest_31 : decode cX4_nearest 31 = .ok (.land, 1) := by decide +kernel
theorem dX4_nearest_32 : decode cX4_nearest 32 = .ok (.lconst 1, 1) := by decide +kernel
theorem dX4_nearest_33 : decode cX4_nearest 33 = .ok (.lcmp, 1) := by decide +kernel
theorem dX4_nearest_34 : decode cX4_nearest 34 = .ok (.ifCond .ne 9, 3) := by decide +kernel
theorem dX4_nearest_37 : decode cX4_nearest 37 = .ok (.lload_n 2, 1) := by decide +kernel
theorem dX4_nearest_38 : decode cX4_nearest 38 = .ok (.lconst 1, 1) := by decide +kernel
theorem dX4_nearest_39 : decode cX4_nearest 39 = .ok (.ladd, 1) := by decide +kernel
theorem dX4_nearest_40 : decode cX4_nearest 40 = .ok (.goto 4, 3) := by decide +kernel
theorem dX4_nearest_43 : decode cX4_nearest 43 = .ok (.lload_n 2, 1) := by decide +kernel
theorem dX4_nearest_44 : decode cX4_nearest 44 = .ok (.lreturn, 1) := by decide +kernel
theorem dX4_turned_0 : decode cX4_turned 0 = .ok (.aload_n 0, 1) := by decide +kernel
theorem dX4_turned_1 : decode cX4_turned 1 = .ok (.iload_n 1, 1) := by decide +kernel
theorem dX4_turned_2 : decode cX4_turned 2 = .ok (.invokevirtual 149, 3) := by decide +kernel
theorem dX4_turned_5 : decode cX4_turned 5 = .ok (.ifCond .eq 23, 3) := by decide +kernel
theorem dX4_turned_8 : decode cX4_turned 8 = .ok (.iload_n 2, 1) := by decide +kernel
theorem dX4_turned_9 : decode cX4_turned 9 = .ok (.ifCond .lt 19, 3) := by decide +kernel
theorem dX4_turned_12 : decode cX4_turned 12 = .ok (.iload_n 2, 1) := by decide +kernel
theorem dX4_turned_13 : decode cX4_turned 13 = .ok (.ldc 113, 2) := by decide +kernel
theorem dX4_turned_15 : decode cX4_turned 15 = .ok (.if_icmp .gt 13, 3) := by decide +kernel
theorem dX4_turned_18 : decode cX4_turned 18 = .ok (.iload_n 3, 1) := by decide +kernel
theorem dX4_turned_19 : decode cX4_turned 19 = .ok (.ifCond .lt 9, 3) := by decide +kernel
theorem dX4_turned_22 : decode cX4_turned 22 = .ok (.iload_n 3, 1) := by decide +kernel
theorem dX4_turned_23 : decode cX4_turned 23 = .ok (.bipush 12, 2) := by decide +kernel
theorem dX4_turned_25 : decode cX4_turned 25 = .ok (.if_icmp .le 7, 3) := by decide +kernel
theorem dX4_turned_28 : decode cX4_turned 28 = .ok (.ldc2_w 187, 3) := by decide +kernel
theorem dX4_turned_31 : decode cX4_turned 31 = .ok (.lreturn, 1) := by decide +kernel
theorem dX4_turned_32 : decode cX4_turned 32 = .ok (.aload_n 0, 1) := by decide +kernel
theorem dX4_turned_33 : decode cX4_turned 33 = .ok (.iload_n 1, 1) := by decide +kernel
theorem dX4_turned_34 : decode cX4_turned 34 = .ok (.invokevirtual 172, 3) := by decide +kernel
theorem dX4_turned_37 : decode cX4_turned 37 = .ok (.fstore 4, 2) := by decide +kernel
theorem dX4_turned_39 : decode cX4_turned 39 = .ok (.fload 4, 2) := by decide +kernel
theorem dX4_turned_41 : decode cX4_turned 41 = .ok (.f2d, 1) := by decide +kernel
theorem dX4_turned_42 : decode cX4_turned 42 = .ok (.iload_n 2, 1) := by decide +kernel
theorem dX4_turned_43 : decode cX4_turned 43 = .ok (.i2d, 1) := by decide +kernel
theorem dX4_turned_44 : decode cX4_turned 44 = .ok (.ldc2_w 189, 3) := by decide +kernel
theorem dX4_turned_47 : decode cX4_turned 47 = .ok (.dmul, 1) := by decide +kernel
theorem dX4_turned_48 : decode cX4_turned 48 = .ok (.dsub, 1) := by decide +kernel
theorem dX4_turned_49 : decode cX4_turned 49 = .ok (.dstore 5, 2) := by decide +kernel
theorem dX4_turned_51 : decode cX4_turned 51 = .ok (.fload 4, 2) := by decide +kernel
theorem dX4_turned_53 : decode cX4_turned 53 = .ok (.iload_n 2, 1) := by decide +kernel
theorem dX4_turned_54 : decode cX4_turned 54 = .ok (.i2f, 1) := by decide +kernel
theorem dX4_turned_55 : decode cX4_turned 55 = .ok (.ldc 118, 2) := by decide +kernel
theorem dX4_turned_57 : decode cX4_turned 57 = .ok (.fmul, 1) := by decide +kernel
theorem dX4_turned_58 : decode cX4_turned 58 = .ok (.fsub, 1) := by decide +kernel
theorem dX4_turned_59 : decode cX4_turned 59 = .ok (.fstore 7, 2) := by decide +kernel
theorem dX4_turned_61 : decode cX4_turned 61 = .ok (.iload_n 3, 1) := by decide +kernel
theorem dX4_turned_62 : decode cX4_turned 62 = .ok (.tableswitch 298 0 11 #[62, 68, 96, 102, 128, 149, 172, 195, 212, 238, 258, 278], 62) := by decide +kernel
theorem dX4_turned_124 : decode cX4_turned 124 = .ok (.dload 5, 2) := by decide +kernel
theorem dX4_turned_126 : decode cX4_turned 126 = .ok (.invokestatic 181, 3) := by decide +kernel
theorem dX4_turned_129 : decode cX4_turned 129 = .ok (.lreturn, 1) := by decide +kernel
theorem dX4_turned_130 : decode cX4_turned 130 = .ok (.dload 5, 2) := by decide +kernel
theorem dX4_turned_132 : decode cX4_turned 132 = .ok (.invokestatic 181, 3) := by decide +kernel
theorem dX4_turned_135 : decode cX4_turned 135 = .ok (.l2d, 1) := by decide +kernel
theorem dX4_turned_136 : decode cX4_turned 136 = .ok (.dload 5, 2) := by decide +kernel
theorem dX4_turned_138 : decode cX4_turned 138 = .ok (.dcmp .g, 1) := by decide +kernel
theorem dX4_turned_139 : decode cX4_turned 139 = .ok (.ifCond .ge 13, 3) := by decide +kernel
theorem dX4_turned_142 : decode cX4_turned 142 = .ok (.dload 5, 2) := by decide +kernel
theorem dX4_turned_144 : decode cX4_turned 144 = .ok (.invokestatic 181, 3) := by decide +kernel
theorem dX4_turned_147 : decode cX4_turned 147 = .ok (.lconst 1, 1) := by decide +kernel
theorem dX4_turned_148 : decode cX4_turned 148 = .ok (.ladd, 1) := by decide +kernel
theorem dX4_turned_149 : decode cX4_turned 149 = .ok (.goto 8, 3) := by decide +kernel
theorem dX4_turned_152 : decode cX4_turned 152 = .ok (.dload 5, 2) := by decide +kernel
theorem dX4_turned_154 : decode cX4_turned 154 = .ok (.invokestatic 181, 3) := by decide +kernel
theorem dX4_turned_157 : decode cX4_turned 157 = .ok (.lreturn, 1) := by decide +kernel
theorem dX4_turned_158 : decode cX4_turned 158 = .ok (.dload 5, 2) := by decide +kernel
theorem dX4_turned_160 : decode cX4_turned 160 = .ok (.invokestatic 191, 3) := by decide +kernel
theorem dX4_turned_163 : decode cX4_turned 163 = .ok (.lreturn, 1) := by decide +kernel
theorem dX4_turned_164 : decode cX4_turned 164 = .ok (.dload 5, 2) := by decide +kernel
theorem dX4_turned_166 : decode cX4_turned 166 = .ok (.dconst 0, 1) := by decide +kernel
theorem dX4_turned_167 : decode cX4_turned 167 = .ok (.dcmp .g, 1) := by decide +kernel
theorem dX4_turned_168 : decode cX4_turned 168 = .ok (.ifCond .ge 9, 3) := by decide +kernel
theorem dX4_turned_171 : decode cX4_turned 171 = .ok (.ldc2_w 194, 3) := by decide +kernel
theorem dX4_turned_174 : decode cX4_turned 174 = .ok (.goto 15, 3) := by decide +kernel
theorem dX4_turned_177 : decode cX4_turned 177 = .ok (.dload 5, 2) := by decide +kernel
theorem dX4_turned_179 : decode cX4_turned 179 = .ok (.dconst 0, 1) := by decide +kernel
theorem dX4_turned_180 : decode cX4_turned 180 = .ok (.dcmp .l, 1) := by decide +kernel
theorem dX4_turned_181 : decode cX4_turned 181 = .ok (.ifCond .le 7, 3) := by decide +kernel
theorem dX4_turned_184 : decode cX4_turned 184 = .ok (.lconst 1, 1) := by decide +kernel
theorem dX4_turned_185 : decode cX4_turned 185 = .ok (.goto 4, 3) := by decide +kernel
theorem dX4_turned_188 : decode cX4_turned 188 = .ok (.lconst 0, 1) := by decide +kernel
theorem dX4_turned_189 : decode cX4_turned 189 = .ok (.lreturn, 1) := by decide +kernel
theorem dX4_turned_190 : decode cX4_turned 190 = .ok (.ldc2_w 196, 3) := by decide +kernel
theorem dX4_turned_193 : decode cX4_turned 193 = .ok (.dload 5, 2) := by decide +kernel
theorem dX4_turned_195 : decode cX4_turned 195 = .ok (.dconst 0, 1) := by decide +kernel
theorem dX4_turned_196 : decode cX4_turned 196 = .ok (.dcmp .g, 1) := by decide +kernel
theorem dX4_turned_197 : decode cX4_turned 197 = .ok (.ifCond .ge 9, 3) := by decide +kernel
theorem dX4_turned_200 : decode cX4_turned 200 = .ok (.dload 5, 2) := by decide +kernel
theorem dX4_turned_202 : decode cX4_turned 202 = .ok (.dneg, 1) := by decide +kernel
theorem dX4_turned_203 : decode cX4_turned 203 = .ok (.goto 5, 3) := by decide +kernel
theorem dX4_turned_206 : decode cX4_turned 206 = .ok (.dload 5, 2) := by decide +kernel
theorem dX4_turned_208 : decode cX4_turned 208 = .ok (.dmul, 1) := by decide +kernel
theorem dX4_turned_209 : decode cX4_turned 209 = .ok (.d2l, 1) := by decide +kernel
theorem dX4_turned_210 : decode cX4_turned 210 = .ok (.lreturn, 1) := by decide +kernel
theorem dX4_turned_211 : decode cX4_turned 211 = .ok (.ldc2_w 196, 3) := by decide +kernel
theorem dX4_turned_214 : decode cX4_turned 214 = .ok (.dload 5, 2) := by decide +kernel
theorem dX4_turned_216 : decode cX4_turned 216 = .ok (.ldc2_w 198, 3) := by decide +kernel
theorem dX4_turned_219 : decode cX4_turned 219 = .ok (.dcmp .l, 1) := by decide +kernel
theorem dX4_turned_220 : decode cX4_turned 220 = .ok (.ifCond .le 8, 3) := by decide +kernel
theorem dX4_turned_223 : decode cX4_turned 223 = .ok (.dload 5, 2) := by decide +kernel
theorem dX4_turned_225 : decode cX4_turned 225 = .ok (.goto 6, 3) := by decide +kernel
theorem dX4_turned_228 : decode cX4_turned 228 = .ok (.ldc2_w 198, 3) := by decide +kernel
theorem dX4_turned_231 : decode cX4_turned 231 = .ok (.dmul, 1) := by decide +kernel
theorem dX4_turned_232 : decode cX4_turned 232 = .ok (.d2l, 1) := by decide +kernel
theorem dX4_turned_233 : decode cX4_turned 233 = .ok (.lreturn, 1) := by decide +kernel
theorem dX4_turned_234 : decode cX4_turned 234 = .ok (.ldc2_w 196, 3) := by decide +kernel
theorem dX4_turned_237 : decode cX4_turned 237 = .ok (.dload 5, 2) := by decide +kernel
theorem dX4_turned_239 : decode cX4_turned 239 = .ok (.ldc2_w 198, 3) := by decide +kernel
theorem dX4_turned_242 : decode cX4_turned 242 = .ok (.dcmp .g, 1) := by decide +kernel
theorem dX4_turned_243 : decode cX4_turned 243 = .ok (.ifCond .ge 8, 3) := by decide +kernel
theorem dX4_turned_246 : decode cX4_turned 246 = .ok (.dload 5, 2) := by decide +kernel
theorem dX4_turned_248 : decode cX4_turned 248 = .ok (.goto 6, 3) := by decide +kernel
theorem dX4_turned_251 : decode cX4_turned 251 = .ok (.ldc2_w 198, 3) := by decide +kernel
theorem dX4_turned_254 : decode cX4_turned 254 = .ok (.dmul, 1) := by decide +kernel
theorem dX4_turned_255 : decode cX4_turned 255 = .ok (.d2l, 1) := by decide +kernel
theorem dX4_turned_256 : decode cX4_turned 256 = .ok (.lreturn, 1) := by decide +kernel
theorem dX4_turned_257 : decode cX4_turned 257 = .ok (.dload 5, 2) := by decide +kernel
theorem dX4_turned_259 : decode cX4_turned 259 = .ok (.dconst 0, 1) := by decide +kernel
theorem dX4_turned_260 : decode cX4_turned 260 = .ok (.dcmp .g, 1) := by decide +kernel
theorem dX4_turned_261 : decode cX4_turned 261 = .ok (.ifCond .ge 9, 3) := by decide +kernel
theorem dX4_turned_264 : decode cX4_turned 264 = .ok (.ldc2_w 176, 3) := by decide +kernel
theorem dX4_turned_267 : decode cX4_turned 267 = .ok (.goto 6, 3) := by decide +kernel
theorem dX4_turned_270 : decode cX4_turned 270 = .ok (.ldc2_w 200, 3) := by decide +kernel
theorem dX4_turned_273 : decode cX4_turned 273 = .ok (.lreturn, 1) := by decide +kernel
theorem dX4_turned_274 : decode cX4_turned 274 = .ok (.fload 7, 2) := by decide +kernel
theorem dX4_turned_276 : decode cX4_turned 276 = .ok (.fconst 0, 1) := by decide +kernel
theorem dX4_turned_277 : decode cX4_turned 277 = .ok (.fcmp .g, 1) := by decide +kernel
theorem dX4_turned_278 : decode cX4_turned 278 = .ok (.ifCond .ge 9, 3) := by decide +kernel
theorem dX4_turned_281 : decode cX4_turned 281 = .ok (.ldc2_w 194, 3) := by decide +kernel
theorem dX4_turned_284 : decode cX4_turned 284 = .ok (.goto 15, 3) := by decide +kernel
theorem dX4_turned_287 : decode cX4_turned 287 = .ok (.fload 7, 2) := by decide +kernel
theorem dX4_turned_289 : decode cX4_turned 289 = .ok (.fconst 0, 1) := by decide +kernel
theorem dX4_turned_290 : decode cX4_turned 290 = .ok (.fcmp .l, 1) := by decide +kernel
theorem dX4_turned_291 : decode cX4_turned 291 = .ok (.ifCond .le 7, 3) := by decide +kernel
theorem dX4_turned_294 : decode cX4_turned 294 = .ok (.lconst 1, 1) := by decide +kernel
theorem dX4_turned_295 : decode cX4_turned 295 = .ok (.goto 4, 3) := by decide +kernel
theorem dX4_turned_298 : decode cX4_turned 298 = .ok (.lconst 0, 1) := by decide +kernel
theorem dX4_turned_299 : decode cX4_turned 299 = .ok (.lreturn, 1) := by decide +kernel
theorem dX4_turned_300 : decode cX4_turned 300 = .ok (.ldc 202, 2) := by decide +kernel
theorem dX4_turned_302 : decode cX4_turned 302 = .ok (.fload 7, 2) := by decide +kernel
theorem dX4_turned_304 : decode cX4_turned 304 = .ok (.fconst 0, 1) := by decide +kernel
theorem dX4_turned_305 : decode cX4_turned 305 = .ok (.fcmp .g, 1) := by decide +kernel
theorem dX4_turned_306 : decode cX4_turned 306 = .ok (.ifCond .ge 9, 3) := by decide +kernel
theorem dX4_turned_309 : decode cX4_turned 309 = .ok (.fload 7, 2) := by decide +kernel
theorem dX4_turned_311 : decode cX4_turned 311 = .ok (.fneg, 1) := by decide +kernel
theorem dX4_turned_312 : decode cX4_turned 312 = .ok (.goto 5, 3) := by decide +kernel
theorem dX4_turned_315 : decode cX4_turned 315 = .ok (.fload 7, 2) := by decide +kernel
theorem dX4_turned_317 : decode cX4_turned 317 = .ok (.fmul, 1) := by decide +kernel
theorem dX4_turned_318 : decode cX4_turned 318 = .ok (.f2l, 1) := by decide +kernel
theorem dX4_turned_319 : decode cX4_turned 319 = .ok (.lreturn, 1) := by decide +kernel
theorem dX4_turned_320 : decode cX4_turned 320 = .ok (.ldc 202, 2) := by decide +kernel
theorem dX4_turned_322 : decode cX4_turned 322 = .ok (.fload 7, 2) := by decide +kernel
theorem dX4_turned_324 : decode cX4_turned 324 = .ok (.ldc 203, 2) := by decide +kernel
theorem dX4_turned_326 : decode cX4_turned 326 = .ok (.fcmp .l, 1) := by decide +kernel
theorem dX4_turned_327 : decode cX4_turned 327 = .ok (.ifCond .le 8, 3) := by decide +kernel
theorem dX4_turned_330 : decode cX4_turned 330 = .ok (.fload 7, 2) := by decide +kernel
theorem dX4_turned_332 : decode cX4_turned 332 = .ok (.goto 5, 3) := by decide +kernel
theorem dX4_turned_335 : decode cX4_turned 335 = .ok (.ldc 203, 2) := by decide +kernel
theorem dX4_turned_337 : decode cX4_turned 337 = .ok (.fmul, 1) := by decide +kernel
theorem dX4_turned_338 : decode cX4_turned 338 = .ok (.f2l, 1) := by decide +kernel
theorem dX4_turned_339 : decode cX4_turned 339 = .ok (.lreturn, 1) := by decide +kernel
theorem dX4_turned_340 : decode cX4_turned 340 = .ok (.ldc 202, 2) := by decide +kernel
theorem dX4_turned_342 : decode cX4_turned 342 = .ok (.fload 7, 2) := by decide +kernel
theorem dX4_turned_344 : decode cX4_turned 344 = .ok (.ldc 203, 2) := by decide +kernel
theorem dX4_turned_346 : decode cX4_turned 346 = .ok (.fcmp .g, 1) := by decide +kernel
theorem dX4_turned_347 : decode cX4_turned 347 = .ok (.ifCond .ge 8, 3) := by decide +kernel
theorem dX4_turned_350 : decode cX4_turned 350 = .ok (.fload 7, 2) := by decide +kernel
theorem dX4_turned_352 : decode cX4_turned 352 = .ok (.goto 5, 3) := by decide +kernel
theorem dX4_turned_355 : decode cX4_turned 355 = .ok (.ldc 203, 2) := by decide +kernel
theorem dX4_turned_357 : decode cX4_turned 357 = .ok (.fmul, 1) := by decide +kernel
theorem dX4_turned_358 : decode cX4_turned 358 = .ok (.f2l, 1) := by decide +kernel
theorem dX4_turned_359 : decode cX4_turned 359 = .ok (.lreturn, 1) := by decide +kernel
theorem dX4_turned_360 : decode cX4_turned 360 = .ok (.fload 7, 2) := by decide +kernel
theorem dX4_turned_362 : decode cX4_turned 362 = .ok (.fconst 0, 1) := by decide +kernel
theorem dX4_turned_363 : decode cX4_turned 363 = .ok (.fcmp .g, 1) := by decide +kernel
theorem dX4_turned_364 : decode cX4_turned 364 = .ok (.ifCond .ge 9, 3) := by decide +kernel
theorem dX4_turned_367 : decode cX4_turned 367 = .ok (.ldc2_w 176, 3) := by decide +kernel
theorem dX4_turned_370 : decode cX4_turned 370 = .ok (.goto 6, 3) := by decide +kernel
theorem dX4_turned_373 : decode cX4_turned 373 = .ok (.ldc2_w 200, 3) := by decide +kernel
theorem dX4_turned_376 : decode cX4_turned 376 = .ok (.lreturn, 1) := by decide +kernel
theorem dX4_isReel_0 : decode cX4_isReel 0 = .ok (.iload_n 1, 1) := by decide +kernel
theorem dX4_isReel_1 : decode cX4_isReel 1 = .ok (.ifCond .lt 13, 3) := by decide +kernel
theorem dX4_isReel_4 : decode cX4_isReel 4 = .ok (.iload_n 1, 1) := by decide +kernel
theorem dX4_isReel_5 : decode cX4_isReel 5 = .ok (.bipush 6, 2) := by decide +kernel
theorem dX4_isReel_7 : decode cX4_isReel 7 = .ok (.if_icmp .ge 7, 3) := by decide +kernel
theorem dX4_isReel_10 : decode cX4_isReel 10 = .ok (.iconst 1, 1) := by decide +kernel
theorem dX4_isReel_11 : decode cX4_isReel 11 = .ok (.goto 4, 3) := by decide +kernel
theorem dX4_isReel_14 : decode cX4_isReel 14 = .ok (.iconst 0, 1) := by decide +kernel
theorem dX4_isReel_15 : decode cX4_isReel 15 = .ok (.ireturn, 1) := by decide +kernel
theorem dX4_isCutFrom_0 : decode cX4_isCutFrom 0 = .ok (.iconst 0, 1) := by decide +kernel
theorem dX4_isCutFrom_1 : decode cX4_isCutFrom 1 = .ok (.istore_n 2, 1) := by decide +kernel
theorem dX4_isCutFrom_2 : decode cX4_isCutFrom 2 = .ok (.iconst 0, 1) := by decide +kernel
theorem dX4_isCutFrom_3 : decode cX4_isCutFrom 3 = .ok (.istore_n 3, 1) := by decide +kernel
theorem dX4_isCutFrom_4 : decode cX4_isCutFrom 4 = .ok (.iload_n 3, 1) := by decide +kernel
theorem dX4_isCutFrom_5 : decode cX4_isCutFrom 5 = .ok (.aload_n 0, 1) := by decide +kernel
theorem dX4_isCutFrom_6 : decode cX4_isCutFrom 6 = .ok (.getfield 143, 3) := by decide +kernel
theorem dX4_isCutFrom_9 : decode cX4_isCutFrom 9 = .ok (.if_icmp .ge 27, 3) := by decide +kernel
theorem dX4_isCutFrom_12 : decode cX4_isCutFrom 12 = .ok (.iload_n 2, 1) := by decide +kernel
theorem dX4_isCutFrom_13 : decode cX4_isCutFrom 13 = .ok (.aload_n 0, 1) := by decide +kernel
theorem dX4_isCutFrom_14 : decode cX4_isCutFrom 14 = .ok (.getfield 66, 3) := by decide +kernel
theorem dX4_isCutFrom_17 : decode cX4_isCutFrom 17 = .ok (.iload_n 3, 1) := by decide +kernel
theorem dX4_isCutFrom_18 : decode cX4_isCutFrom 18 = .ok (.iaload, 1) := by decide +kernel
theorem dX4_isCutFrom_19 : decode cX4_isCutFrom 19 = .ok (.iload_n 1, 1) := by decide +kernel
theorem dX4_isCutFrom_20 : decode cX4_isCutFrom 20 = .ok (.if_icmp .ne 7, 3) := by decide +kernel
theorem dX4_isCutFrom_23 : decode cX4_isCutFrom 23 = .ok (.iconst 1, 1) := by decide +kernel
theorem dX4_isCutFrom_24 : decode cX4_isCutFrom 24 = .ok (.goto 4, 3) := by decide +kernel
theorem dX4_isCutFrom_27 : decode cX4_isCutFrom 27 = .ok (.iconst 0, 1) := by decide +kernel
theorem dX4_isCutFrom_28 : decode cX4_isCutFrom 28 = .ok (.ior, 1) := by decide +kernel
theorem dX4_isCutFrom_29 : decode cX4_isCutFrom 29 = .ok (.istore_n 2, 1) := by decide +kernel
theorem dX4_isCutFrom_30 : decode cX4_isCutFrom 30 = .ok (.iinc 3 1, 3) := by decide +kernel
theorem dX4_isCutFrom_33 : decode cX4_isCutFrom 33 = .ok (.goto (-29), 3) := by decide +kernel
theorem dX4_isCutFrom_36 : decode cX4_isCutFrom 36 = .ok (.iload_n 2, 1) := by decide +kernel
theorem dX4_isCutFrom_37 : decode cX4_isCutFrom 37 = .ok (.ireturn, 1) := by decide +kernel
theorem dX4_hang_0 : decode cX4_hang 0 = .ok (.aload_n 0, 1) := by decide +kernel
theorem dX4_hang_1 : decode cX4_hang 1 = .ok (.iload_n 2, 1) := by decide +kernel
theorem dX4_hang_2 : decode cX4_hang 2 = .ok (.invokevirtual 122, 3) := by decide +kernel
theorem dX4_hang_5 : decode cX4_hang 5 = .ok (.ifCond .ne 6, 3) := by decide +kernel
theorem dX4_hang_8 : decode cX4_hang 8 = .ok (.bipush (-2), 2) := by decide +kernel
theorem dX4_hang_10 : decode cX4_hang 10 = .ok (.ireturn, 1) := by decide +kernel
theorem dX4_hang_11 : decode cX4_hang 11 = .ok (.aload_n 0, 1) := by decide +kernel
theorem dX4_hang_12 : decode cX4_hang 12 = .ok (.iload_n 1, 1) := by decide +kernel
theorem dX4_hang_13 : decode cX4_hang 13 = .ok (.invokevirtual 204, 3) := by decide +kernel
theorem dX4_hang_16 : decode cX4_hang 16 = .ok (.ifCond .ne 6, 3) := by decide +kernel
theorem dX4_hang_19 : decode cX4_hang 19 = .ok (.bipush (-11), 2) := by decide +kernel
theorem dX4_hang_21 : decode cX4_hang 21 = .ok (.ireturn, 1) := by decide +kernel
theorem dX4_hang_22 : decode cX4_hang 22 = .ok (.aload_n 0, 1) := by decide +kernel
theorem dX4_hang_23 : decode cX4_hang 23 = .ok (.getfield 57, 3) := by decide +kernel
theorem dX4_hang_26 : decode cX4_hang 26 = .ok (.iload_n 1, 1) := by decide +kernel
theorem dX4_hang_27 : decode cX4_hang 27 = .ok (.iaload, 1) := by decide +kernel
theorem dX4_hang_28 : decode cX4_hang 28 = .ok (.ifCond .lt 6, 3) := by decide +kernel
theorem dX4_hang_31 : decode cX4_hang 31 = .ok (.bipush (-2), 2) := by decide +kernel
theorem dX4_hang_33 : decode cX4_hang 33 = .ok (.ireturn, 1) := by decide +kernel
theorem dX4_hang_34 : decode cX4_hang 34 = .ok (.aload_n 0, 1) := by decide +kernel
theorem dX4_hang_35 : decode cX4_hang 35 = .ok (.getfield 57, 3) := by decide +kernel
theorem dX4_hang_38 : decode cX4_hang 38 = .ok (.iload_n 1, 1) := by decide +kernel
theorem dX4_hang_39 : decode cX4_hang 39 = .ok (.iload_n 2, 1) := by decide +kernel
theorem dX4_hang_40 : decode cX4_hang 40 = .ok (.iastore, 1) := by decide +kernel
theorem dX4_hang_41 : decode cX4_hang 41 = .ok (.aload_n 0, 1) := by decide +kernel
theorem dX4_hang_42 : decode cX4_hang 42 = .ok (.getfield 19, 3) := by decide +kernel
theorem dX4_hang_45 : decode cX4_hang 45 = .ok (.iload_n 2, 1) := by decide +kernel
theorem dX4_hang_46 : decode cX4_hang 46 = .ok (.iconst 2, 1) := by decide +kernel
theorem dX4_hang_47 : decode cX4_hang 47 = .ok (.iastore, 1) := by decide +kernel
theorem dX4_hang_48 : decode cX4_hang 48 = .ok (.aload_n 0, 1) := by decide +kernel
theorem dX4_hang_49 : decode cX4_hang 49 = .ok (.getfield 13, 3) := by decide +kernel
theorem dX4_hang_52 : decode cX4_hang 52 = .ok (.iload_n 2, 1) := by decide +kernel
theorem dX4_hang_53 : decode cX4_hang 53 = .ok (.iaload, 1) := by decide +kernel
theorem dX4_hang_54 : decode cX4_hang 54 = .ok (.ireturn, 1) := by decide +kernel
theorem dX4_off_0 : decode cX4_off 0 = .ok (.aload_n 0, 1) := by decide +kernel
theorem dX4_off_1 : decode cX4_off 1 = .ok (.iload_n 1, 1) := by decide +kernel
theorem dX4_off_2 : decode cX4_off 2 = .ok (.invokevirtual 204, 3) := by decide +kernel
theorem dX4_off_5 : decode cX4_off 5 = .ok (.ifCond .ne 6, 3) := by decide +kernel
theorem dX4_off_8 : decode cX4_off 8 = .ok (.bipush (-11), 2) := by decide +kernel
theorem dX4_off_10 : decode cX4_off 10 = .ok (.ireturn, 1) := by decide +kernel
theorem dX4_off_11 : decode cX4_off 11 = .ok (.aload_n 0, 1) := by decide +kernel
theorem dX4_off_12 : decode cX4_off 12 = .ok (.getfield 57, 3) := by decide +kernel
theorem dX4_off_15 : decode cX4_off 15 = .ok (.iload_n 1, 1) := by decide +kernel
theorem dX4_off_16 : decode cX4_off 16 = .ok (.iaload, 1) := by decide +kernel
theorem dX4_off_17 : decode cX4_off 17 = .ok (.ifCond .ge 6, 3) := by decide +kernel
theorem dX4_off_20 : decode cX4_off 20 = .ok (.bipush (-10), 2) := by decide +kernel
theorem dX4_off_22 : decode cX4_off 22 = .ok (.ireturn, 1) := by decide +kernel
theorem dX4_off_23 : decode cX4_off 23 = .ok (.aload_n 0, 1) := by decide +kernel
theorem dX4_off_24 : decode cX4_off 24 = .ok (.iload_n 1, 1) := by decide +kernel
theorem dX4_off_25 : decode cX4_off 25 = .ok (.invokevirtual 207, 3) := by decide +kernel
theorem dX4_off_28 : decode cX4_off 28 = .ok (.ifCond .eq 6, 3) := by decide +kernel
theorem dX4_off_31 : decode cX4_off 31 = .ok (.bipush (-2), 2) := by decide +kernel
theorem dX4_off_33 : decode cX4_off 33 = .ok (.ireturn, 1) := by decide +kernel
theorem dX4_off_34 : decode cX4_off 34 = .ok (.aload_n 0, 1) := by decide +kernel
theorem dX4_off_35 : decode cX4_off 35 = .ok (.getfield 57, 3) := by decide +kernel
theorem dX4_off_38 : decode cX4_off 38 = .ok (.iload_n 1, 1) := by decide +kernel
theorem dX4_off_39 : decode cX4_off 39 = .ok (.iaload, 1) := by decide +kernel
theorem dX4_off_40 : decode cX4_off 40 = .ok (.istore_n 2, 1) := by decide +kernel
theorem dX4_off_41 : decode cX4_off 41 = .ok (.aload_n 0, 1) := by decide +kernel
theorem dX4_off_42 : decode cX4_off 42 = .ok (.getfield 57, 3) := by decide +kernel
theorem dX4_off_45 : decode cX4_off 45 = .ok (.iload_n 1, 1) := by decide +kernel
theorem dX4_off_46 : decode cX4_off 46 = .ok (.iconst (-1), 1) := by decide +kernel
theorem dX4_off_47 : decode cX4_off 47 = .ok (.iastore, 1) := by decide +kernel
theorem dX4_off_48 : decode cX4_off 48 = .ok (.aload_n 0, 1) := by decide +kernel
theorem dX4_off_49 : decode cX4_off 49 = .ok (.getfield 19, 3) := by decide +kernel
theorem dX4_off_52 : decode cX4_off 52 = .ok (.iload_n 2, 1) := by decide +kernel
theorem dX4_off_53 : decode cX4_off 53 = .ok (.iconst 0, 1) := by decide +kernel
theorem dX4_off_54 : decode cX4_off 54 = .ok (.iastore, 1) := by decide +kernel
theorem dX4_off_55 : decode cX4_off 55 = .ok (.iload_n 2, 1) := by decide +kernel
theorem dX4_off_56 : decode cX4_off 56 = .ok (.ireturn, 1) := by decide +kernel
theorem dX4_above_0 : decode cX4_above 0 = .ok (.iload_n 0, 1) := by decide +kernel
theorem dX4_above_1 : decode cX4_above 1 = .ok (.iconst 1, 1) := by decide +kernel
theorem dX4_above_2 : decode cX4_above 2 = .ok (.if_icmp .eq 8, 3) := by decide +kernel
theorem dX4_above_5 : decode cX4_above 5 = .ok (.iload_n 0, 1) := by decide +kernel
theorem dX4_above_6 : decode cX4_above 6 = .ok (.iconst 4, 1) := by decide +kernel
theorem dX4_above_7 : decode cX4_above 7 = .ok (.if_icmp .ne 7, 3) := by decide +kernel
theorem dX4_above_10 : decode cX4_above 10 = .ok (.iconst 0, 1) := by decide +kernel
theorem dX4_above_11 : decode cX4_above 11 = .ok (.goto 27, 3) := by decide +kernel
theorem dX4_above_14 : decode cX4_above 14 = .ok (.iload_n 0, 1) := by decide +kernel
theorem dX4_above_15 : decode cX4_above 15 = .ok (.iconst 2, 1) := by decide +kernel
theorem dX4_above_16 : decode cX4_above 16 = .ok (.if_icmp .ne 7, 3) := by decide +kernel
theorem dX4_above_19 : decode cX4_above 19 = .ok (.iconst 1, 1) := by decide +kernel
theorem dX4_above_20 : decode cX4_above 20 = .ok (.goto 18, 3) := by decide +kernel
theorem dX4_above_23 : decode cX4_above 23 = .ok (.iload_n 0, 1) := by decide +kernel
theorem dX4_above_24 : decode cX4_above 24 = .ok (.iconst 3, 1) := by decide +kernel
theorem dX4_above_25 : decode cX4_above 25 = .ok (.if_icmp .eq 8, 3) := by decide +kernel
theorem dX4_above_28 : decode cX4_above 28 = .ok (.iload_n 0, 1) := by decide +kernel
theorem dX4_above_29 : decode cX4_above 29 = .ok (.iconst 5, 1) := by decide +kernel
theorem dX4_above_30 : decode cX4_above 30 = .ok (.if_icmp .ne 7, 3) := by decide +kernel
theorem dX4_above_33 : decode cX4_above 33 = .ok (.iconst 2, 1) := by decide +kernel
theorem dX4_above_34 : decode cX4_above 34 = .ok (.goto 4, 3) := by decide +kernel
theorem dX4_above_37 : decode cX4_above 37 = .ok (.iconst (-1), 1) := by decide +kernel
theorem dX4_above_38 : decode cX4_above 38 = .ok (.ireturn, 1) := by decide +kernel
theorem dX4_take_0 : decode cX4_take 0 = .ok (.iload_n 2, 1) := by decide +kernel
theorem dX4_take_1 : decode cX4_take 1 = .ok (.ifCond .lt 8, 3) := by decide +kernel
theorem dX4_take_4 : decode cX4_take 4 = .ok (.iload_n 2, 1) := by decide +kernel
theorem dX4_take_5 : decode cX4_take 5 = .ok (.iconst 5, 1) := by decide +kernel
theorem dX4_take_6 : decode cX4_take 6 = .ok (.if_icmp .le 6, 3) := by decide +kernel
theorem dX4_take_9 : decode cX4_take 9 = .ok (.bipush (-2), 2) := by decide +kernel
theorem dX4_take_11 : decode cX4_take 11 = .ok (.ireturn, 1) := by decide +kernel
theorem dX4_take_12 : decode cX4_take 12 = .ok (.aload_n 0, 1) := by decide +kernel
theorem dX4_take_13 : decode cX4_take 13 = .ok (.iload_n 1, 1) := by decide +kernel
theorem dX4_take_14 : decode cX4_take 14 = .ok (.invokevirtual 204, 3) := by decide +kernel
theorem dX4_take_17 : decode cX4_take 17 = .ok (.ifCond .ne 6, 3) := by decide +kernel
theorem dX4_take_20 : decode cX4_take 20 = .ok (.bipush (-11), 2) := by decide +kernel
theorem dX4_take_22 : decode cX4_take 22 = .ok (.ireturn, 1) := by decide +kernel
theorem dX4_take_23 : decode cX4_take 23 = .ok (.aload_n 0, 1) := by decide +kernel
theorem dX4_take_24 : decode cX4_take 24 = .ok (.getfield 57, 3) := by decide +kernel
theorem dX4_take_27 : decode cX4_take 27 = .ok (.iload_n 1, 1) := by decide +kernel
theorem dX4_take_28 : decode cX4_take 28 = .ok (.iaload, 1) := by decide +kernel
theorem dX4_take_29 : decode cX4_take 29 = .ok (.ifCond .ge 6, 3) := by decide +kernel
theorem dX4_take_32 : decode cX4_take 32 = .ok (.bipush (-10), 2) := by decide +kernel
theorem dX4_take_34 : decode cX4_take 34 = .ok (.ireturn, 1) := by decide +kernel
theorem dX4_take_35 : decode cX4_take 35 = .ok (.aload_n 0, 1) := by decide +kernel
theorem dX4_take_36 : decode cX4_take 36 = .ok (.getfield 9, 3) := by decide +kernel
theorem dX4_take_39 : decode cX4_take 39 = .ok (.aload_n 0, 1) := by decide +kernel
theorem dX4_take_40 : decode cX4_take 40 = .ok (.getfield 57, 3) := by decide +kernel
theorem dX4_take_43 : decode cX4_take 43 = .ok (.iload_n 1, 1) := by decide +kernel
theorem dX4_take_44 : decode cX4_take 44 = .ok (.iaload, 1) := by decide +kernel
theorem dX4_take_45 : decode cX4_take 45 = .ok (.iaload, 1) := by decide +kernel
theorem dX4_take_46 : decode cX4_take 46 = .ok (.istore_n 3, 1) := by decide +kernel
theorem dX4_take_47 : decode cX4_take 47 = .ok (.iload_n 3, 1) := by decide +kernel
theorem dX4_take_48 : decode cX4_take 48 = .ok (.ifCond .lt 16, 3) := by decide +kernel
theorem dX4_take_51 : decode cX4_take 51 = .ok (.iload_n 3, 1) := by decide +kernel
theorem dX4_take_52 : decode cX4_take 52 = .ok (.iload_n 2, 1) := by decide +kernel
theorem dX4_take_53 : decode cX4_take 53 = .ok (.if_icmp .eq 11, 3) := by decide +kernel
theorem dX4_take_56 : decode cX4_take 56 = .ok (.iload_n 3, 1) := by decide +kernel
theorem dX4_take_57 : decode cX4_take 57 = .ok (.invokestatic 210, 3) := by decide +kernel
theorem dX4_take_60 : decode cX4_take 60 = .ok (.istore_n 3, 1) := by decide +kernel
theorem dX4_take_61 : decode cX4_take 61 = .ok (.goto (-14), 3) := by decide +kernel
theorem dX4_take_64 : decode cX4_take 64 = .ok (.iload_n 3, 1) := by decide +kernel
theorem dX4_take_65 : decode cX4_take 65 = .ok (.iload_n 2, 1) := by decide +kernel
theorem dX4_take_66 : decode cX4_take 66 = .ok (.if_icmp .ne 12, 3) := by decide +kernel
theorem dX4_take_69 : decode cX4_take 69 = .ok (.aload_n 0, 1) := by decide +kernel
theorem dX4_take_70 : decode cX4_take 70 = .ok (.getfield 57, 3) := by decide +kernel
theorem dX4_take_73 : decode cX4_take 73 = .ok (.iload_n 1, 1) := by decide +kernel
theorem dX4_take_74 : decode cX4_take 74 = .ok (.iaload, 1) := by decide +kernel
theorem dX4_take_75 : decode cX4_take 75 = .ok (.goto 5, 3) := by decide +kernel
theorem dX4_take_78 : decode cX4_take 78 = .ok (.bipush (-12), 2) := by decide +kernel
theorem dX4_take_80 : decode cX4_take 80 = .ok (.ireturn, 1) := by decide +kernel
theorem dX4_order_0 : decode cX4_order 0 = .ok (.iload_n 1, 1) := by decide +kernel
theorem dX4_order_1 : decode cX4_order 1 = .ok (.iconst 1, 1) := by decide +kernel
theorem dX4_order_2 : decode cX4_order 2 = .ok (.if_icmp .lt 29, 3) := by decide +kernel
theorem dX4_order_5 : decode cX4_order 5 = .ok (.iload_n 1, 1) := by decide +kernel
theorem dX4_order_6 : decode cX4_order 6 = .ok (.sipush 2000, 3) := by decide +kernel
theorem dX4_order_9 : decode cX4_order 9 = .ok (.if_icmp .gt 22, 3) := by decide +kernel
theorem dX4_order_12 : decode cX4_order 12 = .ok (.iload_n 2, 1) := by decide +kernel
theorem dX4_order_13 : decode cX4_order 13 = .ok (.ifCond .lt 18, 3) := by decide +kernel
theorem dX4_order_16 : decode cX4_order 16 = .ok (.iload_n 2, 1) := by decide +kernel
theorem dX4_order_17 : decode cX4_order 17 = .ok (.ldc 213, 2) := by decide +kernel
theorem dX4_order_19 : decode cX4_order 19 = .ok (.if_icmp .gt 12, 3) := by decide +kernel
theorem dX4_order_22 : decode cX4_order 22 = .ok (.aload_n 0, 1) := by decide +kernel
theorem dX4_order_23 : decode cX4_order 23 = .ok (.getfield 143, 3) := by decide +kernel
theorem dX4_order_26 : decode cX4_order 26 = .ok (.bipush 6, 2) := by decide +kernel
theorem dX4_order_28 : decode cX4_order 28 = .ok (.if_icmp .ne 6, 3) := by decide +kernel
theorem dX4_order_31 : decode cX4_order 31 = .ok (.bipush (-2), 2) := by decide +kernel
theorem dX4_order_33 : decode cX4_order 33 = .ok (.ireturn, 1) := by decide +kernel
theorem dX4_order_34 : decode cX4_order 34 = .ok (.aload_n 0, 1) := by decide +kernel
theorem dX4_order_35 : decode cX4_order 35 = .ok (.getfield 60, 3) := by decide +kernel
theorem dX4_order_38 : decode cX4_order 38 = .ok (.aload_n 0, 1) := by decide +kernel
theorem dX4_order_39 : decode cX4_order 39 = .ok (.getfield 143, 3) := by decide +kernel
theorem dX4_order_42 : decode cX4_order 42 = .ok (.iload_n 1, 1) := by decide +kernel
theorem dX4_order_43 : decode cX4_order 43 = .ok (.iastore, 1) := by decide +kernel
theorem dX4_order_44 : decode cX4_order 44 = .ok (.aload_n 0, 1) := by decide +kernel
theorem dX4_order_45 : decode cX4_order 45 = .ok (.getfield 63, 3) := by decide +kernel
theorem dX4_order_48 : decode cX4_order 48 = .ok (.aload_n 0, 1) := by decide +kernel
theorem dX4_order_49 : decode cX4_order 49 = .ok (.getfield 143, 3) := by decide +kernel
theorem dX4_order_52 : decode cX4_order 52 = .ok (.iload_n 2, 1) := by decide +kernel
theorem dX4_order_53 : decode cX4_order 53 = .ok (.i2f, 1) := by decide +kernel
theorem dX4_order_54 : decode cX4_order 54 = .ok (.ldc 118, 2) := by decide +kernel
theorem dX4_order_56 : decode cX4_order 56 = .ok (.fmul, 1) := by decide +kernel
theorem dX4_order_57 : decode cX4_order 57 = .ok (.fastore, 1) := by decide +kernel
theorem dX4_order_58 : decode cX4_order 58 = .ok (.aload_n 0, 1) := by decide +kernel
theorem dX4_order_59 : decode cX4_order 59 = .ok (.getfield 66, 3) := by decide +kernel
theorem dX4_order_62 : decode cX4_order 62 = .ok (.aload_n 0, 1) := by decide +kernel
theorem dX4_order_63 : decode cX4_order 63 = .ok (.getfield 143, 3) := by decide +kernel
theorem dX4_order_66 : decode cX4_order 66 = .ok (.iconst (-1), 1) := by decide +kernel
theorem dX4_order_67 : decode cX4_order 67 = .ok (.iastore, 1) := by decide +kernel
theorem dX4_order_68 : decode cX4_order 68 = .ok (.aload_n 0, 1) := by decide +kernel
theorem dX4_order_69 : decode cX4_order 69 = .ok (.getfield 69, 3) := by decide +kernel
theorem dX4_order_72 : decode cX4_order 72 = .ok (.aload_n 0, 1) := by decide +kernel
theorem dX4_order_73 : decode cX4_order 73 = .ok (.getfield 143, 3) := by decide +kernel
theorem dX4_order_76 : decode cX4_order 76 = .ok (.iconst 0, 1) := by decide +kernel
theorem dX4_order_77 : decode cX4_order 77 = .ok (.iastore, 1) := by decide +kernel
theorem dX4_order_78 : decode cX4_order 78 = .ok (.aload_n 0, 1) := by decide +kernel
theorem dX4_order_79 : decode cX4_order 79 = .ok (.dup, 1) := by decide +kernel
theorem dX4_order_80 : decode cX4_order 80 = .ok (.getfield 143, 3) := by decide +kernel
theorem dX4_order_83 : decode cX4_order 83 = .ok (.iconst 1, 1) := by decide +kernel
theorem dX4_order_84 : decode cX4_order 84 = .ok (.iadd, 1) := by decide +kernel
theorem dX4_order_85 : decode cX4_order 85 = .ok (.putfield 143, 3) := by decide +kernel
theorem dX4_order_88 : decode cX4_order 88 = .ok (.aload_n 0, 1) := by decide +kernel
theorem dX4_order_89 : decode cX4_order 89 = .ok (.getfield 143, 3) := by decide +kernel
theorem dX4_order_92 : decode cX4_order 92 = .ok (.iconst 1, 1) := by decide +kernel
theorem dX4_order_93 : decode cX4_order 93 = .ok (.isub, 1) := by decide +kernel
theorem dX4_order_94 : decode cX4_order 94 = .ok (.ireturn, 1) := by decide +kernel
theorem dX4_markTaken_0 : decode cX4_markTaken 0 = .ok (.iconst 0, 1) := by decide +kernel
theorem dX4_markTaken_1 : decode cX4_markTaken 1 = .ok (.istore_n 2, 1) := by decide +kernel
theorem dX4_markTaken_2 : decode cX4_markTaken 2 = .ok (.iload_n 2, 1) := by decide +kernel
theorem dX4_markTaken_3 : decode cX4_markTaken 3 = .ok (.sipush 2001, 3) := by decide +kernel
theorem dX4_markTaken_6 : decode cX4_markTaken 6 = .ok (.if_icmp .ge 16, 3) := by decide +kernel
theorem dX4_markTaken_9 : decode cX4_markTaken 9 = .ok (.aload_n 0, 1) := by decide +kernel
theorem dX4_markTaken_10 : decode cX4_markTaken 10 = .ok (.getfield 96, 3) := by decide +kernel
theorem dX4_markTaken_13 : decode cX4_markTaken 13 = .ok (.iload_n 2, 1) := by decide +kernel
theorem dX4_markTaken_14 : decode cX4_markTaken 14 = .ok (.iconst 0, 1) := by decide +kernel
theorem dX4_markTaken_15 : decode cX4_markTaken 15 = .ok (.bastore, 1) := by decide +kernel
theorem dX4_markTaken_16 : decode cX4_markTaken 16 = .ok (.iinc 2 1, 3) := by decide +kernel
theorem dX4_markTaken_19 : decode cX4_markTaken 19 = .ok (.goto (-17), 3) := by decide +kernel
theorem dX4_markTaken_22 : decode cX4_markTaken 22 = .ok (.iconst 0, 1) := by decide +kernel
theorem dX4_markTaken_23 : decode cX4_markTaken 23 = .ok (.istore_n 2, 1) := by decide +kernel
theorem dX4_markTaken_24 : decode cX4_markTaken 24 = .ok (.iload_n 2, 1) := by decide +kernel
theorem dX4_markTaken_25 : decode cX4_markTaken 25 = .ok (.aload_n 0, 1) := by decide +kernel
theorem dX4_markTaken_26 : decode cX4_markTaken 26 = .ok (.getfield 143, 3) := by decide +kernel
theorem dX4_markTaken_29 : decode cX4_markTaken 29 = .ok (.if_icmp .ge 51, 3) := by decide +kernel
theorem dX4_markTaken_32 : decode cX4_markTaken 32 = .ok (.iconst 0, 1) := by decide +kernel
theorem dX4_markTaken_33 : decode cX4_markTaken 33 = .ok (.istore_n 3, 1) := by decide +kernel
theorem dX4_markTaken_34 : decode cX4_markTaken 34 = .ok (.iload_n 3, 1) := by decide +kernel
theorem dX4_markTaken_35 : decode cX4_markTaken 35 = .ok (.aload_n 0, 1) := by decide +kernel
theorem dX4_markTaken_36 : decode cX4_markTaken 36 = .ok (.getfield 60, 3) := by decide +kernel
theorem dX4_markTaken_39 : decode cX4_markTaken 39 = .ok (.iload_n 2, 1) := by decide +kernel
theorem dX4_markTaken_40 : decode cX4_markTaken 40 = .ok (.iaload, 1) := by decide +kernel
theorem dX4_markTaken_41 : decode cX4_markTaken 41 = .ok (.if_icmp .ge 33, 3) := by decide +kernel
theorem dX4_markTaken_44 : decode cX4_markTaken 44 = .ok (.aload_n 0, 1) := by decide +kernel
theorem dX4_markTaken_45 : decode cX4_markTaken 45 = .ok (.getfield 66, 3) := by decide +kernel
theorem dX4_markTaken_48 : decode cX4_markTaken 48 = .ok (.iload_n 2, 1) := by decide +kernel
theorem dX4_markTaken_49 : decode cX4_markTaken 49 = .ok (.iaload, 1) := by decide +kernel
theorem dX4_markTaken_50 : decode cX4_markTaken 50 = .ok (.iload_n 1, 1) := by decide +kernel
theorem dX4_markTaken_51 : decode cX4_markTaken 51 = .ok (.if_icmp .ne 23, 3) := by decide +kernel
theorem dX4_markTaken_54 : decode cX4_markTaken 54 = .ok (.aload_n 0, 1) := by decide +kernel
theorem dX4_markTaken_55 : decode cX4_markTaken 55 = .ok (.getfield 96, 3) := by decide +kernel
theorem dX4_markTaken_58 : decode cX4_markTaken 58 = .ok (.aload_n 0, 1) := by decide +kernel
theorem dX4_markTaken_59 : decode cX4_markTaken 59 = .ok (.getfield 69, 3) := by decide +kernel
theorem dX4_markTaken_62 : decode cX4_markTaken 62 = .ok (.iload_n 2, 1) := by decide +kernel
theorem dX4_markTaken_63 : decode cX4_markTaken 63 = .ok (.iaload, 1) := by decide +kernel
theorem dX4_markTaken_64 : decode cX4_markTaken 64 = .ok (.iload_n 3, 1) := by decide +kernel
theorem dX4_markTaken_65 : decode cX4_markTaken 65 = .ok (.iadd, 1) := by decide +kernel
theorem dX4_markTaken_66 : decode cX4_markTaken 66 = .ok (.iconst 1, 1) := by decide +kernel
theorem dX4_markTaken_67 : decode cX4_markTaken 67 = .ok (.bastore, 1) := by decide +kernel
theorem dX4_markTaken_68 : decode cX4_markTaken 68 = .ok (.iinc 3 1, 3) := by decide +kernel
theorem dX4_markTaken_71 : decode cX4_markTaken 71 = .ok (.goto (-37), 3) := by decide +kernel
theorem dX4_markTaken_74 : decode cX4_markTaken 74 = .ok (.iinc 2 1, 3) := by decide +kernel
theorem dX4_markTaken_77 : decode cX4_markTaken 77 = .ok (.goto (-53), 3) := by decide +kernel
theorem dX4_markTaken_80 : decode cX4_markTaken 80 = .ok (.return_, 1) := by decide +kernel
theorem dX4_look_0 : decode cX4_look 0 = .ok (.iconst 0, 1) := by decide +kernel
theorem dX4_look_1 : decode cX4_look 1 = .ok (.istore_n 2, 1) := by decide +kernel
theorem dX4_look_2 : decode cX4_look 2 = .ok (.aload_n 0, 1) := by decide +kernel
theorem dX4_look_3 : decode cX4_look 3 = .ok (.getfield 57, 3) := by decide +kernel
theorem dX4_look_6 : decode cX4_look 6 = .ok (.iload_n 1, 1) := by decide +kernel
theorem dX4_look_7 : decode cX4_look 7 = .ok (.iaload, 1) := by decide +kernel
theorem dX4_look_8 : decode cX4_look 8 = .ok (.ifCond .lt 47, 3) := by decide +kernel
theorem dX4_look_11 : decode cX4_look 11 = .ok (.iload_n 2, 1) := by decide +kernel
theorem dX4_look_12 : decode cX4_look 12 = .ok (.aload_n 0, 1) := by decide +kernel
theorem dX4_look_13 : decode cX4_look 13 = .ok (.getfield 13, 3) := by decide +kernel
theorem dX4_look_16 : decode cX4_look 16 = .ok (.aload_n 0, 1) := by decide +kernel
theorem dX4_look_17 : decode cX4_look 17 = .ok (.getfield 57, 3) := by decide +kernel
theorem dX4_look_20 : decode cX4_look 20 = .ok (.iload_n 1, 1) := by decide +kernel
theorem dX4_look_21 : decode cX4_look 21 = .ok (.iaload, 1) := by decide +kernel
theorem dX4_look_22 : decode cX4_look 22 = .ok (.iaload, 1) := by decide +kernel
theorem dX4_look_23 : decode cX4_look 23 = .ok (.if_icmp .ge 32, 3) := by decide +kernel
theorem dX4_look_26 : decode cX4_look 26 = .ok (.aload_n 0, 1) := by decide +kernel
theorem dX4_look_27 : decode cX4_look 27 = .ok (.getfield 99, 3) := by decide +kernel
theorem dX4_look_30 : decode cX4_look 30 = .ok (.sipush 2001, 3) := by decide +kernel
theorem dX4_look_33 : decode cX4_look 33 = .ok (.iload_n 1, 1) := by decide +kernel
theorem dX4_look_34 : decode cX4_look 34 = .ok (.imul, 1) := by decide +kernel
theorem dX4_look_35 : decode cX4_look 35 = .ok (.iload_n 2, 1) := by decide +kernel
theorem dX4_look_36 : decode cX4_look 36 = .ok (.iadd, 1) := by decide +kernel
theorem dX4_look_37 : decode cX4_look 37 = .ok (.aload_n 0, 1) := by decide +kernel
theorem dX4_look_38 : decode cX4_look 38 = .ok (.aload_n 0, 1) := by decide +kernel
theorem dX4_look_39 : decode cX4_look 39 = .ok (.getfield 57, 3) := by decide +kernel
theorem dX4_look_42 : decode cX4_look 42 = .ok (.iload_n 1, 1) := by decide +kernel
theorem dX4_look_43 : decode cX4_look 43 = .ok (.iaload, 1) := by decide +kernel
theorem dX4_look_44 : decode cX4_look 44 = .ok (.iload_n 2, 1) := by decide +kernel
theorem dX4_look_45 : decode cX4_look 45 = .ok (.invokevirtual 163, 3) := by decide +kernel
theorem dX4_look_48 : decode cX4_look 48 = .ok (.fastore, 1) := by decide +kernel
theorem dX4_look_49 : decode cX4_look 49 = .ok (.iinc 2 1, 3) := by decide +kernel
theorem dX4_look_52 : decode cX4_look 52 = .ok (.goto (-50), 3) := by decide +kernel
theorem dX4_look_55 : decode cX4_look 55 = .ok (.return_, 1) := by decide +kernel
theorem dX4_fit_0 : decode cX4_fit 0 = .ok (.iconst 0, 1) := by decide +kernel
theorem dX4_fit_1 : decode cX4_fit 1 = .ok (.istore_n 3, 1) := by decide +kernel
theorem dX4_fit_2 : decode cX4_fit 2 = .ok (.aload_n 0, 1) := by decide +kernel
theorem dX4_fit_3 : decode cX4_fit 3 = .ok (.iload_n 2, 1) := by decide +kernel
theorem dX4_fit_4 : decode cX4_fit 4 = .ok (.invokevirtual 214, 3) := by decide +kernel
theorem dX4_fit_7 : decode cX4_fit 7 = .ok (.iconst 0, 1) := by decide +kernel
theorem dX4_fit_8 : decode cX4_fit 8 = .ok (.istore 4, 2) := by decide +kernel
theorem dX4_fit_10 : decode cX4_fit 10 = .ok (.iload 4, 2) := by decide +kernel
theorem dX4_fit_12 : decode cX4_fit 12 = .ok (.aload_n 0, 1) := by decide +kernel
theorem dX4_fit_13 : decode cX4_fit 13 = .ok (.getfield 13, 3) := by decide +kernel
theorem dX4_fit_16 : decode cX4_fit 16 = .ok (.aload_n 0, 1) := by decide +kernel
theorem dX4_fit_17 : decode cX4_fit 17 = .ok (.getfield 57, 3) := by decide +kernel
theorem dX4_fit_20 : decode cX4_fit 20 = .ok (.iload_n 2, 1) := by decide +kernel
theorem dX4_fit_21 : decode cX4_fit 21 = .ok (.iaload, 1) := by decide +kernel
theorem dX4_fit_22 : decode cX4_fit 22 = .ok (.iaload, 1) := by decide +kernel
theorem dX4_fit_23 : decode cX4_fit 23 = .ok (.if_icmp .ge 67, 3) := by decide +kernel
theorem dX4_fit_26 : decode cX4_fit 26 = .ok (.aload_n 0, 1) := by decide +kernel
theorem dX4_fit_27 : decode cX4_fit 27 = .ok (.getfield 96, 3) := by decide +kernel
theorem dX4_fit_30 : decode cX4_fit 30 = .ok (.iload 4, 2) := by decide +kernel
theorem dX4_fit_32 : decode cX4_fit 32 = .ok (.baload, 1) := by decide +kernel
theorem dX4_fit_33 : decode cX4_fit 33 = .ok (.ifCond .ne 26, 3) := by decide +kernel
theorem dX4_fit_36 : decode cX4_fit 36 = .ok (.aload_n 0, 1) := by decide +kernel
theorem dX4_fit_37 : decode cX4_fit 37 = .ok (.getfield 99, 3) := by decide +kernel
theorem dX4_fit_40 : decode cX4_fit 40 = .ok (.sipush 2001, 3) := by decide +kernel
theorem dX4_fit_43 : decode cX4_fit 43 = .ok (.iload_n 2, 1) := by decide +kernel
theorem dX4_fit_44 : decode cX4_fit 44 = .ok (.imul, 1) := by decide +kernel
theorem dX4_fit_45 : decode cX4_fit 45 = .ok (.iload 4, 2) := by decide +kernel
theorem dX4_fit_47 : decode cX4_fit 47 = .ok (.iadd, 1) := by decide +kernel
theorem dX4_fit_48 : decode cX4_fit 48 = .ok (.faload, 1) := by decide +kernel
theorem dX4_fit_49 : decode cX4_fit 49 = .ok (.aload_n 0, 1) := by decide +kernel
theorem dX4_fit_50 : decode cX4_fit 50 = .ok (.getfield 63, 3) := by decide +kernel
theorem dX4_fit_53 : decode cX4_fit 53 = .ok (.iload_n 1, 1) := by decide +kernel
theorem dX4_fit_54 : decode cX4_fit 54 = .ok (.faload, 1) := by decide +kernel
theorem dX4_fit_55 : decode cX4_fit 55 = .ok (.fcmp .g, 1) := by decide +kernel
theorem dX4_fit_56 : decode cX4_fit 56 = .ok (.ifCond .ge 7, 3) := by decide +kernel
theorem dX4_fit_59 : decode cX4_fit 59 = .ok (.iconst 0, 1) := by decide +kernel
theorem dX4_fit_60 : decode cX4_fit 60 = .ok (.goto 6, 3) := by decide +kernel
theorem dX4_fit_63 : decode cX4_fit 63 = .ok (.iload_n 3, 1) := by decide +kernel
theorem dX4_fit_64 : decode cX4_fit 64 = .ok (.iconst 1, 1) := by decide +kernel
theorem dX4_fit_65 : decode cX4_fit 65 = .ok (.iadd, 1) := by decide +kernel
theorem dX4_fit_66 : decode cX4_fit 66 = .ok (.istore_n 3, 1) := by decide +kernel
theorem dX4_fit_67 : decode cX4_fit 67 = .ok (.iload_n 3, 1) := by decide +kernel
theorem dX4_fit_68 : decode cX4_fit 68 = .ok (.aload_n 0, 1) := by decide +kernel
theorem dX4_fit_69 : decode cX4_fit 69 = .ok (.getfield 60, 3) := by decide +kernel
theorem dX4_fit_72 : decode cX4_fit 72 = .ok (.iload_n 1, 1) := by decide +kernel
theorem dX4_fit_73 : decode cX4_fit 73 = .ok (.iaload, 1) := by decide +kernel
theorem dX4_fit_74 : decode cX4_fit 74 = .ok (.if_icmp .ne 10, 3) := by decide +kernel
theorem dX4_fit_77 : decode cX4_fit 77 = .ok (.iload 4, 2) := by decide +kernel
theorem dX4_fit_79 : decode cX4_fit 79 = .ok (.iload_n 3, 1) := by decide +kernel
theorem dX4_fit_80 : decode cX4_fit 80 = .ok (.isub, 1) := by decide +kernel
theorem dX4_fit_81 : decode cX4_fit 81 = .ok (.iconst 1, 1) := by decide +kernel
theorem dX4_fit_82 : decode cX4_fit 82 = .ok (.iadd, 1) := by decide +kernel
theorem dX4_fit_83 : decode cX4_fit 83 = .ok (.ireturn, 1) := by decide +kernel
theorem dX4_fit_84 : decode cX4_fit 84 = .ok (.iinc 4 1, 3) := by decide +kernel
theorem dX4_fit_87 : decode cX4_fit 87 = .ok (.goto (-77), 3) := by decide +kernel
theorem dX4_fit_90 : decode cX4_fit 90 = .ok (.iconst (-1), 1) := by decide +kernel
theorem dX4_fit_91 : decode cX4_fit 91 = .ok (.ireturn, 1) := by decide +kernel
theorem dX4_cutFrom_0 : decode cX4_cutFrom 0 = .ok (.iconst 0, 1) := by decide +kernel
theorem dX4_cutFrom_1 : decode cX4_cutFrom 1 = .ok (.istore_n 3, 1) := by decide +kernel
theorem dX4_cutFrom_2 : decode cX4_cutFrom 2 = .ok (.iload_n 3, 1) := by decide +kernel
theorem dX4_cutFrom_3 : decode cX4_cutFrom 3 = .ok (.bipush 6, 2) := by decide +kernel
theorem dX4_cutFrom_5 : decode cX4_cutFrom 5 = .ok (.if_icmp .ge 52, 3) := by decide +kernel
theorem dX4_cutFrom_8 : decode cX4_cutFrom 8 = .ok (.iload_n 2, 1) := by decide +kernel
theorem dX4_cutFrom_9 : decode cX4_cutFrom 9 = .ok (.iload_n 3, 1) := by decide +kernel
theorem dX4_cutFrom_10 : decode cX4_cutFrom 10 = .ok (.ishr, 1) := by decide +kernel
theorem dX4_cutFrom_11 : decode cX4_cutFrom 11 = .ok (.iconst 1, 1) := by decide +kernel
theorem dX4_cutFrom_12 : decode cX4_cutFrom 12 = .ok (.iand, 1) := by decide +kernel
theorem dX4_cutFrom_13 : decode cX4_cutFrom 13 = .ok (.iconst 1, 1) := by decide +kernel
theorem dX4_cutFrom_14 : decode cX4_cutFrom 14 = .ok (.if_icmp .ne 12, 3) := by decide +kernel
theorem dX4_cutFrom_17 : decode cX4_cutFrom 17 = .ok (.aload_n 0, 1) := by decide +kernel
theorem dX4_cutFrom_18 : decode cX4_cutFrom 18 = .ok (.iload_n 1, 1) := by decide +kernel
theorem dX4_cutFrom_19 : decode cX4_cutFrom 19 = .ok (.iload_n 3, 1) := by decide +kernel
theorem dX4_cutFrom_20 : decode cX4_cutFrom 20 = .ok (.invokevirtual 218, 3) := by decide +kernel
theorem dX4_cutFrom_23 : decode cX4_cutFrom 23 = .ok (.goto 4, 3) := by decide +kernel
theorem dX4_cutFrom_26 : decode cX4_cutFrom 26 = .ok (.iconst (-1), 1) := by decide +kernel
theorem dX4_cutFrom_27 : decode cX4_cutFrom 27 = .ok (.istore 4, 2) := by decide +kernel
theorem dX4_cutFrom_29 : decode cX4_cutFrom 29 = .ok (.iload 4, 2) := by decide +kernel
theorem dX4_cutFrom_31 : decode cX4_cutFrom 31 = .ok (.ifCond .lt 20, 3) := by decide +kernel
theorem dX4_cutFrom_34 : decode cX4_cutFrom 34 = .ok (.aload_n 0, 1) := by decide +kernel
theorem dX4_cutFrom_35 : decode cX4_cutFrom 35 = .ok (.getfield 66, 3) := by decide +kernel
theorem dX4_cutFrom_38 : decode cX4_cutFrom 38 = .ok (.iload_n 1, 1) := by decide +kernel
theorem dX4_cutFrom_39 : decode cX4_cutFrom 39 = .ok (.iload_n 3, 1) := by decide +kernel
theorem dX4_cutFrom_40 : decode cX4_cutFrom 40 = .ok (.iastore, 1) := by decide +kernel
theorem dX4_cutFrom_41 : decode cX4_cutFrom 41 = .ok (.aload_n 0, 1) := by decide +kernel
theorem dX4_cutFrom_42 : decode cX4_cutFrom 42 = .ok (.getfield 69, 3) := by decide +kernel
theorem dX4_cutFrom_45 : decode cX4_cutFrom 45 = .ok (.iload_n 1, 1) := by decide +kernel
theorem dX4_cutFrom_46 : decode cX4_cutFrom 46 = .ok (.iload 4, 2) := by decide +kernel
theorem dX4_cutFrom_48 : decode cX4_cutFrom 48 = .ok (.iastore, 1) := by decide +kernel
theorem dX4_cutFrom_49 : decode cX4_cutFrom 49 = .ok (.iconst 1, 1) := by decide +kernel
theorem dX4_cutFrom_50 : decode cX4_cutFrom 50 = .ok (.ireturn, 1) := by decide +kernel
theorem dX4_cutFrom_51 : decode cX4_cutFrom 51 = .ok (.iinc 3 1, 3) := by decide +kernel
theorem dX4_cutFrom_54 : decode cX4_cutFrom 54 = .ok (.goto (-52), 3) := by decide +kernel
theorem dX4_cutFrom_57 : decode cX4_cutFrom 57 = .ok (.iconst 0, 1) := by decide +kernel
theorem dX4_cutFrom_58 : decode cX4_cutFrom 58 = .ok (.ireturn, 1) := by decide +kernel
theorem dX4_hungReels_0 : decode cX4_hungReels 0 = .ok (.iconst 0, 1) := by decide +kernel
theorem dX4_hungReels_1 : decode cX4_hungReels 1 = .ok (.istore_n 1, 1) := by decide +kernel
theorem dX4_hungReels_2 : decode cX4_hungReels 2 = .ok (.iconst 0, 1) := by decide +kernel
theorem dX4_hungReels_3 : decode cX4_hungReels 3 = .ok (.istore_n 2, 1) := by decide +kernel
theorem dX4_hungReels_4 : decode cX4_hungReels 4 = .ok (.iload_n 2, 1) := by decide +kernel
theorem dX4_hungReels_5 : decode cX4_hungReels 5 = .ok (.bipush 6, 2) := by decide +kernel
theorem dX4_hungReels_7 : decode cX4_hungReels 7 = .ok (.if_icmp .ge 33, 3) := by decide +kernel
theorem dX4_hungReels_10 : decode cX4_hungReels 10 = .ok (.iload_n 1, 1) := by decide +kernel
theorem dX4_hungReels_11 : decode cX4_hungReels 11 = .ok (.aload_n 0, 1) := by decide +kernel
theorem dX4_hungReels_12 : decode cX4_hungReels 12 = .ok (.getfield 57, 3) := by decide +kernel
theorem dX4_hungReels_15 : decode cX4_hungReels 15 = .ok (.iload_n 2, 1) := by decide +kernel
theorem dX4_hungReels_16 : decode cX4_hungReels 16 = .ok (.iaload, 1) := by decide +kernel
theorem dX4_hungReels_17 : decode cX4_hungReels 17 = .ok (.ifCond .lt 9, 3) := by decide +kernel
theorem dX4_hungReels_20 : decode cX4_hungReels 20 = .ok (.iconst 1, 1) := by decide +kernel
theorem dX4_hungReels_21 : decode cX4_hungReels 21 = .ok (.iload_n 2, 1) := by decide +kernel
theorem dX4_hungReels_22 : decode cX4_hungReels 22 = .ok (.ishl, 1) := by decide +kernel
theorem dX4_hungReels_23 : decode cX4_hungReels 23 = .ok (.goto 4, 3) := by decide +kernel
theorem dX4_hungReels_26 : decode cX4_hungReels 26 = .ok (.iconst 0, 1) := by decide +kernel
theorem dX4_hungReels_27 : decode cX4_hungReels 27 = .ok (.ior, 1) := by decide +kernel
theorem dX4_hungReels_28 : decode cX4_hungReels 28 = .ok (.istore_n 1, 1) := by decide +kernel
theorem dX4_hungReels_29 : decode cX4_hungReels 29 = .ok (.aload_n 0, 1) := by decide +kernel
theorem dX4_hungReels_30 : decode cX4_hungReels 30 = .ok (.iload_n 2, 1) := by decide +kernel
theorem dX4_hungReels_31 : decode cX4_hungReels 31 = .ok (.invokevirtual 222, 3) := by decide +kernel
theorem dX4_hungReels_34 : decode cX4_hungReels 34 = .ok (.iinc 2 1, 3) := by decide +kernel
theorem dX4_hungReels_37 : decode cX4_hungReels 37 = .ok (.goto (-33), 3) := by decide +kernel
theorem dX4_hungReels_40 : decode cX4_hungReels 40 = .ok (.iload_n 1, 1) := by decide +kernel
theorem dX4_hungReels_41 : decode cX4_hungReels 41 = .ok (.ireturn, 1) := by decide +kernel
theorem dX4_cut_0 : decode cX4_cut 0 = .ok (.iload_n 1, 1) := by decide +kernel
theorem dX4_cut_1 : decode cX4_cut 1 = .ok (.ifCond .lt 20, 3) := by decide +kernel
theorem dX4_cut_4 : decode cX4_cut 4 = .ok (.iload_n 1, 1) := by decide +kernel
theorem dX4_cut_5 : decode cX4_cut 5 = .ok (.aload_n 0, 1) := by decide +kernel
theorem dX4_cut_6 : decode cX4_cut 6 = .ok (.getfield 143, 3) := by decide +kernel
theorem dX4_cut_9 : decode cX4_cut 9 = .ok (.if_icmp .ge 12, 3) := by decide +kernel
theorem dX4_cut_12 : decode cX4_cut 12 = .ok (.aload_n 0, 1) := by decide +kernel
theorem dX4_cut_13 : decode cX4_cut 13 = .ok (.getfield 66, 3) := by decide +kernel
theorem dX4_cut_16 : decode cX4_cut 16 = .ok (.iload_n 1, 1) := by decide +kernel
theorem dX4_cut_17 : decode cX4_cut 17 = .ok (.iaload, 1) := by decide +kernel
theorem dX4_cut_18 : decode cX4_cut 18 = .ok (.ifCond .lt 6, 3) := by decide +kernel
theorem dX4_cut_21 : decode cX4_cut 21 = .ok (.bipush (-2), 2) := by decide +kernel
theorem dX4_cut_23 : decode cX4_cut 23 = .ok (.ireturn, 1) := by decide +kernel
theorem dX4_cut_24 : decode cX4_cut 24 = .ok (.aload_n 0, 1) := by decide +kernel
theorem dX4_cut_25 : decode cX4_cut 25 = .ok (.iload_n 1, 1) := by decide +kernel
theorem dX4_cut_26 : decode cX4_cut 26 = .ok (.aload_n 0, 1) := by decide +kernel
theorem dX4_cut_27 : decode cX4_cut 27 = .ok (.invokevirtual 225, 3) := by decide +kernel
theorem dX4_cut_30 : decode cX4_cut 30 = .ok (.invokevirtual 229, 3) := by decide +kernel
theorem dX4_cut_33 : decode cX4_cut 33 = .ok (.ifCond .eq 23, 3) := by decide +kernel
theorem dX4_cut_36 : decode cX4_cut 36 = .ok (.sipush 10000, 3) := by decide +kernel
theorem dX4_cut_39 : decode cX4_cut 39 = .ok (.aload_n 0, 1) := by decide +kernel
theorem dX4_cut_40 : decode cX4_cut 40 = .ok (.getfield 66, 3) := by decide +kernel
theorem dX4_cut_43 : decode cX4_cut 43 = .ok (.iload_n 1, 1) := by decide +kernel
theorem dX4_cut_44 : decode cX4_cut 44 = .ok (.iaload, 1) := by decide +kernel
theorem dX4_cut_45 : decode cX4_cut 45 = .ok (.imul, 1) := by decide +kernel
theorem dX4_cut_46 : decode cX4_cut 46 = .ok (.aload_n 0, 1) := by decide +kernel
theorem dX4_cut_47 : decode cX4_cut 47 = .ok (.getfield 69, 3) := by decide +kernel
theorem dX4_cut_50 : decode cX4_cut 50 = .ok (.iload_n 1, 1) := by decide +kernel
theorem dX4_cut_51 : decode cX4_cut 51 = .ok (.iaload, 1) := by decide +kernel
theorem dX4_cut_52 : decode cX4_cut 52 = .ok (.iadd, 1) := by decide +kernel
theorem dX4_cut_53 : decode cX4_cut 53 = .ok (.goto 4, 3) := by decide +kernel
theorem dX4_cut_56 : decode cX4_cut 56 = .ok (.iconst (-1), 1) := by decide +kernel
theorem dX4_cut_57 : decode cX4_cut 57 = .ok (.ireturn, 1) := by decide +kernel
theorem dX4_join_0 : decode cX4_join 0 = .ok (.iload_n 1, 1) := by decide +kernel
theorem dX4_join_1 : decode cX4_join 1 = .ok (.ifCond .lt 20, 3) := by decide +kernel
theorem dX4_join_4 : decode cX4_join 4 = .ok (.iload_n 1, 1) := by decide +kernel
theorem dX4_join_5 : decode cX4_join 5 = .ok (.aload_n 0, 1) := by decide +kernel
theorem dX4_join_6 : decode cX4_join 6 = .ok (.getfield 143, 3) := by decide +kernel
theorem dX4_join_9 : decode cX4_join 9 = .ok (.if_icmp .ge 12, 3) := by decide +kernel
theorem dX4_join_12 : decode cX4_join 12 = .ok (.aload_n 0, 1) := by decide +kernel
theorem dX4_join_13 : decode cX4_join 13 = .ok (.getfield 66, 3) := by decide +kernel
theorem dX4_join_16 : decode cX4_join 16 = .ok (.iload_n 1, 1) := by decide +kernel
theorem dX4_join_17 : decode cX4_join 17 = .ok (.iaload, 1) := by decide +kernel
theorem dX4_join_18 : decode cX4_join 18 = .ok (.ifCond .ge 6, 3) := by decide +kernel
theorem dX4_join_21 : decode cX4_join 21 = .ok (.bipush (-2), 2) := by decide +kernel
theorem dX4_join_23 : decode cX4_join 23 = .ok (.ireturn, 1) := by decide +kernel
theorem dX4_join_24 : decode cX4_join 24 = .ok (.sipush 10000, 3) := by decide +kernel
theorem dX4_join_27 : decode cX4_join 27 = .ok (.aload_n 0, 1) := by decide +kernel
theorem dX4_join_28 : decode cX4_join 28 = .ok (.getfield 66, 3) := by decide +kernel
theorem dX4_join_31 : decode cX4_join 31 = .ok (.iload_n 1, 1) := by decide +kernel
theorem dX4_join_32 : decode cX4_join 32 = .ok (.iaload, 1) := by decide +kernel
theorem dX4_join_33 : decode cX4_join 33 = .ok (.imul, 1) := by decide +kernel
theorem dX4_join_34 : decode cX4_join 34 = .ok (.aload_n 0, 1) := by decide +kernel
theorem dX4_join_35 : decode cX4_join 35 = .ok (.getfield 69, 3) := by decide +kernel
theorem dX4_join_38 : decode cX4_join 38 = .ok (.iload_n 1, 1) := by decide +kernel
theorem dX4_join_39 : decode cX4_join 39 = .ok (.iaload, 1) := by decide +kernel
theorem dX4_join_40 : decode cX4_join 40 = .ok (.iadd, 1) := by decide +kernel
theorem dX4_join_41 : decode cX4_join 41 = .ok (.istore_n 2, 1) := by decide +kernel
theorem dX4_join_42 : decode cX4_join 42 = .ok (.aload_n 0, 1) := by decide +kernel
theorem dX4_join_43 : decode cX4_join 43 = .ok (.getfield 66, 3) := by decide +kernel
theorem dX4_join_46 : decode cX4_join 46 = .ok (.iload_n 1, 1) := by decide +kernel
theorem dX4_join_47 : decode cX4_join 47 = .ok (.iconst (-1), 1) := by decide +kernel
theorem dX4_join_48 : decode cX4_join 48 = .ok (.iastore, 1) := by decide +kernel
theorem dX4_join_49 : decode cX4_join 49 = .ok (.iload_n 2, 1) := by decide +kernel
theorem dX4_join_50 : decode cX4_join 50 = .ok (.ireturn, 1) := by decide +kernel
theorem dX4_begun_0 : decode cX4_begun 0 = .ok (.iconst 0, 1) := by decide +kernel
theorem dX4_begun_1 : decode cX4_begun 1 = .ok (.istore_n 1, 1) := by decide +kernel
theorem dX4_begun_2 : decode cX4_begun 2 = .ok (.iconst 0, 1) := by decide +kernel
theorem dX4_begun_3 : decode cX4_begun 3 = .ok (.istore_n 2, 1) := by decide +kernel
theorem dX4_begun_4 : decode cX4_begun 4 = .ok (.iload_n 2, 1) := by decide +kernel
theorem dX4_begun_5 : decode cX4_begun 5 = .ok (.bipush 6, 2) := by decide +kernel
theorem dX4_begun_7 : decode cX4_begun 7 = .ok (.if_icmp .ge 35, 3) := by decide +kernel
theorem dX4_begun_10 : decode cX4_begun 10 = .ok (.iload_n 1, 1) := by decide +kernel
theorem dX4_begun_11 : decode cX4_begun 11 = .ok (.aload_n 0, 1) := by decide +kernel
theorem dX4_begun_12 : decode cX4_begun 12 = .ok (.iload_n 2, 1) := by decide +kernel
theorem dX4_begun_13 : decode cX4_begun 13 = .ok (.invokevirtual 207, 3) := by decide +kernel
theorem dX4_begun_16 : decode cX4_begun 16 = .ok (.ifCond .eq 17, 3) := by decide +kernel
theorem dX4_begun_19 : decode cX4_begun 19 = .ok (.aload_n 0, 1) := by decide +kernel
theorem dX4_begun_20 : decode cX4_begun 20 = .ok (.getfield 13, 3) := by decide +kernel
theorem dX4_begun_23 : decode cX4_begun 23 = .ok (.aload_n 0, 1) := by decide +kernel
theorem dX4_begun_24 : decode cX4_begun 24 = .ok (.getfield 57, 3) := by decide +kernel
theorem dX4_begun_27 : decode cX4_begun 27 = .ok (.iload_n 2, 1) := by decide +kernel
theorem dX4_begun_28 : decode cX4_begun 28 = .ok (.iaload, 1) := by decide +kernel
theorem dX4_begun_29 : decode cX4_begun 29 = .ok (.iaload, 1) := by decide +kernel
theorem dX4_begun_30 : decode cX4_begun 30 = .ok (.goto 4, 3) := by decide +kernel
theorem dX4_begun_33 : decode cX4_begun 33 = .ok (.iconst 0, 1) := by decide +kernel
theorem dX4_begun_34 : decode cX4_begun 34 = .ok (.iadd, 1) := by decide +kernel
theorem dX4_begun_35 : decode cX4_begun 35 = .ok (.istore_n 1, 1) := by decide +kernel
theorem dX4_begun_36 : decode cX4_begun 36 = .ok (.iinc 2 1, 3) := by decide +kernel
theorem dX4_begun_39 : decode cX4_begun 39 = .ok (.goto (-35), 3) := by decide +kernel
theorem dX4_begun_42 : decode cX4_begun 42 = .ok (.iload_n 1, 1) := by decide +kernel
theorem dX4_begun_43 : decode cX4_begun 43 = .ok (.ireturn, 1) := by decide +kernel
theorem dX4_serves_0 : decode cX4_serves 0 = .ok (.iconst 0, 1) := by decide +kernel
theorem dX4_serves_1 : decode cX4_serves 1 = .ok (.istore_n 2, 1) := by decide +kernel
theorem dX4_serves_2 : decode cX4_serves 2 = .ok (.iload_n 2, 1) := by decide +kernel
theorem dX4_serves_3 : decode cX4_serves 3 = .ok (.aload_n 0, 1) := by decide +kernel
theorem dX4_serves_4 : decode cX4_serves 4 = .ok (.getfield 143, 3) := by decide +kernel
theorem dX4_serves_7 : decode cX4_serves 7 = .ok (.if_icmp .ge 21, 3) := by decide +kernel
theorem dX4_serves_10 : decode cX4_serves 10 = .ok (.aload_n 0, 1) := by decide +kernel
theorem dX4_serves_11 : decode cX4_serves 11 = .ok (.getfield 102, 3) := by decide +kernel
theorem dX4_serves_14 : decode cX4_serves 14 = .ok (.iload_n 2, 1) := by decide +kernel
theorem dX4_serves_15 : decode cX4_serves 15 = .ok (.aload_n 0, 1) := by decide +kernel
theorem dX4_serves_16 : decode cX4_serves 16 = .ok (.getfield 66, 3) := by decide +kernel
theorem dX4_serves_19 : decode cX4_serves 19 = .ok (.iload_n 2, 1) := by decide +kernel
theorem dX4_serves_20 : decode cX4_serves 20 = .ok (.iaload, 1) := by decide +kernel
theorem dX4_serves_21 : decode cX4_serves 21 = .ok (.iastore, 1) := by decide +kernel
theorem dX4_serves_22 : decode cX4_serves 22 = .ok (.iinc 2 1, 3) := by decide +kernel
theorem dX4_serves_25 : decode cX4_serves 25 = .ok (.goto (-23), 3) := by decide +kernel
theorem dX4_serves_28 : decode cX4_serves 28 = .ok (.iconst 1, 1) := by decide +kernel
theorem dX4_serves_29 : decode cX4_serves 29 = .ok (.istore_n 2, 1) := by decide +kernel
theorem dX4_serves_30 : decode cX4_serves 30 = .ok (.iconst 0, 1) := by decide +kernel
theorem dX4_serves_31 : decode cX4_serves 31 = .ok (.istore_n 3, 1) := by decide +kernel
theorem dX4_serves_32 : decode cX4_serves 32 = .ok (.iload_n 3, 1) := by decide +kernel
theorem dX4_serves_33 : decode cX4_serves 33 = .ok (.aload_n 0, 1) := by decide +kernel
theorem dX4_serves_34 : decode cX4_serves 34 = .ok (.getfield 143, 3) := by decide +kernel
theorem dX4_serves_37 : decode cX4_serves 37 = .ok (.if_icmp .ge 37, 3) := by decide +kernel
theorem dX4_serves_40 : decode cX4_serves 40 = .ok (.iload_n 2, 1) := by decide +kernel
theorem dX4_serves_41 : decode cX4_serves 41 = .ok (.ifCond .eq 33, 3) := by decide +kernel
theorem dX4_serves_44 : decode cX4_serves 44 = .ok (.aload_n 0, 1) := by decide +kernel
theorem dX4_serves_45 : decode cX4_serves 45 = .ok (.getfield 66, 3) := by decide +kernel
theorem dX4_serves_48 : decode cX4_serves 48 = .ok (.iload_n 3, 1) := by decide +kernel
theorem dX4_serves_49 : decode cX4_serves 49 = .ok (.iaload, 1) := by decide +kernel
theorem dX4_serves_50 : decode cX4_serves 50 = .ok (.ifCond .ge 12, 3) := by decide +kernel
theorem dX4_serves_53 : decode cX4_serves 53 = .ok (.aload_n 0, 1) := by decide +kernel
theorem dX4_serves_54 : decode cX4_serves 54 = .ok (.iload_n 3, 1) := by decide +kernel
theorem dX4_serves_55 : decode cX4_serves 55 = .ok (.iload_n 1, 1) := by decide +kernel
theorem dX4_serves_56 : decode cX4_serves 56 = .ok (.invokevirtual 229, 3) := by decide +kernel
theorem dX4_serves_59 : decode cX4_serves 59 = .ok (.ifCond .eq 7, 3) := by decide +kernel
theorem dX4_serves_62 : decode cX4_serves 62 = .ok (.iconst 1, 1) := by decide +kernel
theorem dX4_serves_63 : decode cX4_serves 63 = .ok (.goto 4, 3) := by decide +kernel
theorem dX4_serves_66 : decode cX4_serves 66 = .ok (.iconst 0, 1) := by decide +kernel
theorem dX4_serves_67 : decode cX4_serves 67 = .ok (.istore_n 2, 1) := by decide +kernel
theorem dX4_serves_68 : decode cX4_serves 68 = .ok (.iinc 3 1, 3) := by decide +kernel
theorem dX4_serves_71 : decode cX4_serves 71 = .ok (.goto (-39), 3) := by decide +kernel
theorem dX4_serves_74 : decode cX4_serves 74 = .ok (.iconst 0, 1) := by decide +kernel
theorem dX4_serves_75 : decode cX4_serves 75 = .ok (.istore_n 3, 1) := by decide +kernel
theorem dX4_serves_76 : decode cX4_serves 76 = .ok (.iload_n 3, 1) := by decide +kernel
theorem dX4_serves_77 : decode cX4_serves 77 = .ok (.aload_n 0, 1) := by decide +kernel
theorem dX4_serves_78 : decode cX4_serves 78 = .ok (.getfield 143, 3) := by decide +kernel
theorem dX4_serves_81 : decode cX4_serves 81 = .ok (.if_icmp .ge 21, 3) := by decide +kernel
theorem dX4_serves_84 : decode cX4_serves 84 = .ok (.aload_n 0, 1) := by decide +kernel
theorem dX4_serves_85 : decode cX4_serves 85 = .ok (.getfield 66, 3) := by decide +kernel
theorem dX4_serves_88 : decode cX4_serves 88 = .ok (.iload_n 3, 1) := by decide +kernel
theorem dX4_serves_89 : decode cX4_serves 89 = .ok (.aload_n 0, 1) := by decide +kernel
theorem dX4_serves_90 : decode cX4_serves 90 = .ok (.getfield 102, 3) := by decide +kernel
theorem dX4_serves_93 : decode cX4_serves 93 = .ok (.iload_n 3, 1) := by decide +kernel
theorem dX4_serves_94 : decode cX4_serves 94 = .ok (.iaload, 1) := by decide +kernel
theorem dX4_serves_95 : decode cX4_serves 95 = .ok (.iastore, 1) := by decide +kernel
theorem dX4_serves_96 : decode cX4_serves 96 = .ok (.iinc 3 1, 3) := by decide +kernel
theorem dX4_serves_99 : decode cX4_serves 99 = .ok (.goto (-23), 3) := by decide +kernel
theorem dX4_serves_102 : decode cX4_serves 102 = .ok (.iload_n 2, 1) := by decide +kernel
theorem dX4_serves_103 : decode cX4_serves 103 = .ok (.ireturn, 1) := by decide +kernel
theorem dX4_fewest_0 : decode cX4_fewest 0 = .ok (.iconst 0, 1) := by decide +kernel
theorem dX4_fewest_1 : decode cX4_fewest 1 = .ok (.istore_n 1, 1) := by decide +kernel
theorem dX4_fewest_2 : decode cX4_fewest 2 = .ok (.iconst 0, 1) := by decide +kernel
theorem dX4_fewest_3 : decode cX4_fewest 3 = .ok (.istore_n 2, 1) := by decide +kernel
theorem dX4_fewest_4 : decode cX4_fewest 4 = .ok (.iload_n 2, 1) := by decide +kernel
theorem dX4_fewest_5 : decode cX4_fewest 5 = .ok (.aload_n 0, 1) := by decide +kernel
theorem dX4_fewest_6 : decode cX4_fewest 6 = .ok (.getfield 143, 3) := by decide +kernel
theorem dX4_fewest_9 : decode cX4_fewest 9 = .ok (.if_icmp .ge 26, 3) := by decide +kernel
theorem dX4_fewest_12 : decode cX4_fewest 12 = .ok (.iload_n 1, 1) := by decide +kernel
theorem dX4_fewest_13 : decode cX4_fewest 13 = .ok (.aload_n 0, 1) := by decide +kernel
theorem dX4_fewest_14 : decode cX4_fewest 14 = .ok (.getfield 66, 3) := by decide +kernel
theorem dX4_fewest_17 : decode cX4_fewest 17 = .ok (.iload_n 2, 1) := by decide +kernel
theorem dX4_fewest_18 : decode cX4_fewest 18 = .ok (.iaload, 1) := by decide +kernel
theorem dX4_fewest_19 : decode cX4_fewest 19 = .ok (.ifCond .ge 7, 3) := by decide +kernel
theorem dX4_fewest_22 : decode cX4_fewest 22 = .ok (.iconst 1, 1) := by decide +kernel
theorem dX4_fewest_23 : decode cX4_fewest 23 = .ok (.goto 4, 3) := by decide +kernel
theorem dX4_fewest_26 : decode cX4_fewest 26 = .ok (.iconst 0, 1) := by decide +kernel
theorem dX4_fewest_27 : decode cX4_fewest 27 = .ok (.iadd, 1) := by decide +kernel
theorem dX4_fewest_28 : decode cX4_fewest 28 = .ok (.istore_n 1, 1) := by decide +kernel
theorem dX4_fewest_29 : decode cX4_fewest 29 = .ok (.iinc 2 1, 3) := by decide +kernel
theorem dX4_fewest_32 : decode cX4_fewest 32 = .ok (.goto (-28), 3) := by decide +kernel
theorem dX4_fewest_35 : decode cX4_fewest 35 = .ok (.iload_n 1, 1) := by decide +kernel
theorem dX4_fewest_36 : decode cX4_fewest 36 = .ok (.ifCond .ne 5, 3) := by decide +kernel
theorem dX4_fewest_39 : decode cX4_fewest 39 = .ok (.iconst 0, 1) := by decide +kernel
theorem dX4_fewest_40 : decode cX4_fewest 40 = .ok (.ireturn, 1) := by decide +kernel
theorem dX4_fewest_41 : decode cX4_fewest 41 = .ok (.aload_n 0, 1) := by decide +kernel
theorem dX4_fewest_42 : decode cX4_fewest 42 = .ok (.invokevirtual 225, 3) := by decide +kernel
theorem dX4_fewest_45 : decode cX4_fewest 45 = .ok (.istore_n 2, 1) := by decide +kernel
theorem dX4_fewest_46 : decode cX4_fewest 46 = .ok (.iconst 0, 1) := by decide +kernel
theorem dX4_fewest_47 : decode cX4_fewest 47 = .ok (.istore_n 3, 1) := by decide +kernel
theorem dX4_fewest_48 : decode cX4_fewest 48 = .ok (.iload_n 3, 1) := by decide +kernel
theorem dX4_fewest_49 : decode cX4_fewest 49 = .ok (.bipush 6, 2) := by decide +kernel
theorem dX4_fewest_51 : decode cX4_fewest 51 = .ok (.if_icmp .ge 29, 3) := by decide +kernel
theorem dX4_fewest_54 : decode cX4_fewest 54 = .ok (.iload_n 2, 1) := by decide +kernel
theorem dX4_fewest_55 : decode cX4_fewest 55 = .ok (.aload_n 0, 1) := by decide +kernel
theorem dX4_fewest_56 : decode cX4_fewest 56 = .ok (.iload_n 3, 1) := by decide +kernel
theorem dX4_fewest_57 : decode cX4_fewest 57 = .ok (.invokevirtual 207, 3) := by decide +kernel
theorem dX4_fewest_60 : decode cX4_fewest 60 = .ok (.ifCond .eq 11, 3) := by decide +kernel
theorem dX4_fewest_63 : decode cX4_fewest 63 = .ok (.iconst 1, 1) := by decide +kernel
theorem dX4_fewest_64 : decode cX4_fewest 64 = .ok (.iload_n 3, 1) := by decide +kernel
theorem dX4_fewest_65 : decode cX4_fewest 65 = .ok (.ishl, 1) := by decide +kernel
theorem dX4_fewest_66 : decode cX4_fewest 66 = .ok (.iconst (-1), 1) := by decide +kernel
theorem dX4_fewest_67 : decode cX4_fewest 67 = .ok (.ixor, 1) := by decide +kernel
theorem dX4_fewest_68 : decode cX4_fewest 68 = .ok (.goto 4, 3) := by decide +kernel
theorem dX4_fewest_71 : decode cX4_fewest 71 = .ok (.iconst (-1), 1) := by decide +kernel
theorem dX4_fewest_72 : decode cX4_fewest 72 = .ok (.iand, 1) := by decide +kernel
theorem dX4_fewest_73 : decode cX4_fewest 73 = .ok (.istore_n 2, 1) := by decide +kernel
theorem dX4_fewest_74 : decode cX4_fewest 74 = .ok (.iinc 3 1, 3) := by decide +kernel
theorem dX4_fewest_77 : decode cX4_fewest 77 = .ok (.goto (-29), 3) := by decide +kernel
theorem dX4_fewest_80 : decode cX4_fewest 80 = .ok (.iconst (-1), 1) := by decide +kernel
theorem dX4_fewest_81 : decode cX4_fewest 81 = .ok (.istore_n 3, 1) := by decide +kernel
theorem dX4_fewest_82 : decode cX4_fewest 82 = .ok (.iconst 1, 1) := by decide +kernel
theorem dX4_fewest_83 : decode cX4_fewest 83 = .ok (.istore 4, 2) := by decide +kernel
theorem dX4_fewest_85 : decode cX4_fewest 85 = .ok (.iload 4, 2) := by decide +kernel
theorem dX4_fewest_87 : decode cX4_fewest 87 = .ok (.bipush 64, 2) := by decide +kernel
theorem dX4_fewest_89 : decode cX4_fewest 89 = .ok (.if_icmp .ge 100, 3) := by decide +kernel
theorem dX4_fewest_92 : decode cX4_fewest 92 = .ok (.iconst 0, 1) := by decide +kernel
theorem dX4_fewest_93 : decode cX4_fewest 93 = .ok (.istore 5, 2) := by decide +kernel
theorem dX4_fewest_95 : decode cX4_fewest 95 = .ok (.iconst 0, 1) := by decide +kernel
theorem dX4_fewest_96 : decode cX4_fewest 96 = .ok (.istore 6, 2) := by decide +kernel
theorem dX4_fewest_98 : decode cX4_fewest 98 = .ok (.iload 6, 2) := by decide +kernel
theorem dX4_fewest_100 : decode cX4_fewest 100 = .ok (.bipush 6, 2) := by decide +kernel
theorem dX4_fewest_102 : decode cX4_fewest 102 = .ok (.if_icmp .ge 50, 3) := by decide +kernel
theorem dX4_fewest_105 : decode cX4_fewest 105 = .ok (.iload 5, 2) := by decide +kernel
theorem dX4_fewest_107 : decode cX4_fewest 107 = .ok (.iload 4, 2) := by decide +kernel
theorem dX4_fewest_109 : decode cX4_fewest 109 = .ok (.iload_n 2, 1) := by decide +kernel
theorem dX4_fewest_110 : decode cX4_fewest 110 = .ok (.iand, 1) := by decide +kernel
theorem dX4_fewest_111 : decode cX4_fewest 111 = .ok (.iload 4, 2) := by decide +kernel
theorem dX4_fewest_113 : decode cX4_fewest 113 = .ok (.if_icmp .ne 29, 3) := by decide +kernel
theorem dX4_fewest_116 : decode cX4_fewest 116 = .ok (.iload 4, 2) := by decide +kernel
theorem dX4_fewest_118 : decode cX4_fewest 118 = .ok (.iload 6, 2) := by decide +kernel
theorem dX4_fewest_120 : decode cX4_fewest 120 = .ok (.ishr, 1) := by decide +kernel
theorem dX4_fewest_121 : decode cX4_fewest 121 = .ok (.iconst 1, 1) := by decide +kernel
theorem dX4_fewest_122 : decode cX4_fewest 122 = .ok (.iand, 1) := by decide +kernel
theorem dX4_fewest_123 : decode cX4_fewest 123 = .ok (.iconst 1, 1) := by decide +kernel
theorem dX4_fewest_124 : decode cX4_fewest 124 = .ok (.if_icmp .ne 18, 3) := by decide +kernel
theorem dX4_fewest_127 : decode cX4_fewest 127 = .ok (.aload_n 0, 1) := by decide +kernel
theorem dX4_fewest_128 : decode cX4_fewest 128 = .ok (.getfield 13, 3) := by decide +kernel
theorem dX4_fewest_131 : decode cX4_fewest 131 = .ok (.aload_n 0, 1) := by decide +kernel
theorem dX4_fewest_132 : decode cX4_fewest 132 = .ok (.getfield 57, 3) := by decide +kernel
theorem dX4_fewest_135 : decode cX4_fewest 135 = .ok (.iload 6, 2) := by decide +kernel
theorem dX4_fewest_137 : decode cX4_fewest 137 = .ok (.iaload, 1) := by decide +kernel
theorem dX4_fewest_138 : decode cX4_fewest 138 = .ok (.iaload, 1) := by decide +kernel
theorem dX4_fewest_139 : decode cX4_fewest 139 = .ok (.goto 4, 3) := by decide +kernel
theorem dX4_fewest_142 : decode cX4_fewest 142 = .ok (.iconst 0, 1) := by decide +kernel
theorem dX4_fewest_143 : decode cX4_fewest 143 = .ok (.iadd, 1) := by decide +kernel
theorem dX4_fewest_144 : decode cX4_fewest 144 = .ok (.istore 5, 2) := by decide +kernel
theorem dX4_fewest_146 : decode cX4_fewest 146 = .ok (.iinc 6 1, 3) := by decide +kernel
theorem dX4_fewest_149 : decode cX4_fewest 149 = .ok (.goto (-51), 3) := by decide +kernel
theorem dX4_fewest_152 : decode cX4_fewest 152 = .ok (.iload 4, 2) := by decide +kernel
theorem dX4_fewest_154 : decode cX4_fewest 154 = .ok (.iload_n 2, 1) := by decide +kernel
theorem dX4_fewest_155 : decode cX4_fewest 155 = .ok (.iand, 1) := by decide +kernel
theorem dX4_fewest_156 : decode cX4_fewest 156 = .ok (.iload 4, 2) := by decide +kernel
theorem dX4_fewest_158 : decode cX4_fewest 158 = .ok (.if_icmp .ne 25, 3) := by decide +kernel
theorem dX4_fewest_161 : decode cX4_fewest 161 = .ok (.iload_n 3, 1) := by decide +kernel
theorem dX4_fewest_162 : decode cX4_fewest 162 = .ok (.ifCond .lt 9, 3) := by decide +kernel
theorem dX4_fewest_165 : decode cX4_fewest 165 = .ok (.iload 5, 2) := by decide +kernel
theorem dX4_fewest_167 : decode cX4_fewest 167 = .ok (.iload_n 3, 1) := by decide +kernel
theorem dX4_fewest_168 : decode cX4_fewest 168 = .ok (.if_icmp .ge 15, 3) := by decide +kernel
theorem dX4_fewest_171 : decode cX4_fewest 171 = .ok (.aload_n 0, 1) := by decide +kernel
theorem dX4_fewest_172 : decode cX4_fewest 172 = .ok (.iload 4, 2) := by decide +kernel
theorem dX4_fewest_174 : decode cX4_fewest 174 = .ok (.invokevirtual 233, 3) := by decide +kernel
theorem dX4_fewest_177 : decode cX4_fewest 177 = .ok (.ifCond .eq 6, 3) := by decide +kernel
theorem dX4_fewest_180 : decode cX4_fewest 180 = .ok (.iload 5, 2) := by decide +kernel
theorem dX4_fewest_182 : decode cX4_fewest 182 = .ok (.istore_n 3, 1) := by decide +kernel
theorem dX4_fewest_183 : decode cX4_fewest 183 = .ok (.iinc 4 1, 3) := by decide +kernel
theorem dX4_fewest_186 : decode cX4_fewest 186 = .ok (.goto (-101), 3) := by decide +kernel
theorem dX4_fewest_189 : decode cX4_fewest 189 = .ok (.iload_n 3, 1) := by decide +kernel
theorem dX4_fewest_190 : decode cX4_fewest 190 = .ok (.ireturn, 1) := by decide +kernel
theorem dX4_stage_0 : decode cX4_stage 0 = .ok (.iload_n 1, 1) := by decide +kernel
theorem dX4_stage_1 : decode cX4_stage 1 = .ok (.ifCond .lt 18, 3) := by decide +kernel
theorem dX4_stage_4 : decode cX4_stage 4 = .ok (.iload_n 1, 1) := by decide +kernel
theorem dX4_stage_5 : decode cX4_stage 5 = .ok (.bipush 8, 2) := by decide +kernel
theorem dX4_stage_7 : decode cX4_stage 7 = .ok (.if_icmp .gt 12, 3) := by decide +kernel
theorem dX4_stage_10 : decode cX4_stage 10 = .ok (.aload_n 0, 1) := by decide +kernel
theorem dX4_stage_11 : decode cX4_stage 11 = .ok (.getfield 146, 3) := by decide +kernel
theorem dX4_stage_14 : decode cX4_stage 14 = .ok (.bipush 10, 2) := by decide +kernel
theorem dX4_stage_16 : decode cX4_stage 16 = .ok (.if_icmp .ne 6, 3) := by decide +kernel
theorem dX4_stage_19 : decode cX4_stage 19 = .ok (.bipush (-2), 2) := by decide +kernel
theorem dX4_stage_21 : decode cX4_stage 21 = .ok (.ireturn, 1) := by decide +kernel
theorem dX4_stage_22 : decode cX4_stage 22 = .ok (.aload_n 0, 1) := by decide +kernel
theorem dX4_stage_23 : decode cX4_stage 23 = .ok (.getfield 72, 3) := by decide +kernel
theorem dX4_stage_26 : decode cX4_stage 26 = .ok (.aload_n 0, 1) := by decide +kernel
theorem dX4_stage_27 : decode cX4_stage 27 = .ok (.getfield 146, 3) := by decide +kernel
theorem dX4_stage_30 : decode cX4_stage 30 = .ok (.iload_n 1, 1) := by decide +kernel
theorem dX4_stage_31 : decode cX4_stage 31 = .ok (.iastore, 1) := by decide +kernel
theorem dX4_stage_32 : decode cX4_stage 32 = .ok (.aload_n 0, 1) := by decide +kernel
theorem dX4_stage_33 : decode cX4_stage 33 = .ok (.dup, 1) := by decide +kernel
theorem dX4_stage_34 : decode cX4_stage 34 = .ok (.getfield 146, 3) := by decide +kernel
theorem dX4_stage_37 : decode cX4_stage 37 = .ok (.iconst 1, 1) := by decide +kernel
theorem dX4_stage_38 : decode cX4_stage 38 = .ok (.iadd, 1) := by decide +kernel
theorem dX4_stage_39 : decode cX4_stage 39 = .ok (.putfield 146, 3) := by decide +kernel
theorem dX4_stage_42 : decode cX4_stage 42 = .ok (.aload_n 0, 1) := by decide +kernel
theorem dX4_stage_43 : decode cX4_stage 43 = .ok (.getfield 146, 3) := by decide +kernel
theorem dX4_stage_46 : decode cX4_stage 46 = .ok (.ireturn, 1) := by decide +kernel
theorem dX4_unstage_0 : decode cX4_unstage 0 = .ok (.aload_n 0, 1) := by decide +kernel
theorem dX4_unstage_1 : decode cX4_unstage 1 = .ok (.getfield 146, 3) := by decide +kernel
theorem dX4_unstage_4 : decode cX4_unstage 4 = .ok (.ifCond .ne 6, 3) := by decide +kernel
theorem dX4_unstage_7 : decode cX4_unstage 7 = .ok (.bipush (-2), 2) := by decide +kernel
theorem dX4_unstage_9 : decode cX4_unstage 9 = .ok (.ireturn, 1) := by decide +kernel
theorem dX4_unstage_10 : decode cX4_unstage 10 = .ok (.aload_n 0, 1) := by decide +kernel
theorem dX4_unstage_11 : decode cX4_unstage 11 = .ok (.dup, 1) := by decide +kernel
theorem dX4_unstage_12 : decode cX4_unstage 12 = .ok (.getfield 146, 3) := by decide +kernel
theorem dX4_unstage_15 : decode cX4_unstage 15 = .ok (.iconst 1, 1) := by decide +kernel
theorem dX4_unstage_16 : decode cX4_unstage 16 = .ok (.isub, 1) := by decide +kernel
theorem dX4_unstage_17 : decode cX4_unstage 17 = .ok (.putfield 146, 3) := by decide +kernel
theorem dX4_unstage_20 : decode cX4_unstage 20 = .ok (.aload_n 0, 1) := by decide +kernel
theorem dX4_unstage_21 : decode cX4_unstage 21 = .ok (.getfield 72, 3) := by decide +kernel
theorem dX4_unstage_24 : decode cX4_unstage 24 = .ok (.aload_n 0, 1) := by decide +kernel
theorem dX4_unstage_25 : decode cX4_unstage 25 = .ok (.getfield 146, 3) := by decide +kernel
theorem dX4_unstage_28 : decode cX4_unstage 28 = .ok (.iaload, 1) := by decide +kernel
theorem dX4_unstage_29 : decode cX4_unstage 29 = .ok (.ireturn, 1) := by decide +kernel
theorem dX4_product_0 : decode cX4_product 0 = .ok (.lconst 1, 1) := by decide +kernel
theorem dX4_product_1 : decode cX4_product 1 = .ok (.lstore_n 2, 1) := by decide +kernel
theorem dX4_product_2 : decode cX4_product 2 = .ok (.iconst 0, 1) := by decide +kernel
theorem dX4_product_3 : decode cX4_product 3 = .ok (.istore 4, 2) := by decide +kernel
theorem dX4_product_5 : decode cX4_product 5 = .ok (.iload 4, 2) := by decide +kernel
theorem dX4_product_7 : decode cX4_product 7 = .ok (.iload_n 1, 1) := by decide +kernel
theorem dX4_product_8 : decode cX4_product 8 = .ok (.if_icmp .ge 20, 3) := by decide +kernel
theorem dX4_product_11 : decode cX4_product 11 = .ok (.lload_n 2, 1) := by decide +kernel
theorem dX4_product_12 : decode cX4_product 12 = .ok (.aload_n 0, 1) := by decide +kernel
theorem dX4_product_13 : decode cX4_product 13 = .ok (.getfield 72, 3) := by decide +kernel
theorem dX4_product_16 : decode cX4_product 16 = .ok (.iload 4, 2) := by decide +kernel
theorem dX4_product_18 : decode cX4_product 18 = .ok (.iaload, 1) := by decide +kernel
theorem dX4_product_19 : decode cX4_product 19 = .ok (.i2l, 1) := by decide +kernel
theorem dX4_product_20 : decode cX4_product 20 = .ok (.lmul, 1) := by decide +kernel
theorem dX4_product_21 : decode cX4_product 21 = .ok (.lstore_n 2, 1) := by decide +kernel
theorem dX4_product_22 : decode cX4_product 22 = .ok (.iinc 4 1, 3) := by decide +kernel
theorem dX4_product_25 : decode cX4_product 25 = .ok (.goto (-20), 3) := by decide +kernel
theorem dX4_product_28 : decode cX4_product 28 = .ok (.lload_n 2, 1) := by decide +kernel
theorem dX4_product_29 : decode cX4_product 29 = .ok (.lreturn, 1) := by decide +kernel
theorem dX4_lowest_0 : decode cX4_lowest 0 = .ok (.lload_n 0, 1) := by decide +kernel
theorem dX4_lowest_1 : decode cX4_lowest 1 = .ok (.lstore 5, 2) := by decide +kernel
theorem dX4_lowest_3 : decode cX4_lowest 3 = .ok (.lload_n 2, 1) := by decide +kernel
theorem dX4_lowest_4 : decode cX4_lowest 4 = .ok (.lstore 7, 2) := by decide +kernel
theorem dX4_lowest_6 : decode cX4_lowest 6 = .ok (.lload 7, 2) := by decide +kernel
theorem dX4_lowest_8 : decode cX4_lowest 8 = .ok (.lconst 0, 1) := by decide +kernel
theorem dX4_lowest_9 : decode cX4_lowest 9 = .ok (.lcmp, 1) := by decide +kernel
theorem dX4_lowest_10 : decode cX4_lowest 10 = .ok (.ifCond .eq 21, 3) := by decide +kernel
theorem dX4_lowest_13 : decode cX4_lowest 13 = .ok (.lload 5, 2) := by decide +kernel
theorem dX4_lowest_15 : decode cX4_lowest 15 = .ok (.lload 7, 2) := by decide +kernel
theorem dX4_lowest_17 : decode cX4_lowest 17 = .ok (.lrem, 1) := by decide +kernel
theorem dX4_lowest_18 : decode cX4_lowest 18 = .ok (.lstore 9, 2) := by decide +kernel
theorem dX4_lowest_20 : decode cX4_lowest 20 = .ok (.lload 7, 2) := by decide +kernel
theorem dX4_lowest_22 : decode cX4_lowest 22 = .ok (.lstore 5, 2) := by decide +kernel
theorem dX4_lowest_24 : decode cX4_lowest 24 = .ok (.lload 9, 2) := by decide +kernel
theorem dX4_lowest_26 : decode cX4_lowest 26 = .ok (.lstore 7, 2) := by decide +kernel
theorem dX4_lowest_28 : decode cX4_lowest 28 = .ok (.goto (-22), 3) := by decide +kernel
theorem dX4_lowest_31 : decode cX4_lowest 31 = .ok (.iload 4, 2) := by decide +kernel
theorem dX4_lowest_33 : decode cX4_lowest 33 = .ok (.ifCond .ne 10, 3) := by decide +kernel
theorem dX4_lowest_36 : decode cX4_lowest 36 = .ok (.lload_n 0, 1) := by decide +kernel
theorem dX4_lowest_37 : decode cX4_lowest 37 = .ok (.lload 5, 2) := by decide +kernel
theorem dX4_lowest_39 : decode cX4_lowest 39 = .ok (.ldiv, 1) := by decide +kernel
theorem dX4_lowest_40 : decode cX4_lowest 40 = .ok (.goto 7, 3) := by decide +kernel
theorem dX4_lowest_43 : decode cX4_lowest 43 = .ok (.lload_n 2, 1) := by decide +kernel
theorem dX4_lowest_44 : decode cX4_lowest 44 = .ok (.lload 5, 2) := by decide +kernel
theorem dX4_lowest_46 : decode cX4_lowest 46 = .ok (.ldiv, 1) := by decide +kernel
theorem dX4_lowest_47 : decode cX4_lowest 47 = .ok (.lreturn, 1) := by decide +kernel
theorem dX4_pull_0 : decode cX4_pull 0 = .ok (.aload_n 0, 1) := by decide +kernel
theorem dX4_pull_1 : decode cX4_pull 1 = .ok (.aload_n 0, 1) := by decide +kernel
theorem dX4_pull_2 : decode cX4_pull 2 = .ok (.getfield 146, 3) := by decide +kernel
theorem dX4_pull_5 : decode cX4_pull 5 = .ok (.invokevirtual 236, 3) := by decide +kernel
theorem dX4_pull_8 : decode cX4_pull 8 = .ok (.lstore_n 3, 1) := by decide +kernel
theorem dX4_pull_9 : decode cX4_pull 9 = .ok (.lload_n 3, 1) := by decide +kernel
theorem dX4_pull_10 : decode cX4_pull 10 = .ok (.lconst 0, 1) := by decide +kernel
theorem dX4_pull_11 : decode cX4_pull 11 = .ok (.lcmp, 1) := by decide +kernel
theorem dX4_pull_12 : decode cX4_pull 12 = .ok (.ifCond .ne 7, 3) := by decide +kernel
theorem dX4_pull_15 : decode cX4_pull 15 = .ok (.ldc2_w 194, 3) := by decide +kernel
theorem dX4_pull_18 : decode cX4_pull 18 = .ok (.lreturn, 1) := by decide +kernel
theorem dX4_pull_19 : decode cX4_pull 19 = .ok (.iload_n 1, 1) := by decide +kernel
theorem dX4_pull_20 : decode cX4_pull 20 = .ok (.ifCond .lt 18, 3) := by decide +kernel
theorem dX4_pull_23 : decode cX4_pull 23 = .ok (.iload_n 1, 1) := by decide +kernel
theorem dX4_pull_24 : decode cX4_pull 24 = .ok (.ldc 178, 2) := by decide +kernel
theorem dX4_pull_26 : decode cX4_pull 26 = .ok (.if_icmp .gt 12, 3) := by decide +kernel
theorem dX4_pull_29 : decode cX4_pull 29 = .ok (.iload_n 2, 1) := by decide +kernel
theorem dX4_pull_30 : decode cX4_pull 30 = .ok (.ifCond .lt 8, 3) := by decide +kernel
theorem dX4_pull_33 : decode cX4_pull 33 = .ok (.iload_n 2, 1) := by decide +kernel
theorem dX4_pull_34 : decode cX4_pull 34 = .ok (.iconst 1, 1) := by decide +kernel
theorem dX4_pull_35 : decode cX4_pull 35 = .ok (.if_icmp .le 9, 3) := by decide +kernel
theorem dX4_pull_38 : decode cX4_pull 38 = .ok (.ldc2_w 176, 3) := by decide +kernel
theorem dX4_pull_41 : decode cX4_pull 41 = .ok (.goto 10, 3) := by decide +kernel
theorem dX4_pull_44 : decode cX4_pull 44 = .ok (.iload_n 1, 1) := by decide +kernel
theorem dX4_pull_45 : decode cX4_pull 45 = .ok (.i2l, 1) := by decide +kernel
theorem dX4_pull_46 : decode cX4_pull 46 = .ok (.lload_n 3, 1) := by decide +kernel
theorem dX4_pull_47 : decode cX4_pull 47 = .ok (.iload_n 2, 1) := by decide +kernel
theorem dX4_pull_48 : decode cX4_pull 48 = .ok (.invokestatic 240, 3) := by decide +kernel
theorem dX4_pull_51 : decode cX4_pull 51 = .ok (.lreturn, 1) := by decide +kernel
theorem dX4_stress_0 : decode cX4_stress 0 = .ok (.iload_n 1, 1) := by decide +kernel
theorem dX4_stress_1 : decode cX4_stress 1 = .ok (.ifCond .lt 30, 3) := by decide +kernel
theorem dX4_stress_4 : decode cX4_stress 4 = .ok (.iload_n 1, 1) := by decide +kernel
theorem dX4_stress_5 : decode cX4_stress 5 = .ok (.aload_n 0, 1) := by decide +kernel
theorem dX4_stress_6 : decode cX4_stress 6 = .ok (.getfield 146, 3) := by decide +kernel
theorem dX4_stress_9 : decode cX4_stress 9 = .ok (.if_icmp .ge 22, 3) := by decide +kernel
theorem dX4_stress_12 : decode cX4_stress 12 = .ok (.iload_n 2, 1) := by decide +kernel
theorem dX4_stress_13 : decode cX4_stress 13 = .ok (.ifCond .lt 18, 3) := by decide +kernel
theorem dX4_stress_16 : decode cX4_stress 16 = .ok (.iload_n 2, 1) := by decide +kernel
theorem dX4_stress_17 : decode cX4_stress 17 = .ok (.ldc 178, 2) := by decide +kernel
theorem dX4_stress_19 : decode cX4_stress 19 = .ok (.if_icmp .gt 12, 3) := by decide +kernel
theorem dX4_stress_22 : decode cX4_stress 22 = .ok (.iload_n 3, 1) := by decide +kernel
theorem dX4_stress_23 : decode cX4_stress 23 = .ok (.ifCond .lt 8, 3) := by decide +kernel
theorem dX4_stress_26 : decode cX4_stress 26 = .ok (.iload_n 3, 1) := by decide +kernel
theorem dX4_stress_27 : decode cX4_stress 27 = .ok (.iconst 1, 1) := by decide +kernel
theorem dX4_stress_28 : decode cX4_stress 28 = .ok (.if_icmp .le 7, 3) := by decide +kernel
theorem dX4_stress_31 : decode cX4_stress 31 = .ok (.ldc2_w 176, 3) := by decide +kernel
theorem dX4_stress_34 : decode cX4_stress 34 = .ok (.lreturn, 1) := by decide +kernel
theorem dX4_stress_35 : decode cX4_stress 35 = .ok (.aload_n 0, 1) := by decide +kernel
theorem dX4_stress_36 : decode cX4_stress 36 = .ok (.iload_n 1, 1) := by decide +kernel
theorem dX4_stress_37 : decode cX4_stress 37 = .ok (.iconst 1, 1) := by decide +kernel
theorem dX4_stress_38 : decode cX4_stress 38 = .ok (.iadd, 1) := by decide +kernel
theorem dX4_stress_39 : decode cX4_stress 39 = .ok (.invokevirtual 236, 3) := by decide +kernel
theorem dX4_stress_42 : decode cX4_stress 42 = .ok (.lstore 4, 2) := by decide +kernel
theorem dX4_stress_44 : decode cX4_stress 44 = .ok (.lload 4, 2) := by decide +kernel
theorem dX4_stress_46 : decode cX4_stress 46 = .ok (.lconst 0, 1) := by decide +kernel
theorem dX4_stress_47 : decode cX4_stress 47 = .ok (.lcmp, 1) := by decide +kernel
theorem dX4_stress_48 : decode cX4_stress 48 = .ok (.ifCond .ne 9, 3) := by decide +kernel
theorem dX4_stress_51 : decode cX4_stress 51 = .ok (.ldc2_w 194, 3) := by decide +kernel
theorem dX4_stress_54 : decode cX4_stress 54 = .ok (.goto 11, 3) := by decide +kernel
theorem dX4_stress_57 : decode cX4_stress 57 = .ok (.iload_n 2, 1) := by decide +kernel
theorem dX4_stress_58 : decode cX4_stress 58 = .ok (.i2l, 1) := by decide +kernel
theorem dX4_stress_59 : decode cX4_stress 59 = .ok (.lload 4, 2) := by decide +kernel
theorem dX4_stress_61 : decode cX4_stress 61 = .ok (.iload_n 3, 1) := by decide +kernel
theorem dX4_stress_62 : decode cX4_stress 62 = .ok (.invokestatic 240, 3) := by decide +kernel
theorem dX4_stress_65 : decode cX4_stress 65 = .ok (.lreturn, 1) := by decide +kernel
