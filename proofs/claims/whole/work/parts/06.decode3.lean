theorem dX12_mostOf_12 : decode cX12_mostOf 12 = .ok (.iload_n 1, 1) := by decide +kernel
theorem dX12_mostOf_13 : decode cX12_mostOf 13 = .ok (.iconst 0, 1) := by decide +kernel
theorem dX12_mostOf_14 : decode cX12_mostOf 14 = .ok (.iastore, 1) := by decide +kernel
theorem dX12_mostOf_15 : decode cX12_mostOf 15 = .ok (.iinc 1 1, 3) := by decide +kernel
theorem dX12_mostOf_18 : decode cX12_mostOf 18 = .ok (.goto (-16), 3) := by decide +kernel
theorem dX12_mostOf_21 : decode cX12_mostOf 21 = .ok (.iconst 0, 1) := by decide +kernel
theorem dX12_mostOf_22 : decode cX12_mostOf 22 = .ok (.istore_n 1, 1) := by decide +kernel
theorem dX12_mostOf_23 : decode cX12_mostOf 23 = .ok (.iload_n 1, 1) := by decide +kernel
theorem dX12_mostOf_24 : decode cX12_mostOf 24 = .ok (.aload_n 0, 1) := by decide +kernel
theorem dX12_mostOf_25 : decode cX12_mostOf 25 = .ok (.getfield 311, 3) := by decide +kernel
theorem dX12_mostOf_28 : decode cX12_mostOf 28 = .ok (.if_icmp .ge 16, 3) := by decide +kernel
theorem dX12_mostOf_31 : decode cX12_mostOf 31 = .ok (.aload_n 0, 1) := by decide +kernel
theorem dX12_mostOf_32 : decode cX12_mostOf 32 = .ok (.getfield 80, 3) := by decide +kernel
theorem dX12_mostOf_35 : decode cX12_mostOf 35 = .ok (.iload_n 1, 1) := by decide +kernel
theorem dX12_mostOf_36 : decode cX12_mostOf 36 = .ok (.iconst 0, 1) := by decide +kernel
theorem dX12_mostOf_37 : decode cX12_mostOf 37 = .ok (.bastore, 1) := by decide +kernel
theorem dX12_mostOf_38 : decode cX12_mostOf 38 = .ok (.iinc 1 1, 3) := by decide +kernel
theorem dX12_mostOf_41 : decode cX12_mostOf 41 = .ok (.goto (-18), 3) := by decide +kernel
theorem dX12_mostOf_44 : decode cX12_mostOf 44 = .ok (.iconst 0, 1) := by decide +kernel
theorem dX12_mostOf_45 : decode cX12_mostOf 45 = .ok (.istore_n 1, 1) := by decide +kernel
theorem dX12_mostOf_46 : decode cX12_mostOf 46 = .ok (.aload_n 0, 1) := by decide +kernel
theorem dX12_mostOf_47 : decode cX12_mostOf 47 = .ok (.invokevirtual 314, 3) := by decide +kernel
theorem dX12_mostOf_50 : decode cX12_mostOf 50 = .ok (.istore_n 2, 1) := by decide +kernel
theorem dX12_mostOf_51 : decode cX12_mostOf 51 = .ok (.iload_n 2, 1) := by decide +kernel
theorem dX12_mostOf_52 : decode cX12_mostOf 52 = .ok (.ifCond .lt 12, 3) := by decide +kernel
theorem dX12_mostOf_55 : decode cX12_mostOf 55 = .ok (.aload_n 0, 1) := by decide +kernel
theorem dX12_mostOf_56 : decode cX12_mostOf 56 = .ok (.getfield 71, 3) := by decide +kernel
theorem dX12_mostOf_59 : decode cX12_mostOf 59 = .ok (.iload_n 2, 1) := by decide +kernel
theorem dX12_mostOf_60 : decode cX12_mostOf 60 = .ok (.iaload, 1) := by decide +kernel
theorem dX12_mostOf_61 : decode cX12_mostOf 61 = .ok (.ifCond .lt 5, 3) := by decide +kernel
theorem dX12_mostOf_64 : decode cX12_mostOf 64 = .ok (.iload_n 1, 1) := by decide +kernel
theorem dX12_mostOf_65 : decode cX12_mostOf 65 = .ok (.ireturn, 1) := by decide +kernel
theorem dX12_mostOf_66 : decode cX12_mostOf 66 = .ok (.iload_n 1, 1) := by decide +kernel
theorem dX12_mostOf_67 : decode cX12_mostOf 67 = .ok (.aload_n 0, 1) := by decide +kernel
theorem dX12_mostOf_68 : decode cX12_mostOf 68 = .ok (.getfield 71, 3) := by decide +kernel
theorem dX12_mostOf_71 : decode cX12_mostOf 71 = .ok (.iload_n 2, 1) := by decide +kernel
theorem dX12_mostOf_72 : decode cX12_mostOf 72 = .ok (.iaload, 1) := by decide +kernel
theorem dX12_mostOf_73 : decode cX12_mostOf 73 = .ok (.isub, 1) := by decide +kernel
theorem dX12_mostOf_74 : decode cX12_mostOf 74 = .ok (.istore_n 1, 1) := by decide +kernel
theorem dX12_mostOf_75 : decode cX12_mostOf 75 = .ok (.iload_n 2, 1) := by decide +kernel
theorem dX12_mostOf_76 : decode cX12_mostOf 76 = .ok (.istore_n 3, 1) := by decide +kernel
theorem dX12_mostOf_77 : decode cX12_mostOf 77 = .ok (.iload_n 3, 1) := by decide +kernel
theorem dX12_mostOf_78 : decode cX12_mostOf 78 = .ok (.ifCond .lt 33, 3) := by decide +kernel
theorem dX12_mostOf_81 : decode cX12_mostOf 81 = .ok (.aload_n 0, 1) := by decide +kernel
theorem dX12_mostOf_82 : decode cX12_mostOf 82 = .ok (.getfield 80, 3) := by decide +kernel
theorem dX12_mostOf_85 : decode cX12_mostOf 85 = .ok (.iload_n 3, 1) := by decide +kernel
theorem dX12_mostOf_86 : decode cX12_mostOf 86 = .ok (.aload_n 0, 1) := by decide +kernel
theorem dX12_mostOf_87 : decode cX12_mostOf 87 = .ok (.getfield 80, 3) := by decide +kernel
theorem dX12_mostOf_90 : decode cX12_mostOf 90 = .ok (.iload_n 3, 1) := by decide +kernel
theorem dX12_mostOf_91 : decode cX12_mostOf 91 = .ok (.baload, 1) := by decide +kernel
theorem dX12_mostOf_92 : decode cX12_mostOf 92 = .ok (.ifCond .ne 7, 3) := by decide +kernel
theorem dX12_mostOf_95 : decode cX12_mostOf 95 = .ok (.iconst 1, 1) := by decide +kernel
theorem dX12_mostOf_96 : decode cX12_mostOf 96 = .ok (.goto 4, 3) := by decide +kernel
theorem dX12_mostOf_99 : decode cX12_mostOf 99 = .ok (.iconst 0, 1) := by decide +kernel
theorem dX12_mostOf_100 : decode cX12_mostOf 100 = .ok (.bastore, 1) := by decide +kernel
theorem dX12_mostOf_101 : decode cX12_mostOf 101 = .ok (.aload_n 0, 1) := by decide +kernel
theorem dX12_mostOf_102 : decode cX12_mostOf 102 = .ok (.getfield 77, 3) := by decide +kernel
theorem dX12_mostOf_105 : decode cX12_mostOf 105 = .ok (.iload_n 3, 1) := by decide +kernel
theorem dX12_mostOf_106 : decode cX12_mostOf 106 = .ok (.iaload, 1) := by decide +kernel
theorem dX12_mostOf_107 : decode cX12_mostOf 107 = .ok (.istore_n 3, 1) := by decide +kernel
theorem dX12_mostOf_108 : decode cX12_mostOf 108 = .ok (.goto (-31), 3) := by decide +kernel
theorem dX12_mostOf_111 : decode cX12_mostOf 111 = .ok (.iconst 0, 1) := by decide +kernel
theorem dX12_mostOf_112 : decode cX12_mostOf 112 = .ok (.istore_n 3, 1) := by decide +kernel
theorem dX12_mostOf_113 : decode cX12_mostOf 113 = .ok (.iload_n 3, 1) := by decide +kernel
theorem dX12_mostOf_114 : decode cX12_mostOf 114 = .ok (.bipush 10, 2) := by decide +kernel
theorem dX12_mostOf_116 : decode cX12_mostOf 116 = .ok (.if_icmp .ge 16, 3) := by decide +kernel
theorem dX12_mostOf_119 : decode cX12_mostOf 119 = .ok (.aload_n 0, 1) := by decide +kernel
theorem dX12_mostOf_120 : decode cX12_mostOf 120 = .ok (.getfield 65, 3) := by decide +kernel
theorem dX12_mostOf_123 : decode cX12_mostOf 123 = .ok (.iload_n 3, 1) := by decide +kernel
theorem dX12_mostOf_124 : decode cX12_mostOf 124 = .ok (.iconst 0, 1) := by decide +kernel
theorem dX12_mostOf_125 : decode cX12_mostOf 125 = .ok (.iastore, 1) := by decide +kernel
theorem dX12_mostOf_126 : decode cX12_mostOf 126 = .ok (.iinc 3 1, 3) := by decide +kernel
theorem dX12_mostOf_129 : decode cX12_mostOf 129 = .ok (.goto (-16), 3) := by decide +kernel
theorem dX12_mostOf_132 : decode cX12_mostOf 132 = .ok (.iconst 0, 1) := by decide +kernel
theorem dX12_mostOf_133 : decode cX12_mostOf 133 = .ok (.istore_n 3, 1) := by decide +kernel
theorem dX12_mostOf_134 : decode cX12_mostOf 134 = .ok (.iload_n 3, 1) := by decide +kernel
theorem dX12_mostOf_135 : decode cX12_mostOf 135 = .ok (.aload_n 0, 1) := by decide +kernel
theorem dX12_mostOf_136 : decode cX12_mostOf 136 = .ok (.getfield 311, 3) := by decide +kernel
theorem dX12_mostOf_139 : decode cX12_mostOf 139 = .ok (.if_icmp .ge 57, 3) := by decide +kernel
theorem dX12_mostOf_142 : decode cX12_mostOf 142 = .ok (.aload_n 0, 1) := by decide +kernel
theorem dX12_mostOf_143 : decode cX12_mostOf 143 = .ok (.getfield 80, 3) := by decide +kernel
theorem dX12_mostOf_146 : decode cX12_mostOf 146 = .ok (.iload_n 3, 1) := by decide +kernel
theorem dX12_mostOf_147 : decode cX12_mostOf 147 = .ok (.baload, 1) := by decide +kernel
theorem dX12_mostOf_148 : decode cX12_mostOf 148 = .ok (.ifCond .ne 6, 3) := by decide +kernel
theorem dX12_mostOf_151 : decode cX12_mostOf 151 = .ok (.goto 39, 3) := by decide +kernel
theorem dX12_mostOf_154 : decode cX12_mostOf 154 = .ok (.aload_n 0, 1) := by decide +kernel
theorem dX12_mostOf_155 : decode cX12_mostOf 155 = .ok (.getfield 65, 3) := by decide +kernel
theorem dX12_mostOf_158 : decode cX12_mostOf 158 = .ok (.aload_n 0, 1) := by decide +kernel
theorem dX12_mostOf_159 : decode cX12_mostOf 159 = .ok (.getfield 59, 3) := by decide +kernel
theorem dX12_mostOf_162 : decode cX12_mostOf 162 = .ok (.iconst 2, 1) := by decide +kernel
theorem dX12_mostOf_163 : decode cX12_mostOf 163 = .ok (.iload_n 3, 1) := by decide +kernel
theorem dX12_mostOf_164 : decode cX12_mostOf 164 = .ok (.imul, 1) := by decide +kernel
theorem dX12_mostOf_165 : decode cX12_mostOf 165 = .ok (.iaload, 1) := by decide +kernel
theorem dX12_mostOf_166 : decode cX12_mostOf 166 = .ok (.dup2, 1) := by decide +kernel
theorem dX12_mostOf_167 : decode cX12_mostOf 167 = .ok (.iaload, 1) := by decide +kernel
theorem dX12_mostOf_168 : decode cX12_mostOf 168 = .ok (.iconst 1, 1) := by decide +kernel
theorem dX12_mostOf_169 : decode cX12_mostOf 169 = .ok (.iadd, 1) := by decide +kernel
theorem dX12_mostOf_170 : decode cX12_mostOf 170 = .ok (.iastore, 1) := by decide +kernel
theorem dX12_mostOf_171 : decode cX12_mostOf 171 = .ok (.aload_n 0, 1) := by decide +kernel
theorem dX12_mostOf_172 : decode cX12_mostOf 172 = .ok (.getfield 65, 3) := by decide +kernel
theorem dX12_mostOf_175 : decode cX12_mostOf 175 = .ok (.aload_n 0, 1) := by decide +kernel
theorem dX12_mostOf_176 : decode cX12_mostOf 176 = .ok (.getfield 59, 3) := by decide +kernel
theorem dX12_mostOf_179 : decode cX12_mostOf 179 = .ok (.iconst 2, 1) := by decide +kernel
theorem dX12_mostOf_180 : decode cX12_mostOf 180 = .ok (.iload_n 3, 1) := by decide +kernel
theorem dX12_mostOf_181 : decode cX12_mostOf 181 = .ok (.imul, 1) := by decide +kernel
theorem dX12_mostOf_182 : decode cX12_mostOf 182 = .ok (.iconst 1, 1) := by decide +kernel
theorem dX12_mostOf_183 : decode cX12_mostOf 183 = .ok (.iadd, 1) := by decide +kernel
theorem dX12_mostOf_184 : decode cX12_mostOf 184 = .ok (.iaload, 1) := by decide +kernel
theorem dX12_mostOf_185 : decode cX12_mostOf 185 = .ok (.dup2, 1) := by decide +kernel
theorem dX12_mostOf_186 : decode cX12_mostOf 186 = .ok (.iaload, 1) := by decide +kernel
theorem dX12_mostOf_187 : decode cX12_mostOf 187 = .ok (.iconst 1, 1) := by decide +kernel
theorem dX12_mostOf_188 : decode cX12_mostOf 188 = .ok (.iadd, 1) := by decide +kernel
theorem dX12_mostOf_189 : decode cX12_mostOf 189 = .ok (.iastore, 1) := by decide +kernel
theorem dX12_mostOf_190 : decode cX12_mostOf 190 = .ok (.iinc 3 1, 3) := by decide +kernel
theorem dX12_mostOf_193 : decode cX12_mostOf 193 = .ok (.goto (-59), 3) := by decide +kernel
theorem dX12_mostOf_196 : decode cX12_mostOf 196 = .ok (.goto (-150), 3) := by decide +kernel
theorem dX12_isRoom_0 : decode cX12_isRoom 0 = .ok (.aload_n 0, 1) := by decide +kernel
theorem dX12_isRoom_1 : decode cX12_isRoom 1 = .ok (.getfield 65, 3) := by decide +kernel
theorem dX12_isRoom_4 : decode cX12_isRoom 4 = .ok (.iload_n 1, 1) := by decide +kernel
theorem dX12_isRoom_5 : decode cX12_isRoom 5 = .ok (.iaload, 1) := by decide +kernel
theorem dX12_isRoom_6 : decode cX12_isRoom 6 = .ok (.aload_n 0, 1) := by decide +kernel
theorem dX12_isRoom_7 : decode cX12_isRoom 7 = .ok (.getfield 68, 3) := by decide +kernel
theorem dX12_isRoom_10 : decode cX12_isRoom 10 = .ok (.iload_n 1, 1) := by decide +kernel
theorem dX12_isRoom_11 : decode cX12_isRoom 11 = .ok (.iaload, 1) := by decide +kernel
theorem dX12_isRoom_12 : decode cX12_isRoom 12 = .ok (.if_icmp .ge 7, 3) := by decide +kernel
theorem dX12_isRoom_15 : decode cX12_isRoom 15 = .ok (.iconst 1, 1) := by decide +kernel
theorem dX12_isRoom_16 : decode cX12_isRoom 16 = .ok (.goto 4, 3) := by decide +kernel
theorem dX12_isRoom_19 : decode cX12_isRoom 19 = .ok (.iconst 0, 1) := by decide +kernel
theorem dX12_isRoom_20 : decode cX12_isRoom 20 = .ok (.ireturn, 1) := by decide +kernel
theorem dX12_bestRow_0 : decode cX12_bestRow 0 = .ok (.iconst 0, 1) := by decide +kernel
theorem dX12_bestRow_1 : decode cX12_bestRow 1 = .ok (.istore_n 1, 1) := by decide +kernel
theorem dX12_bestRow_2 : decode cX12_bestRow 2 = .ok (.iload_n 1, 1) := by decide +kernel
theorem dX12_bestRow_3 : decode cX12_bestRow 3 = .ok (.aload_n 0, 1) := by decide +kernel
theorem dX12_bestRow_4 : decode cX12_bestRow 4 = .ok (.getfield 311, 3) := by decide +kernel
theorem dX12_bestRow_7 : decode cX12_bestRow 7 = .ok (.if_icmp .ge 66, 3) := by decide +kernel
theorem dX12_bestRow_10 : decode cX12_bestRow 10 = .ok (.aload_n 0, 1) := by decide +kernel
theorem dX12_bestRow_11 : decode cX12_bestRow 11 = .ok (.getfield 77, 3) := by decide +kernel
theorem dX12_bestRow_14 : decode cX12_bestRow 14 = .ok (.iload_n 1, 1) := by decide +kernel
theorem dX12_bestRow_15 : decode cX12_bestRow 15 = .ok (.iconst (-1), 1) := by decide +kernel
theorem dX12_bestRow_16 : decode cX12_bestRow 16 = .ok (.iastore, 1) := by decide +kernel
theorem dX12_bestRow_17 : decode cX12_bestRow 17 = .ok (.aload_n 0, 1) := by decide +kernel
theorem dX12_bestRow_18 : decode cX12_bestRow 18 = .ok (.getfield 71, 3) := by decide +kernel
theorem dX12_bestRow_21 : decode cX12_bestRow 21 = .ok (.iload_n 1, 1) := by decide +kernel
theorem dX12_bestRow_22 : decode cX12_bestRow 22 = .ok (.aload_n 0, 1) := by decide +kernel
theorem dX12_bestRow_23 : decode cX12_bestRow 23 = .ok (.getfield 80, 3) := by decide +kernel
theorem dX12_bestRow_26 : decode cX12_bestRow 26 = .ok (.iload_n 1, 1) := by decide +kernel
theorem dX12_bestRow_27 : decode cX12_bestRow 27 = .ok (.baload, 1) := by decide +kernel
theorem dX12_bestRow_28 : decode cX12_bestRow 28 = .ok (.ifCond .ne 28, 3) := by decide +kernel
theorem dX12_bestRow_31 : decode cX12_bestRow 31 = .ok (.aload_n 0, 1) := by decide +kernel
theorem dX12_bestRow_32 : decode cX12_bestRow 32 = .ok (.aload_n 0, 1) := by decide +kernel
theorem dX12_bestRow_33 : decode cX12_bestRow 33 = .ok (.getfield 59, 3) := by decide +kernel
theorem dX12_bestRow_36 : decode cX12_bestRow 36 = .ok (.iconst 2, 1) := by decide +kernel
theorem dX12_bestRow_37 : decode cX12_bestRow 37 = .ok (.iload_n 1, 1) := by decide +kernel
theorem dX12_bestRow_38 : decode cX12_bestRow 38 = .ok (.imul, 1) := by decide +kernel
theorem dX12_bestRow_39 : decode cX12_bestRow 39 = .ok (.iaload, 1) := by decide +kernel
theorem dX12_bestRow_40 : decode cX12_bestRow 40 = .ok (.invokevirtual 317, 3) := by decide +kernel
theorem dX12_bestRow_43 : decode cX12_bestRow 43 = .ok (.ifCond .eq 13, 3) := by decide +kernel
theorem dX12_bestRow_46 : decode cX12_bestRow 46 = .ok (.aload_n 0, 1) := by decide +kernel
theorem dX12_bestRow_47 : decode cX12_bestRow 47 = .ok (.getfield 62, 3) := by decide +kernel
theorem dX12_bestRow_50 : decode cX12_bestRow 50 = .ok (.iload_n 1, 1) := by decide +kernel
theorem dX12_bestRow_51 : decode cX12_bestRow 51 = .ok (.iaload, 1) := by decide +kernel
theorem dX12_bestRow_52 : decode cX12_bestRow 52 = .ok (.ineg, 1) := by decide +kernel
theorem dX12_bestRow_53 : decode cX12_bestRow 53 = .ok (.goto 6, 3) := by decide +kernel
theorem dX12_bestRow_56 : decode cX12_bestRow 56 = .ok (.ldc_w 320, 3) := by decide +kernel
theorem dX12_bestRow_59 : decode cX12_bestRow 59 = .ok (.iastore, 1) := by decide +kernel
theorem dX12_bestRow_60 : decode cX12_bestRow 60 = .ok (.aload_n 0, 1) := by decide +kernel
theorem dX12_bestRow_61 : decode cX12_bestRow 61 = .ok (.getfield 74, 3) := by decide +kernel
theorem dX12_bestRow_64 : decode cX12_bestRow 64 = .ok (.iload_n 1, 1) := by decide +kernel
theorem dX12_bestRow_65 : decode cX12_bestRow 65 = .ok (.iconst 0, 1) := by decide +kernel
theorem dX12_bestRow_66 : decode cX12_bestRow 66 = .ok (.iastore, 1) := by decide +kernel
theorem dX12_bestRow_67 : decode cX12_bestRow 67 = .ok (.iinc 1 1, 3) := by decide +kernel
theorem dX12_bestRow_70 : decode cX12_bestRow 70 = .ok (.goto (-68), 3) := by decide +kernel
theorem dX12_bestRow_73 : decode cX12_bestRow 73 = .ok (.iconst 1, 1) := by decide +kernel
theorem dX12_bestRow_74 : decode cX12_bestRow 74 = .ok (.istore_n 1, 1) := by decide +kernel
theorem dX12_bestRow_75 : decode cX12_bestRow 75 = .ok (.iload_n 1, 1) := by decide +kernel
theorem dX12_bestRow_76 : decode cX12_bestRow 76 = .ok (.ifCond .eq 229, 3) := by decide +kernel
theorem dX12_bestRow_79 : decode cX12_bestRow 79 = .ok (.iconst 0, 1) := by decide +kernel
theorem dX12_bestRow_80 : decode cX12_bestRow 80 = .ok (.istore_n 1, 1) := by decide +kernel
theorem dX12_bestRow_81 : decode cX12_bestRow 81 = .ok (.iconst 0, 1) := by decide +kernel
theorem dX12_bestRow_82 : decode cX12_bestRow 82 = .ok (.istore_n 2, 1) := by decide +kernel
theorem dX12_bestRow_83 : decode cX12_bestRow 83 = .ok (.iload_n 2, 1) := by decide +kernel
theorem dX12_bestRow_84 : decode cX12_bestRow 84 = .ok (.aload_n 0, 1) := by decide +kernel
theorem dX12_bestRow_85 : decode cX12_bestRow 85 = .ok (.getfield 311, 3) := by decide +kernel
theorem dX12_bestRow_88 : decode cX12_bestRow 88 = .ok (.if_icmp .ge 214, 3) := by decide +kernel
theorem dX12_bestRow_91 : decode cX12_bestRow 91 = .ok (.aload_n 0, 1) := by decide +kernel
theorem dX12_bestRow_92 : decode cX12_bestRow 92 = .ok (.getfield 71, 3) := by decide +kernel
theorem dX12_bestRow_95 : decode cX12_bestRow 95 = .ok (.iload_n 2, 1) := by decide +kernel
theorem dX12_bestRow_96 : decode cX12_bestRow 96 = .ok (.iaload, 1) := by decide +kernel
theorem dX12_bestRow_97 : decode cX12_bestRow 97 = .ok (.ldc_w 320, 3) := by decide +kernel
theorem dX12_bestRow_100 : decode cX12_bestRow 100 = .ok (.if_icmp .ne 6, 3) := by decide +kernel
theorem dX12_bestRow_103 : decode cX12_bestRow 103 = .ok (.goto 193, 3) := by decide +kernel
theorem dX12_bestRow_106 : decode cX12_bestRow 106 = .ok (.iconst 0, 1) := by decide +kernel
theorem dX12_bestRow_107 : decode cX12_bestRow 107 = .ok (.istore_n 3, 1) := by decide +kernel
theorem dX12_bestRow_108 : decode cX12_bestRow 108 = .ok (.iload_n 3, 1) := by decide +kernel
theorem dX12_bestRow_109 : decode cX12_bestRow 109 = .ok (.aload_n 0, 1) := by decide +kernel
theorem dX12_bestRow_110 : decode cX12_bestRow 110 = .ok (.getfield 311, 3) := by decide +kernel
theorem dX12_bestRow_113 : decode cX12_bestRow 113 = .ok (.if_icmp .ge 183, 3) := by decide +kernel
theorem dX12_bestRow_116 : decode cX12_bestRow 116 = .ok (.aload_n 0, 1) := by decide +kernel
theorem dX12_bestRow_117 : decode cX12_bestRow 117 = .ok (.getfield 80, 3) := by decide +kernel
theorem dX12_bestRow_120 : decode cX12_bestRow 120 = .ok (.iload_n 2, 1) := by decide +kernel
theorem dX12_bestRow_121 : decode cX12_bestRow 121 = .ok (.baload, 1) := by decide +kernel
theorem dX12_bestRow_122 : decode cX12_bestRow 122 = .ok (.aload_n 0, 1) := by decide +kernel
theorem dX12_bestRow_123 : decode cX12_bestRow 123 = .ok (.getfield 80, 3) := by decide +kernel
theorem dX12_bestRow_126 : decode cX12_bestRow 126 = .ok (.iload_n 3, 1) := by decide +kernel
theorem dX12_bestRow_127 : decode cX12_bestRow 127 = .ok (.baload, 1) := by decide +kernel
theorem dX12_bestRow_128 : decode cX12_bestRow 128 = .ok (.if_icmp .eq 162, 3) := by decide +kernel
theorem dX12_bestRow_131 : decode cX12_bestRow 131 = .ok (.aload_n 0, 1) := by decide +kernel
theorem dX12_bestRow_132 : decode cX12_bestRow 132 = .ok (.getfield 59, 3) := by decide +kernel
theorem dX12_bestRow_135 : decode cX12_bestRow 135 = .ok (.iconst 2, 1) := by decide +kernel
theorem dX12_bestRow_136 : decode cX12_bestRow 136 = .ok (.iload_n 2, 1) := by decide +kernel
theorem dX12_bestRow_137 : decode cX12_bestRow 137 = .ok (.imul, 1) := by decide +kernel
theorem dX12_bestRow_138 : decode cX12_bestRow 138 = .ok (.aload_n 0, 1) := by decide +kernel
theorem dX12_bestRow_139 : decode cX12_bestRow 139 = .ok (.getfield 80, 3) := by decide +kernel
theorem dX12_bestRow_142 : decode cX12_bestRow 142 = .ok (.iload_n 2, 1) := by decide +kernel
theorem dX12_bestRow_143 : decode cX12_bestRow 143 = .ok (.baload, 1) := by decide +kernel
theorem dX12_bestRow_144 : decode cX12_bestRow 144 = .ok (.ifCond .eq 7, 3) := by decide +kernel
theorem dX12_bestRow_147 : decode cX12_bestRow 147 = .ok (.iconst 0, 1) := by decide +kernel
theorem dX12_bestRow_148 : decode cX12_bestRow 148 = .ok (.goto 4, 3) := by decide +kernel
theorem dX12_bestRow_151 : decode cX12_bestRow 151 = .ok (.iconst 1, 1) := by decide +kernel
theorem dX12_bestRow_152 : decode cX12_bestRow 152 = .ok (.iadd, 1) := by decide +kernel
theorem dX12_bestRow_153 : decode cX12_bestRow 153 = .ok (.iaload, 1) := by decide +kernel
theorem dX12_bestRow_154 : decode cX12_bestRow 154 = .ok (.aload_n 0, 1) := by decide +kernel
theorem dX12_bestRow_155 : decode cX12_bestRow 155 = .ok (.getfield 59, 3) := by decide +kernel
theorem dX12_bestRow_158 : decode cX12_bestRow 158 = .ok (.iconst 2, 1) := by decide +kernel
theorem dX12_bestRow_159 : decode cX12_bestRow 159 = .ok (.iload_n 3, 1) := by decide +kernel
theorem dX12_bestRow_160 : decode cX12_bestRow 160 = .ok (.imul, 1) := by decide +kernel
theorem dX12_bestRow_161 : decode cX12_bestRow 161 = .ok (.aload_n 0, 1) := by decide +kernel
theorem dX12_bestRow_162 : decode cX12_bestRow 162 = .ok (.getfield 80, 3) := by decide +kernel
theorem dX12_bestRow_165 : decode cX12_bestRow 165 = .ok (.iload_n 2, 1) := by decide +kernel
theorem dX12_bestRow_166 : decode cX12_bestRow 166 = .ok (.baload, 1) := by decide +kernel
theorem dX12_bestRow_167 : decode cX12_bestRow 167 = .ok (.ifCond .eq 7, 3) := by decide +kernel
theorem dX12_bestRow_170 : decode cX12_bestRow 170 = .ok (.iconst 0, 1) := by decide +kernel
theorem dX12_bestRow_171 : decode cX12_bestRow 171 = .ok (.goto 4, 3) := by decide +kernel
theorem dX12_bestRow_174 : decode cX12_bestRow 174 = .ok (.iconst 1, 1) := by decide +kernel
theorem dX12_bestRow_175 : decode cX12_bestRow 175 = .ok (.iadd, 1) := by decide +kernel
theorem dX12_bestRow_176 : decode cX12_bestRow 176 = .ok (.iaload, 1) := by decide +kernel
theorem dX12_bestRow_177 : decode cX12_bestRow 177 = .ok (.if_icmp .eq 6, 3) := by decide +kernel
theorem dX12_bestRow_180 : decode cX12_bestRow 180 = .ok (.goto 110, 3) := by decide +kernel
theorem dX12_bestRow_183 : decode cX12_bestRow 183 = .ok (.aload_n 0, 1) := by decide +kernel
theorem dX12_bestRow_184 : decode cX12_bestRow 184 = .ok (.getfield 71, 3) := by decide +kernel
theorem dX12_bestRow_187 : decode cX12_bestRow 187 = .ok (.iload_n 2, 1) := by decide +kernel
theorem dX12_bestRow_188 : decode cX12_bestRow 188 = .ok (.iaload, 1) := by decide +kernel
theorem dX12_bestRow_189 : decode cX12_bestRow 189 = .ok (.aload_n 0, 1) := by decide +kernel
theorem dX12_bestRow_190 : decode cX12_bestRow 190 = .ok (.getfield 80, 3) := by decide +kernel
theorem dX12_bestRow_193 : decode cX12_bestRow 193 = .ok (.iload_n 3, 1) := by decide +kernel
theorem dX12_bestRow_194 : decode cX12_bestRow 194 = .ok (.baload, 1) := by decide +kernel
theorem dX12_bestRow_195 : decode cX12_bestRow 195 = .ok (.ifCond .eq 12, 3) := by decide +kernel
theorem dX12_bestRow_198 : decode cX12_bestRow 198 = .ok (.aload_n 0, 1) := by decide +kernel
theorem dX12_bestRow_199 : decode cX12_bestRow 199 = .ok (.getfield 62, 3) := by decide +kernel
theorem dX12_bestRow_202 : decode cX12_bestRow 202 = .ok (.iload_n 3, 1) := by decide +kernel
theorem dX12_bestRow_203 : decode cX12_bestRow 203 = .ok (.iaload, 1) := by decide +kernel
theorem dX12_bestRow_204 : decode cX12_bestRow 204 = .ok (.goto 10, 3) := by decide +kernel
theorem dX12_bestRow_207 : decode cX12_bestRow 207 = .ok (.aload_n 0, 1) := by decide +kernel
theorem dX12_bestRow_208 : decode cX12_bestRow 208 = .ok (.getfield 62, 3) := by decide +kernel
theorem dX12_bestRow_211 : decode cX12_bestRow 211 = .ok (.iload_n 3, 1) := by decide +kernel
theorem dX12_bestRow_212 : decode cX12_bestRow 212 = .ok (.iaload, 1) := by decide +kernel
theorem dX12_bestRow_213 : decode cX12_bestRow 213 = .ok (.ineg, 1) := by decide +kernel
theorem dX12_bestRow_214 : decode cX12_bestRow 214 = .ok (.iadd, 1) := by decide +kernel
theorem dX12_bestRow_215 : decode cX12_bestRow 215 = .ok (.istore 4, 2) := by decide +kernel
theorem dX12_bestRow_217 : decode cX12_bestRow 217 = .ok (.iload 4, 2) := by decide +kernel
theorem dX12_bestRow_219 : decode cX12_bestRow 219 = .ok (.aload_n 0, 1) := by decide +kernel
theorem dX12_bestRow_220 : decode cX12_bestRow 220 = .ok (.getfield 71, 3) := by decide +kernel
theorem dX12_bestRow_223 : decode cX12_bestRow 223 = .ok (.iload_n 3, 1) := by decide +kernel
theorem dX12_bestRow_224 : decode cX12_bestRow 224 = .ok (.iaload, 1) := by decide +kernel
theorem dX12_bestRow_225 : decode cX12_bestRow 225 = .ok (.if_icmp .gt 65, 3) := by decide +kernel
theorem dX12_bestRow_228 : decode cX12_bestRow 228 = .ok (.iload 4, 2) := by decide +kernel
theorem dX12_bestRow_230 : decode cX12_bestRow 230 = .ok (.aload_n 0, 1) := by decide +kernel
theorem dX12_bestRow_231 : decode cX12_bestRow 231 = .ok (.getfield 71, 3) := by decide +kernel
theorem dX12_bestRow_234 : decode cX12_bestRow 234 = .ok (.iload_n 3, 1) := by decide +kernel
theorem dX12_bestRow_235 : decode cX12_bestRow 235 = .ok (.iaload, 1) := by decide +kernel
theorem dX12_bestRow_236 : decode cX12_bestRow 236 = .ok (.if_icmp .ne 23, 3) := by decide +kernel
theorem dX12_bestRow_239 : decode cX12_bestRow 239 = .ok (.aload_n 0, 1) := by decide +kernel
theorem dX12_bestRow_240 : decode cX12_bestRow 240 = .ok (.getfield 74, 3) := by decide +kernel
theorem dX12_bestRow_243 : decode cX12_bestRow 243 = .ok (.iload_n 2, 1) := by decide +kernel
theorem dX12_bestRow_244 : decode cX12_bestRow 244 = .ok (.iaload, 1) := by decide +kernel
theorem dX12_bestRow_245 : decode cX12_bestRow 245 = .ok (.iconst 1, 1) := by decide +kernel
theorem dX12_bestRow_246 : decode cX12_bestRow 246 = .ok (.iadd, 1) := by decide +kernel
theorem dX12_bestRow_247 : decode cX12_bestRow 247 = .ok (.aload_n 0, 1) := by decide +kernel
theorem dX12_bestRow_248 : decode cX12_bestRow 248 = .ok (.getfield 74, 3) := by decide +kernel
theorem dX12_bestRow_251 : decode cX12_bestRow 251 = .ok (.iload_n 3, 1) := by decide +kernel
theorem dX12_bestRow_252 : decode cX12_bestRow 252 = .ok (.iaload, 1) := by decide +kernel
theorem dX12_bestRow_253 : decode cX12_bestRow 253 = .ok (.if_icmp .lt 6, 3) := by decide +kernel
theorem dX12_bestRow_256 : decode cX12_bestRow 256 = .ok (.goto 34, 3) := by decide +kernel
theorem dX12_bestRow_259 : decode cX12_bestRow 259 = .ok (.aload_n 0, 1) := by decide +kernel
theorem dX12_bestRow_260 : decode cX12_bestRow 260 = .ok (.getfield 71, 3) := by decide +kernel
theorem dX12_bestRow_263 : decode cX12_bestRow 263 = .ok (.iload_n 3, 1) := by decide +kernel
theorem dX12_bestRow_264 : decode cX12_bestRow 264 = .ok (.iload 4, 2) := by decide +kernel
theorem dX12_bestRow_266 : decode cX12_bestRow 266 = .ok (.iastore, 1) := by decide +kernel
theorem dX12_bestRow_267 : decode cX12_bestRow 267 = .ok (.aload_n 0, 1) := by decide +kernel
theorem dX12_bestRow_268 : decode cX12_bestRow 268 = .ok (.getfield 74, 3) := by decide +kernel
theorem dX12_bestRow_271 : decode cX12_bestRow 271 = .ok (.iload_n 3, 1) := by decide +kernel
theorem dX12_bestRow_272 : decode cX12_bestRow 272 = .ok (.aload_n 0, 1) := by decide +kernel
theorem dX12_bestRow_273 : decode cX12_bestRow 273 = .ok (.getfield 74, 3) := by decide +kernel
theorem dX12_bestRow_276 : decode cX12_bestRow 276 = .ok (.iload_n 2, 1) := by decide +kernel
theorem dX12_bestRow_277 : decode cX12_bestRow 277 = .ok (.iaload, 1) := by decide +kernel
theorem dX12_bestRow_278 : decode cX12_bestRow 278 = .ok (.iconst 1, 1) := by decide +kernel
theorem dX12_bestRow_279 : decode cX12_bestRow 279 = .ok (.iadd, 1) := by decide +kernel
theorem dX12_bestRow_280 : decode cX12_bestRow 280 = .ok (.iastore, 1) := by decide +kernel
theorem dX12_bestRow_281 : decode cX12_bestRow 281 = .ok (.aload_n 0, 1) := by decide +kernel
theorem dX12_bestRow_282 : decode cX12_bestRow 282 = .ok (.getfield 77, 3) := by decide +kernel
theorem dX12_bestRow_285 : decode cX12_bestRow 285 = .ok (.iload_n 3, 1) := by decide +kernel
theorem dX12_bestRow_286 : decode cX12_bestRow 286 = .ok (.iload_n 2, 1) := by decide +kernel
theorem dX12_bestRow_287 : decode cX12_bestRow 287 = .ok (.iastore, 1) := by decide +kernel
theorem dX12_bestRow_288 : decode cX12_bestRow 288 = .ok (.iconst 1, 1) := by decide +kernel
theorem dX12_bestRow_289 : decode cX12_bestRow 289 = .ok (.istore_n 1, 1) := by decide +kernel
theorem dX12_bestRow_290 : decode cX12_bestRow 290 = .ok (.iinc 3 1, 3) := by decide +kernel
theorem dX12_bestRow_293 : decode cX12_bestRow 293 = .ok (.goto (-185), 3) := by decide +kernel
theorem dX12_bestRow_296 : decode cX12_bestRow 296 = .ok (.iinc 2 1, 3) := by decide +kernel
theorem dX12_bestRow_299 : decode cX12_bestRow 299 = .ok (.goto (-216), 3) := by decide +kernel
theorem dX12_bestRow_302 : decode cX12_bestRow 302 = .ok (.goto (-227), 3) := by decide +kernel
theorem dX12_bestRow_305 : decode cX12_bestRow 305 = .ok (.iconst (-1), 1) := by decide +kernel
theorem dX12_bestRow_306 : decode cX12_bestRow 306 = .ok (.istore_n 2, 1) := by decide +kernel
theorem dX12_bestRow_307 : decode cX12_bestRow 307 = .ok (.iconst 0, 1) := by decide +kernel
theorem dX12_bestRow_308 : decode cX12_bestRow 308 = .ok (.istore_n 3, 1) := by decide +kernel
theorem dX12_bestRow_309 : decode cX12_bestRow 309 = .ok (.iload_n 3, 1) := by decide +kernel
theorem dX12_bestRow_310 : decode cX12_bestRow 310 = .ok (.aload_n 0, 1) := by decide +kernel
theorem dX12_bestRow_311 : decode cX12_bestRow 311 = .ok (.getfield 311, 3) := by decide +kernel
theorem dX12_bestRow_314 : decode cX12_bestRow 314 = .ok (.if_icmp .ge 101, 3) := by decide +kernel
theorem dX12_bestRow_317 : decode cX12_bestRow 317 = .ok (.aload_n 0, 1) := by decide +kernel
theorem dX12_bestRow_318 : decode cX12_bestRow 318 = .ok (.getfield 80, 3) := by decide +kernel
theorem dX12_bestRow_321 : decode cX12_bestRow 321 = .ok (.iload_n 3, 1) := by decide +kernel
theorem dX12_bestRow_322 : decode cX12_bestRow 322 = .ok (.baload, 1) := by decide +kernel
theorem dX12_bestRow_323 : decode cX12_bestRow 323 = .ok (.ifCond .ne 86, 3) := by decide +kernel
theorem dX12_bestRow_326 : decode cX12_bestRow 326 = .ok (.aload_n 0, 1) := by decide +kernel
theorem dX12_bestRow_327 : decode cX12_bestRow 327 = .ok (.getfield 71, 3) := by decide +kernel
theorem dX12_bestRow_330 : decode cX12_bestRow 330 = .ok (.iload_n 3, 1) := by decide +kernel
theorem dX12_bestRow_331 : decode cX12_bestRow 331 = .ok (.iaload, 1) := by decide +kernel
theorem dX12_bestRow_332 : decode cX12_bestRow 332 = .ok (.ldc_w 320, 3) := by decide +kernel
theorem dX12_bestRow_335 : decode cX12_bestRow 335 = .ok (.if_icmp .eq 74, 3) := by decide +kernel
theorem dX12_bestRow_338 : decode cX12_bestRow 338 = .ok (.aload_n 0, 1) := by decide +kernel
theorem dX12_bestRow_339 : decode cX12_bestRow 339 = .ok (.aload_n 0, 1) := by decide +kernel
theorem dX12_bestRow_340 : decode cX12_bestRow 340 = .ok (.getfield 59, 3) := by decide +kernel
theorem dX12_bestRow_343 : decode cX12_bestRow 343 = .ok (.iconst 2, 1) := by decide +kernel
theorem dX12_bestRow_344 : decode cX12_bestRow 344 = .ok (.iload_n 3, 1) := by decide +kernel
theorem dX12_bestRow_345 : decode cX12_bestRow 345 = .ok (.imul, 1) := by decide +kernel
theorem dX12_bestRow_346 : decode cX12_bestRow 346 = .ok (.iconst 1, 1) := by decide +kernel
theorem dX12_bestRow_347 : decode cX12_bestRow 347 = .ok (.iadd, 1) := by decide +kernel
theorem dX12_bestRow_348 : decode cX12_bestRow 348 = .ok (.iaload, 1) := by decide +kernel
theorem dX12_bestRow_349 : decode cX12_bestRow 349 = .ok (.invokevirtual 317, 3) := by decide +kernel
theorem dX12_bestRow_352 : decode cX12_bestRow 352 = .ok (.ifCond .ne 6, 3) := by decide +kernel
theorem dX12_bestRow_355 : decode cX12_bestRow 355 = .ok (.goto 54, 3) := by decide +kernel
theorem dX12_bestRow_358 : decode cX12_bestRow 358 = .ok (.iload_n 2, 1) := by decide +kernel
theorem dX12_bestRow_359 : decode cX12_bestRow 359 = .ok (.ifCond .lt 48, 3) := by decide +kernel
theorem dX12_bestRow_362 : decode cX12_bestRow 362 = .ok (.aload_n 0, 1) := by decide +kernel
theorem dX12_bestRow_363 : decode cX12_bestRow 363 = .ok (.getfield 71, 3) := by decide +kernel
theorem dX12_bestRow_366 : decode cX12_bestRow 366 = .ok (.iload_n 3, 1) := by decide +kernel
theorem dX12_bestRow_367 : decode cX12_bestRow 367 = .ok (.iaload, 1) := by decide +kernel
theorem dX12_bestRow_368 : decode cX12_bestRow 368 = .ok (.aload_n 0, 1) := by decide +kernel
theorem dX12_bestRow_369 : decode cX12_bestRow 369 = .ok (.getfield 71, 3) := by decide +kernel
theorem dX12_bestRow_372 : decode cX12_bestRow 372 = .ok (.iload_n 2, 1) := by decide +kernel
theorem dX12_bestRow_373 : decode cX12_bestRow 373 = .ok (.iaload, 1) := by decide +kernel
theorem dX12_bestRow_374 : decode cX12_bestRow 374 = .ok (.if_icmp .lt 33, 3) := by decide +kernel
theorem dX12_bestRow_377 : decode cX12_bestRow 377 = .ok (.aload_n 0, 1) := by decide +kernel
theorem dX12_bestRow_378 : decode cX12_bestRow 378 = .ok (.getfield 71, 3) := by decide +kernel
theorem dX12_bestRow_381 : decode cX12_bestRow 381 = .ok (.iload_n 3, 1) := by decide +kernel
theorem dX12_bestRow_382 : decode cX12_bestRow 382 = .ok (.iaload, 1) := by decide +kernel
theorem dX12_bestRow_383 : decode cX12_bestRow 383 = .ok (.aload_n 0, 1) := by decide +kernel
theorem dX12_bestRow_384 : decode cX12_bestRow 384 = .ok (.getfield 71, 3) := by decide +kernel
theorem dX12_bestRow_387 : decode cX12_bestRow 387 = .ok (.iload_n 2, 1) := by decide +kernel
theorem dX12_bestRow_388 : decode cX12_bestRow 388 = .ok (.iaload, 1) := by decide +kernel
theorem dX12_bestRow_389 : decode cX12_bestRow 389 = .ok (.if_icmp .ne 20, 3) := by decide +kernel
theorem dX12_bestRow_392 : decode cX12_bestRow 392 = .ok (.aload_n 0, 1) := by decide +kernel
theorem dX12_bestRow_393 : decode cX12_bestRow 393 = .ok (.getfield 74, 3) := by decide +kernel
theorem dX12_bestRow_396 : decode cX12_bestRow 396 = .ok (.iload_n 3, 1) := by decide +kernel
theorem dX12_bestRow_397 : decode cX12_bestRow 397 = .ok (.iaload, 1) := by decide +kernel
theorem dX12_bestRow_398 : decode cX12_bestRow 398 = .ok (.aload_n 0, 1) := by decide +kernel
theorem dX12_bestRow_399 : decode cX12_bestRow 399 = .ok (.getfield 74, 3) := by decide +kernel
theorem dX12_bestRow_402 : decode cX12_bestRow 402 = .ok (.iload_n 2, 1) := by decide +kernel
theorem dX12_bestRow_403 : decode cX12_bestRow 403 = .ok (.iaload, 1) := by decide +kernel
theorem dX12_bestRow_404 : decode cX12_bestRow 404 = .ok (.if_icmp .ge 5, 3) := by decide +kernel
theorem dX12_bestRow_407 : decode cX12_bestRow 407 = .ok (.iload_n 3, 1) := by decide +kernel
theorem dX12_bestRow_408 : decode cX12_bestRow 408 = .ok (.istore_n 2, 1) := by decide +kernel
theorem dX12_bestRow_409 : decode cX12_bestRow 409 = .ok (.iinc 3 1, 3) := by decide +kernel
theorem dX12_bestRow_412 : decode cX12_bestRow 412 = .ok (.goto (-103), 3) := by decide +kernel
theorem dX12_bestRow_415 : decode cX12_bestRow 415 = .ok (.iload_n 2, 1) := by decide +kernel
theorem dX12_bestRow_416 : decode cX12_bestRow 416 = .ok (.ireturn, 1) := by decide +kernel
theorem dX12_gainBy_0 : decode cX12_gainBy 0 = .ok (.iconst 0, 1) := by decide +kernel
theorem dX12_gainBy_1 : decode cX12_gainBy 1 = .ok (.istore 4, 2) := by decide +kernel
theorem dX12_gainBy_3 : decode cX12_gainBy 3 = .ok (.iload 4, 2) := by decide +kernel
theorem dX12_gainBy_5 : decode cX12_gainBy 5 = .ok (.aload_n 0, 1) := by decide +kernel
theorem dX12_gainBy_6 : decode cX12_gainBy 6 = .ok (.getfield 33, 3) := by decide +kernel
theorem dX12_gainBy_9 : decode cX12_gainBy 9 = .ok (.iconst 0, 1) := by decide +kernel
theorem dX12_gainBy_10 : decode cX12_gainBy 10 = .ok (.iaload, 1) := by decide +kernel
theorem dX12_gainBy_11 : decode cX12_gainBy 11 = .ok (.if_icmp .ge 36, 3) := by decide +kernel
theorem dX12_gainBy_14 : decode cX12_gainBy 14 = .ok (.aload_n 0, 1) := by decide +kernel
theorem dX12_gainBy_15 : decode cX12_gainBy 15 = .ok (.getfield 68, 3) := by decide +kernel
theorem dX12_gainBy_18 : decode cX12_gainBy 18 = .ok (.iload 4, 2) := by decide +kernel
theorem dX12_gainBy_20 : decode cX12_gainBy 20 = .ok (.iload 4, 2) := by decide +kernel
theorem dX12_gainBy_22 : decode cX12_gainBy 22 = .ok (.iload_n 2, 1) := by decide +kernel
theorem dX12_gainBy_23 : decode cX12_gainBy 23 = .ok (.if_icmp .ne 7, 3) := by decide +kernel
theorem dX12_gainBy_26 : decode cX12_gainBy 26 = .ok (.iload_n 3, 1) := by decide +kernel
theorem dX12_gainBy_27 : decode cX12_gainBy 27 = .ok (.goto 13, 3) := by decide +kernel
theorem dX12_gainBy_30 : decode cX12_gainBy 30 = .ok (.aload_n 0, 1) := by decide +kernel
theorem dX12_gainBy_31 : decode cX12_gainBy 31 = .ok (.getfield 33, 3) := by decide +kernel
theorem dX12_gainBy_34 : decode cX12_gainBy 34 = .ok (.bipush 24, 2) := by decide +kernel
theorem dX12_gainBy_36 : decode cX12_gainBy 36 = .ok (.iload 4, 2) := by decide +kernel
theorem dX12_gainBy_38 : decode cX12_gainBy 38 = .ok (.iadd, 1) := by decide +kernel
theorem dX12_gainBy_39 : decode cX12_gainBy 39 = .ok (.iaload, 1) := by decide +kernel
theorem dX12_gainBy_40 : decode cX12_gainBy 40 = .ok (.iastore, 1) := by decide +kernel
theorem dX12_gainBy_41 : decode cX12_gainBy 41 = .ok (.iinc 4 1, 3) := by decide +kernel
theorem dX12_gainBy_44 : decode cX12_gainBy 44 = .ok (.goto (-41), 3) := by decide +kernel
theorem dX12_gainBy_47 : decode cX12_gainBy 47 = .ok (.iconst 0, 1) := by decide +kernel
theorem dX12_gainBy_48 : decode cX12_gainBy 48 = .ok (.istore 4, 2) := by decide +kernel
theorem dX12_gainBy_50 : decode cX12_gainBy 50 = .ok (.iconst 0, 1) := by decide +kernel
theorem dX12_gainBy_51 : decode cX12_gainBy 51 = .ok (.istore 5, 2) := by decide +kernel
theorem dX12_gainBy_53 : decode cX12_gainBy 53 = .ok (.iload 5, 2) := by decide +kernel
theorem dX12_gainBy_55 : decode cX12_gainBy 55 = .ok (.aload_n 0, 1) := by decide +kernel
theorem dX12_gainBy_56 : decode cX12_gainBy 56 = .ok (.getfield 33, 3) := by decide +kernel
theorem dX12_gainBy_59 : decode cX12_gainBy 59 = .ok (.iconst 1, 1) := by decide +kernel
theorem dX12_gainBy_60 : decode cX12_gainBy 60 = .ok (.iaload, 1) := by decide +kernel
theorem dX12_gainBy_61 : decode cX12_gainBy 61 = .ok (.if_icmp .ge 190, 3) := by decide +kernel
theorem dX12_gainBy_64 : decode cX12_gainBy 64 = .ok (.aload_n 0, 1) := by decide +kernel
theorem dX12_gainBy_65 : decode cX12_gainBy 65 = .ok (.iload 5, 2) := by decide +kernel
theorem dX12_gainBy_67 : decode cX12_gainBy 67 = .ok (.invokevirtual 321, 3) := by decide +kernel
theorem dX12_gainBy_70 : decode cX12_gainBy 70 = .ok (.ifCond .ne 6, 3) := by decide +kernel
theorem dX12_gainBy_73 : decode cX12_gainBy 73 = .ok (.goto 172, 3) := by decide +kernel
theorem dX12_gainBy_76 : decode cX12_gainBy 76 = .ok (.aload_n 0, 1) := by decide +kernel
theorem dX12_gainBy_77 : decode cX12_gainBy 77 = .ok (.iconst 0, 1) := by decide +kernel
theorem dX12_gainBy_78 : decode cX12_gainBy 78 = .ok (.putfield 311, 3) := by decide +kernel
theorem dX12_gainBy_81 : decode cX12_gainBy 81 = .ok (.iload 5, 2) := by decide +kernel
theorem dX12_gainBy_83 : decode cX12_gainBy 83 = .ok (.istore 6, 2) := by decide +kernel
theorem dX12_gainBy_85 : decode cX12_gainBy 85 = .ok (.iload 6, 2) := by decide +kernel
theorem dX12_gainBy_87 : decode cX12_gainBy 87 = .ok (.aload_n 0, 1) := by decide +kernel
theorem dX12_gainBy_88 : decode cX12_gainBy 88 = .ok (.getfield 33, 3) := by decide +kernel
theorem dX12_gainBy_91 : decode cX12_gainBy 91 = .ok (.iconst 1, 1) := by decide +kernel
theorem dX12_gainBy_92 : decode cX12_gainBy 92 = .ok (.iaload, 1) := by decide +kernel
theorem dX12_gainBy_93 : decode cX12_gainBy 93 = .ok (.if_icmp .ge 143, 3) := by decide +kernel
theorem dX12_gainBy_96 : decode cX12_gainBy 96 = .ok (.aload_n 0, 1) := by decide +kernel
theorem dX12_gainBy_97 : decode cX12_gainBy 97 = .ok (.iload 6, 2) := by decide +kernel
theorem dX12_gainBy_99 : decode cX12_gainBy 99 = .ok (.iconst 2, 1) := by decide +kernel
theorem dX12_gainBy_100 : decode cX12_gainBy 100 = .ok (.invokevirtual 266, 3) := by decide +kernel
theorem dX12_gainBy_103 : decode cX12_gainBy 103 = .ok (.aload_n 0, 1) := by decide +kernel
theorem dX12_gainBy_104 : decode cX12_gainBy 104 = .ok (.iload 5, 2) := by decide +kernel
theorem dX12_gainBy_106 : decode cX12_gainBy 106 = .ok (.iconst 2, 1) := by decide +kernel
theorem dX12_gainBy_107 : decode cX12_gainBy 107 = .ok (.invokevirtual 266, 3) := by decide +kernel
theorem dX12_gainBy_110 : decode cX12_gainBy 110 = .ok (.if_icmp .ne 13, 3) := by decide +kernel
theorem dX12_gainBy_113 : decode cX12_gainBy 113 = .ok (.aload_n 0, 1) := by decide +kernel
theorem dX12_gainBy_114 : decode cX12_gainBy 114 = .ok (.iload 6, 2) := by decide +kernel
theorem dX12_gainBy_116 : decode cX12_gainBy 116 = .ok (.iload_n 1, 1) := by decide +kernel
theorem dX12_gainBy_117 : decode cX12_gainBy 117 = .ok (.invokevirtual 324, 3) := by decide +kernel
theorem dX12_gainBy_120 : decode cX12_gainBy 120 = .ok (.goto 4, 3) := by decide +kernel
theorem dX12_gainBy_123 : decode cX12_gainBy 123 = .ok (.iconst 0, 1) := by decide +kernel
theorem dX12_gainBy_124 : decode cX12_gainBy 124 = .ok (.istore 7, 2) := by decide +kernel
theorem dX12_gainBy_126 : decode cX12_gainBy 126 = .ok (.iload 7, 2) := by decide +kernel
theorem dX12_gainBy_128 : decode cX12_gainBy 128 = .ok (.ifCond .eq 102, 3) := by decide +kernel
theorem dX12_gainBy_131 : decode cX12_gainBy 131 = .ok (.aload_n 0, 1) := by decide +kernel
theorem dX12_gainBy_132 : decode cX12_gainBy 132 = .ok (.iload 6, 2) := by decide +kernel
theorem dX12_gainBy_134 : decode cX12_gainBy 134 = .ok (.iconst 3, 1) := by decide +kernel
theorem dX12_gainBy_135 : decode cX12_gainBy 135 = .ok (.invokevirtual 266, 3) := by decide +kernel
theorem dX12_gainBy_138 : decode cX12_gainBy 138 = .ok (.aload_n 0, 1) := by decide +kernel
theorem dX12_gainBy_139 : decode cX12_gainBy 139 = .ok (.iload 6, 2) := by decide +kernel
theorem dX12_gainBy_141 : decode cX12_gainBy 141 = .ok (.iconst 4, 1) := by decide +kernel
theorem dX12_gainBy_142 : decode cX12_gainBy 142 = .ok (.invokevirtual 266, 3) := by decide +kernel
theorem dX12_gainBy_145 : decode cX12_gainBy 145 = .ok (.iadd, 1) := by decide +kernel
theorem dX12_gainBy_146 : decode cX12_gainBy 146 = .ok (.ifCond .ne 6, 3) := by decide +kernel
theorem dX12_gainBy_149 : decode cX12_gainBy 149 = .ok (.goto 81, 3) := by decide +kernel
theorem dX12_gainBy_152 : decode cX12_gainBy 152 = .ok (.aload_n 0, 1) := by decide +kernel
theorem dX12_gainBy_153 : decode cX12_gainBy 153 = .ok (.getfield 62, 3) := by decide +kernel
theorem dX12_gainBy_156 : decode cX12_gainBy 156 = .ok (.aload_n 0, 1) := by decide +kernel
theorem dX12_gainBy_157 : decode cX12_gainBy 157 = .ok (.getfield 311, 3) := by decide +kernel
theorem dX12_gainBy_160 : decode cX12_gainBy 160 = .ok (.aload_n 0, 1) := by decide +kernel
theorem dX12_gainBy_161 : decode cX12_gainBy 161 = .ok (.iload 6, 2) := by decide +kernel
theorem dX12_gainBy_163 : decode cX12_gainBy 163 = .ok (.iconst 3, 1) := by decide +kernel
theorem dX12_gainBy_164 : decode cX12_gainBy 164 = .ok (.invokevirtual 266, 3) := by decide +kernel
theorem dX12_gainBy_167 : decode cX12_gainBy 167 = .ok (.aload_n 0, 1) := by decide +kernel
theorem dX12_gainBy_168 : decode cX12_gainBy 168 = .ok (.iload 6, 2) := by decide +kernel
theorem dX12_gainBy_170 : decode cX12_gainBy 170 = .ok (.iconst 4, 1) := by decide +kernel
theorem dX12_gainBy_171 : decode cX12_gainBy 171 = .ok (.invokevirtual 266, 3) := by decide +kernel
theorem dX12_gainBy_174 : decode cX12_gainBy 174 = .ok (.iadd, 1) := by decide +kernel
theorem dX12_gainBy_175 : decode cX12_gainBy 175 = .ok (.iastore, 1) := by decide +kernel
theorem dX12_gainBy_176 : decode cX12_gainBy 176 = .ok (.aload_n 0, 1) := by decide +kernel
theorem dX12_gainBy_177 : decode cX12_gainBy 177 = .ok (.getfield 59, 3) := by decide +kernel
theorem dX12_gainBy_180 : decode cX12_gainBy 180 = .ok (.iconst 2, 1) := by decide +kernel
theorem dX12_gainBy_181 : decode cX12_gainBy 181 = .ok (.aload_n 0, 1) := by decide +kernel
theorem dX12_gainBy_182 : decode cX12_gainBy 182 = .ok (.getfield 311, 3) := by decide +kernel
theorem dX12_gainBy_185 : decode cX12_gainBy 185 = .ok (.imul, 1) := by decide +kernel
theorem dX12_gainBy_186 : decode cX12_gainBy 186 = .ok (.aload_n 0, 1) := by decide +kernel
theorem dX12_gainBy_187 : decode cX12_gainBy 187 = .ok (.iload 6, 2) := by decide +kernel
theorem dX12_gainBy_189 : decode cX12_gainBy 189 = .ok (.iload 7, 2) := by decide +kernel
theorem dX12_gainBy_191 : decode cX12_gainBy 191 = .ok (.iconst 1, 1) := by decide +kernel
theorem dX12_gainBy_192 : decode cX12_gainBy 192 = .ok (.isub, 1) := by decide +kernel
theorem dX12_gainBy_193 : decode cX12_gainBy 193 = .ok (.invokevirtual 273, 3) := by decide +kernel
theorem dX12_gainBy_196 : decode cX12_gainBy 196 = .ok (.iastore, 1) := by decide +kernel
theorem dX12_gainBy_197 : decode cX12_gainBy 197 = .ok (.aload_n 0, 1) := by decide +kernel
theorem dX12_gainBy_198 : decode cX12_gainBy 198 = .ok (.getfield 59, 3) := by decide +kernel
theorem dX12_gainBy_201 : decode cX12_gainBy 201 = .ok (.iconst 2, 1) := by decide +kernel
theorem dX12_gainBy_202 : decode cX12_gainBy 202 = .ok (.aload_n 0, 1) := by decide +kernel
theorem dX12_gainBy_203 : decode cX12_gainBy 203 = .ok (.getfield 311, 3) := by decide +kernel
theorem dX12_gainBy_206 : decode cX12_gainBy 206 = .ok (.imul, 1) := by decide +kernel
theorem dX12_gainBy_207 : decode cX12_gainBy 207 = .ok (.iconst 1, 1) := by decide +kernel
theorem dX12_gainBy_208 : decode cX12_gainBy 208 = .ok (.iadd, 1) := by decide +kernel
theorem dX12_gainBy_209 : decode cX12_gainBy 209 = .ok (.aload_n 0, 1) := by decide +kernel
theorem dX12_gainBy_210 : decode cX12_gainBy 210 = .ok (.iload 6, 2) := by decide +kernel
theorem dX12_gainBy_212 : decode cX12_gainBy 212 = .ok (.iload 7, 2) := by decide +kernel
theorem dX12_gainBy_214 : decode cX12_gainBy 214 = .ok (.iconst 1, 1) := by decide +kernel
theorem dX12_gainBy_215 : decode cX12_gainBy 215 = .ok (.isub, 1) := by decide +kernel
theorem dX12_gainBy_216 : decode cX12_gainBy 216 = .ok (.invokevirtual 280, 3) := by decide +kernel
theorem dX12_gainBy_219 : decode cX12_gainBy 219 = .ok (.iastore, 1) := by decide +kernel
theorem dX12_gainBy_220 : decode cX12_gainBy 220 = .ok (.aload_n 0, 1) := by decide +kernel
theorem dX12_gainBy_221 : decode cX12_gainBy 221 = .ok (.dup, 1) := by decide +kernel
theorem dX12_gainBy_222 : decode cX12_gainBy 222 = .ok (.getfield 311, 3) := by decide +kernel
theorem dX12_gainBy_225 : decode cX12_gainBy 225 = .ok (.iconst 1, 1) := by decide +kernel
theorem dX12_gainBy_226 : decode cX12_gainBy 226 = .ok (.iadd, 1) := by decide +kernel
theorem dX12_gainBy_227 : decode cX12_gainBy 227 = .ok (.putfield 311, 3) := by decide +kernel
theorem dX12_gainBy_230 : decode cX12_gainBy 230 = .ok (.iinc 6 1, 3) := by decide +kernel
theorem dX12_gainBy_233 : decode cX12_gainBy 233 = .ok (.goto (-148), 3) := by decide +kernel
theorem dX12_gainBy_236 : decode cX12_gainBy 236 = .ok (.iload 4, 2) := by decide +kernel
theorem dX12_gainBy_238 : decode cX12_gainBy 238 = .ok (.aload_n 0, 1) := by decide +kernel
theorem dX12_gainBy_239 : decode cX12_gainBy 239 = .ok (.invokevirtual 327, 3) := by decide +kernel
theorem dX12_gainBy_242 : decode cX12_gainBy 242 = .ok (.iadd, 1) := by decide +kernel
theorem dX12_gainBy_243 : decode cX12_gainBy 243 = .ok (.istore 4, 2) := by decide +kernel
theorem dX12_gainBy_245 : decode cX12_gainBy 245 = .ok (.iinc 5 1, 3) := by decide +kernel
theorem dX12_gainBy_248 : decode cX12_gainBy 248 = .ok (.goto (-195), 3) := by decide +kernel
theorem dX12_gainBy_251 : decode cX12_gainBy 251 = .ok (.iload 4, 2) := by decide +kernel
theorem dX12_gainBy_253 : decode cX12_gainBy 253 = .ok (.ireturn, 1) := by decide +kernel
theorem dX12_isFirst_0 : decode cX12_isFirst 0 = .ok (.iconst 0, 1) := by decide +kernel
theorem dX12_isFirst_1 : decode cX12_isFirst 1 = .ok (.istore_n 2, 1) := by decide +kernel
theorem dX12_isFirst_2 : decode cX12_isFirst 2 = .ok (.iload_n 2, 1) := by decide +kernel
theorem dX12_isFirst_3 : decode cX12_isFirst 3 = .ok (.iload_n 1, 1) := by decide +kernel
theorem dX12_isFirst_4 : decode cX12_isFirst 4 = .ok (.if_icmp .ge 26, 3) := by decide +kernel
theorem dX12_isFirst_7 : decode cX12_isFirst 7 = .ok (.aload_n 0, 1) := by decide +kernel
theorem dX12_isFirst_8 : decode cX12_isFirst 8 = .ok (.iload_n 2, 1) := by decide +kernel
theorem dX12_isFirst_9 : decode cX12_isFirst 9 = .ok (.iconst 2, 1) := by decide +kernel
theorem dX12_isFirst_10 : decode cX12_isFirst 10 = .ok (.invokevirtual 266, 3) := by decide +kernel
theorem dX12_isFirst_13 : decode cX12_isFirst 13 = .ok (.aload_n 0, 1) := by decide +kernel
theorem dX12_isFirst_14 : decode cX12_isFirst 14 = .ok (.iload_n 1, 1) := by decide +kernel
theorem dX12_isFirst_15 : decode cX12_isFirst 15 = .ok (.iconst 2, 1) := by decide +kernel
theorem dX12_isFirst_16 : decode cX12_isFirst 16 = .ok (.invokevirtual 266, 3) := by decide +kernel
theorem dX12_isFirst_19 : decode cX12_isFirst 19 = .ok (.if_icmp .ne 5, 3) := by decide +kernel
theorem dX12_isFirst_22 : decode cX12_isFirst 22 = .ok (.iconst 0, 1) := by decide +kernel
theorem dX12_isFirst_23 : decode cX12_isFirst 23 = .ok (.ireturn, 1) := by decide +kernel
theorem dX12_isFirst_24 : decode cX12_isFirst 24 = .ok (.iinc 2 1, 3) := by decide +kernel
theorem dX12_isFirst_27 : decode cX12_isFirst 27 = .ok (.goto (-25), 3) := by decide +kernel
theorem dX12_isFirst_30 : decode cX12_isFirst 30 = .ok (.iconst 1, 1) := by decide +kernel
theorem dX12_isFirst_31 : decode cX12_isFirst 31 = .ok (.ireturn, 1) := by decide +kernel
theorem dX12_settle_0 : decode cX12_settle 0 = .ok (.aload_n 0, 1) := by decide +kernel
theorem dX12_settle_1 : decode cX12_settle 1 = .ok (.getfield 151, 3) := by decide +kernel
theorem dX12_settle_4 : decode cX12_settle 4 = .ok (.ifCond .ne 4, 3) := by decide +kernel
theorem dX12_settle_7 : decode cX12_settle 7 = .ok (.return_, 1) := by decide +kernel
theorem dX12_settle_8 : decode cX12_settle 8 = .ok (.aload_n 0, 1) := by decide +kernel
theorem dX12_settle_9 : decode cX12_settle 9 = .ok (.iconst 0, 1) := by decide +kernel
theorem dX12_settle_10 : decode cX12_settle 10 = .ok (.putfield 151, 3) := by decide +kernel
theorem dX12_settle_13 : decode cX12_settle 13 = .ok (.iconst 0, 1) := by decide +kernel
theorem dX12_settle_14 : decode cX12_settle 14 = .ok (.istore_n 1, 1) := by decide +kernel
theorem dX12_settle_15 : decode cX12_settle 15 = .ok (.iload_n 1, 1) := by decide +kernel
theorem dX12_settle_16 : decode cX12_settle 16 = .ok (.iconst 1, 1) := by decide +kernel
theorem dX12_settle_17 : decode cX12_settle 17 = .ok (.aload_n 0, 1) := by decide +kernel
theorem dX12_settle_18 : decode cX12_settle 18 = .ok (.getfield 33, 3) := by decide +kernel
theorem dX12_settle_21 : decode cX12_settle 21 = .ok (.iconst 0, 1) := by decide +kernel
theorem dX12_settle_22 : decode cX12_settle 22 = .ok (.iaload, 1) := by decide +kernel
theorem dX12_settle_23 : decode cX12_settle 23 = .ok (.ishl, 1) := by decide +kernel
theorem dX12_settle_24 : decode cX12_settle 24 = .ok (.if_icmp .ge 22, 3) := by decide +kernel
theorem dX12_settle_27 : decode cX12_settle 27 = .ok (.aload_n 0, 1) := by decide +kernel
theorem dX12_settle_28 : decode cX12_settle 28 = .ok (.getfield 84, 3) := by decide +kernel
theorem dX12_settle_31 : decode cX12_settle 31 = .ok (.iload_n 1, 1) := by decide +kernel
theorem dX12_settle_32 : decode cX12_settle 32 = .ok (.aload_n 0, 1) := by decide +kernel
theorem dX12_settle_33 : decode cX12_settle 33 = .ok (.iload_n 1, 1) := by decide +kernel
theorem dX12_settle_34 : decode cX12_settle 34 = .ok (.iconst (-1), 1) := by decide +kernel
theorem dX12_settle_35 : decode cX12_settle 35 = .ok (.iconst 0, 1) := by decide +kernel
theorem dX12_settle_36 : decode cX12_settle 36 = .ok (.invokevirtual 330, 3) := by decide +kernel
theorem dX12_settle_39 : decode cX12_settle 39 = .ok (.iastore, 1) := by decide +kernel
theorem dX12_settle_40 : decode cX12_settle 40 = .ok (.iinc 1 1, 3) := by decide +kernel
theorem dX12_settle_43 : decode cX12_settle 43 = .ok (.goto (-28), 3) := by decide +kernel
theorem dX12_settle_46 : decode cX12_settle 46 = .ok (.return_, 1) := by decide +kernel
theorem dX12_gain_0 : decode cX12_gain 0 = .ok (.aload_n 0, 1) := by decide +kernel
theorem dX12_gain_1 : decode cX12_gain 1 = .ok (.iconst 0, 1) := by decide +kernel
theorem dX12_gain_2 : decode cX12_gain 2 = .ok (.putfield 1, 3) := by decide +kernel
theorem dX12_gain_5 : decode cX12_gain 5 = .ok (.aload_n 0, 1) := by decide +kernel
theorem dX12_gain_6 : decode cX12_gain 6 = .ok (.iload_n 1, 1) := by decide +kernel
theorem dX12_gain_7 : decode cX12_gain 7 = .ok (.invokevirtual 334, 3) := by decide +kernel
theorem dX12_gain_10 : decode cX12_gain 10 = .ok (.ifCond .eq 13, 3) := by decide +kernel
theorem dX12_gain_13 : decode cX12_gain 13 = .ok (.aload_n 0, 1) := by decide +kernel
theorem dX12_gain_14 : decode cX12_gain 14 = .ok (.iload_n 1, 1) := by decide +kernel
theorem dX12_gain_15 : decode cX12_gain 15 = .ok (.iconst (-1), 1) := by decide +kernel
theorem dX12_gain_16 : decode cX12_gain 16 = .ok (.iconst 0, 1) := by decide +kernel
theorem dX12_gain_17 : decode cX12_gain 17 = .ok (.invokevirtual 330, 3) := by decide +kernel
theorem dX12_gain_20 : decode cX12_gain 20 = .ok (.goto 4, 3) := by decide +kernel
theorem dX12_gain_23 : decode cX12_gain 23 = .ok (.iconst (-1), 1) := by decide +kernel
theorem dX12_gain_24 : decode cX12_gain 24 = .ok (.ireturn, 1) := by decide +kernel
theorem dX12_bestOf_0 : decode cX12_bestOf 0 = .ok (.aload_n 0, 1) := by decide +kernel
theorem dX12_bestOf_1 : decode cX12_bestOf 1 = .ok (.invokevirtual 337, 3) := by decide +kernel
theorem dX12_bestOf_4 : decode cX12_bestOf 4 = .ok (.iconst 0, 1) := by decide +kernel
theorem dX12_bestOf_5 : decode cX12_bestOf 5 = .ok (.istore_n 1, 1) := by decide +kernel
theorem dX12_bestOf_6 : decode cX12_bestOf 6 = .ok (.iconst 1, 1) := by decide +kernel
theorem dX12_bestOf_7 : decode cX12_bestOf 7 = .ok (.istore_n 2, 1) := by decide +kernel
theorem dX12_bestOf_8 : decode cX12_bestOf 8 = .ok (.iload_n 2, 1) := by decide +kernel
theorem dX12_bestOf_9 : decode cX12_bestOf 9 = .ok (.iconst 1, 1) := by decide +kernel
theorem dX12_bestOf_10 : decode cX12_bestOf 10 = .ok (.aload_n 0, 1) := by decide +kernel
theorem dX12_bestOf_11 : decode cX12_bestOf 11 = .ok (.getfield 33, 3) := by decide +kernel
theorem dX12_bestOf_14 : decode cX12_bestOf 14 = .ok (.iconst 0, 1) := by decide +kernel
theorem dX12_bestOf_15 : decode cX12_bestOf 15 = .ok (.iaload, 1) := by decide +kernel
theorem dX12_bestOf_16 : decode cX12_bestOf 16 = .ok (.ishl, 1) := by decide +kernel
theorem dX12_bestOf_17 : decode cX12_bestOf 17 = .ok (.if_icmp .ge 26, 3) := by decide +kernel
theorem dX12_bestOf_20 : decode cX12_bestOf 20 = .ok (.aload_n 0, 1) := by decide +kernel
theorem dX12_bestOf_21 : decode cX12_bestOf 21 = .ok (.getfield 84, 3) := by decide +kernel
theorem dX12_bestOf_24 : decode cX12_bestOf 24 = .ok (.iload_n 2, 1) := by decide +kernel
theorem dX12_bestOf_25 : decode cX12_bestOf 25 = .ok (.iaload, 1) := by decide +kernel
theorem dX12_bestOf_26 : decode cX12_bestOf 26 = .ok (.aload_n 0, 1) := by decide +kernel
theorem dX12_bestOf_27 : decode cX12_bestOf 27 = .ok (.getfield 84, 3) := by decide +kernel
theorem dX12_bestOf_30 : decode cX12_bestOf 30 = .ok (.iload_n 1, 1) := by decide +kernel
theorem dX12_bestOf_31 : decode cX12_bestOf 31 = .ok (.iaload, 1) := by decide +kernel
theorem dX12_bestOf_32 : decode cX12_bestOf 32 = .ok (.if_icmp .le 5, 3) := by decide +kernel
theorem dX12_bestOf_35 : decode cX12_bestOf 35 = .ok (.iload_n 2, 1) := by decide +kernel
theorem dX12_bestOf_36 : decode cX12_bestOf 36 = .ok (.istore_n 1, 1) := by decide +kernel
theorem dX12_bestOf_37 : decode cX12_bestOf 37 = .ok (.iinc 2 1, 3) := by decide +kernel
theorem dX12_bestOf_40 : decode cX12_bestOf 40 = .ok (.goto (-32), 3) := by decide +kernel
theorem dX12_bestOf_43 : decode cX12_bestOf 43 = .ok (.iload_n 1, 1) := by decide +kernel
theorem dX12_bestOf_44 : decode cX12_bestOf 44 = .ok (.ireturn, 1) := by decide +kernel
theorem dX12_best_0 : decode cX12_best 0 = .ok (.aload_n 0, 1) := by decide +kernel
theorem dX12_best_1 : decode cX12_best 1 = .ok (.iconst 0, 1) := by decide +kernel
theorem dX12_best_2 : decode cX12_best 2 = .ok (.putfield 1, 3) := by decide +kernel
theorem dX12_best_5 : decode cX12_best 5 = .ok (.aload_n 0, 1) := by decide +kernel
theorem dX12_best_6 : decode cX12_best 6 = .ok (.getfield 84, 3) := by decide +kernel
theorem dX12_best_9 : decode cX12_best 9 = .ok (.aload_n 0, 1) := by decide +kernel
theorem dX12_best_10 : decode cX12_best 10 = .ok (.invokevirtual 340, 3) := by decide +kernel
theorem dX12_best_13 : decode cX12_best 13 = .ok (.iaload, 1) := by decide +kernel
theorem dX12_best_14 : decode cX12_best 14 = .ok (.ireturn, 1) := by decide +kernel
theorem dX12_bestParts_0 : decode cX12_bestParts 0 = .ok (.aload_n 0, 1) := by decide +kernel
theorem dX12_bestParts_1 : decode cX12_bestParts 1 = .ok (.iconst 0, 1) := by decide +kernel
theorem dX12_bestParts_2 : decode cX12_bestParts 2 = .ok (.putfield 1, 3) := by decide +kernel
theorem dX12_bestParts_5 : decode cX12_bestParts 5 = .ok (.aload_n 0, 1) := by decide +kernel
theorem dX12_bestParts_6 : decode cX12_bestParts 6 = .ok (.invokevirtual 340, 3) := by decide +kernel
theorem dX12_bestParts_9 : decode cX12_bestParts 9 = .ok (.ireturn, 1) := by decide +kernel
theorem dX12_goes_0 : decode cX12_goes 0 = .ok (.aload_n 0, 1) := by decide +kernel
theorem dX12_goes_1 : decode cX12_goes 1 = .ok (.iconst 0, 1) := by decide +kernel
theorem dX12_goes_2 : decode cX12_goes 2 = .ok (.putfield 1, 3) := by decide +kernel
theorem dX12_goes_5 : decode cX12_goes 5 = .ok (.aload_n 0, 1) := by decide +kernel
theorem dX12_goes_6 : decode cX12_goes 6 = .ok (.iload_n 1, 1) := by decide +kernel
theorem dX12_goes_7 : decode cX12_goes 7 = .ok (.invokevirtual 334, 3) := by decide +kernel
theorem dX12_goes_10 : decode cX12_goes 10 = .ok (.ifCond .ne 5, 3) := by decide +kernel
theorem dX12_goes_13 : decode cX12_goes 13 = .ok (.iconst (-1), 1) := by decide +kernel
theorem dX12_goes_14 : decode cX12_goes 14 = .ok (.ireturn, 1) := by decide +kernel
theorem dX12_goes_15 : decode cX12_goes 15 = .ok (.iconst 0, 1) := by decide +kernel
theorem dX12_goes_16 : decode cX12_goes 16 = .ok (.istore_n 2, 1) := by decide +kernel
theorem dX12_goes_17 : decode cX12_goes 17 = .ok (.iconst 0, 1) := by decide +kernel
theorem dX12_goes_18 : decode cX12_goes 18 = .ok (.istore_n 3, 1) := by decide +kernel
theorem dX12_goes_19 : decode cX12_goes 19 = .ok (.iload_n 3, 1) := by decide +kernel
theorem dX12_goes_20 : decode cX12_goes 20 = .ok (.aload_n 0, 1) := by decide +kernel
theorem dX12_goes_21 : decode cX12_goes 21 = .ok (.getfield 33, 3) := by decide +kernel
theorem dX12_goes_24 : decode cX12_goes 24 = .ok (.iconst 1, 1) := by decide +kernel
theorem dX12_goes_25 : decode cX12_goes 25 = .ok (.iaload, 1) := by decide +kernel
theorem dX12_goes_26 : decode cX12_goes 26 = .ok (.if_icmp .ge 28, 3) := by decide +kernel
theorem dX12_goes_29 : decode cX12_goes 29 = .ok (.iload_n 2, 1) := by decide +kernel
theorem dX12_goes_30 : decode cX12_goes 30 = .ok (.aload_n 0, 1) := by decide +kernel
theorem dX12_goes_31 : decode cX12_goes 31 = .ok (.iload_n 3, 1) := by decide +kernel
theorem dX12_goes_32 : decode cX12_goes 32 = .ok (.iload_n 1, 1) := by decide +kernel
theorem dX12_goes_33 : decode cX12_goes 33 = .ok (.invokevirtual 324, 3) := by decide +kernel
theorem dX12_goes_36 : decode cX12_goes 36 = .ok (.ifCond .le 9, 3) := by decide +kernel
theorem dX12_goes_39 : decode cX12_goes 39 = .ok (.iconst 1, 1) := by decide +kernel
theorem dX12_goes_40 : decode cX12_goes 40 = .ok (.iload_n 3, 1) := by decide +kernel
theorem dX12_goes_41 : decode cX12_goes 41 = .ok (.ishl, 1) := by decide +kernel
theorem dX12_goes_42 : decode cX12_goes 42 = .ok (.goto 4, 3) := by decide +kernel
theorem dX12_goes_45 : decode cX12_goes 45 = .ok (.iconst 0, 1) := by decide +kernel
theorem dX12_goes_46 : decode cX12_goes 46 = .ok (.ior, 1) := by decide +kernel
theorem dX12_goes_47 : decode cX12_goes 47 = .ok (.istore_n 2, 1) := by decide +kernel
theorem dX12_goes_48 : decode cX12_goes 48 = .ok (.iinc 3 1, 3) := by decide +kernel
theorem dX12_goes_51 : decode cX12_goes 51 = .ok (.goto (-32), 3) := by decide +kernel
theorem dX12_goes_54 : decode cX12_goes 54 = .ok (.iload_n 2, 1) := by decide +kernel
theorem dX12_goes_55 : decode cX12_goes 55 = .ok (.ireturn, 1) := by decide +kernel
theorem dX12_above_0 : decode cX12_above 0 = .ok (.aload_n 0, 1) := by decide +kernel
theorem dX12_above_1 : decode cX12_above 1 = .ok (.iconst 0, 1) := by decide +kernel
theorem dX12_above_2 : decode cX12_above 2 = .ok (.putfield 1, 3) := by decide +kernel
theorem dX12_above_5 : decode cX12_above 5 = .ok (.aload_n 0, 1) := by decide +kernel
theorem dX12_above_6 : decode cX12_above 6 = .ok (.invokevirtual 337, 3) := by decide +kernel
theorem dX12_above_9 : decode cX12_above 9 = .ok (.iconst 0, 1) := by decide +kernel
theorem dX12_above_10 : decode cX12_above 10 = .ok (.istore_n 2, 1) := by decide +kernel
theorem dX12_above_11 : decode cX12_above 11 = .ok (.iconst 0, 1) := by decide +kernel
theorem dX12_above_12 : decode cX12_above 12 = .ok (.istore_n 3, 1) := by decide +kernel
theorem dX12_above_13 : decode cX12_above 13 = .ok (.iload_n 3, 1) := by decide +kernel
theorem dX12_above_14 : decode cX12_above 14 = .ok (.iconst 1, 1) := by decide +kernel
theorem dX12_above_15 : decode cX12_above 15 = .ok (.aload_n 0, 1) := by decide +kernel
theorem dX12_above_16 : decode cX12_above 16 = .ok (.getfield 33, 3) := by decide +kernel
theorem dX12_above_19 : decode cX12_above 19 = .ok (.iconst 0, 1) := by decide +kernel
theorem dX12_above_20 : decode cX12_above 20 = .ok (.iaload, 1) := by decide +kernel
theorem dX12_above_21 : decode cX12_above 21 = .ok (.ishl, 1) := by decide +kernel
theorem dX12_above_22 : decode cX12_above 22 = .ok (.if_icmp .ge 27, 3) := by decide +kernel
theorem dX12_above_25 : decode cX12_above 25 = .ok (.iload_n 2, 1) := by decide +kernel
theorem dX12_above_26 : decode cX12_above 26 = .ok (.aload_n 0, 1) := by decide +kernel
theorem dX12_above_27 : decode cX12_above 27 = .ok (.getfield 84, 3) := by decide +kernel
theorem dX12_above_30 : decode cX12_above 30 = .ok (.iload_n 3, 1) := by decide +kernel
theorem dX12_above_31 : decode cX12_above 31 = .ok (.iaload, 1) := by decide +kernel
theorem dX12_above_32 : decode cX12_above 32 = .ok (.iload_n 1, 1) := by decide +kernel
theorem dX12_above_33 : decode cX12_above 33 = .ok (.if_icmp .lt 7, 3) := by decide +kernel
theorem dX12_above_36 : decode cX12_above 36 = .ok (.iconst 1, 1) := by decide +kernel
theorem dX12_above_37 : decode cX12_above 37 = .ok (.goto 4, 3) := by decide +kernel
theorem dX12_above_40 : decode cX12_above 40 = .ok (.iconst 0, 1) := by decide +kernel
theorem dX12_above_41 : decode cX12_above 41 = .ok (.iadd, 1) := by decide +kernel
theorem dX12_above_42 : decode cX12_above 42 = .ok (.istore_n 2, 1) := by decide +kernel
theorem dX12_above_43 : decode cX12_above 43 = .ok (.iinc 3 1, 3) := by decide +kernel
theorem dX12_above_46 : decode cX12_above 46 = .ok (.goto (-33), 3) := by decide +kernel
theorem dX12_above_49 : decode cX12_above 49 = .ok (.iload_n 2, 1) := by decide +kernel
theorem dX12_above_50 : decode cX12_above 50 = .ok (.ireturn, 1) := by decide +kernel
theorem dX12_price_0 : decode cX12_price 0 = .ok (.aload_n 0, 1) := by decide +kernel
theorem dX12_price_1 : decode cX12_price 1 = .ok (.iconst 0, 1) := by decide +kernel
theorem dX12_price_2 : decode cX12_price 2 = .ok (.putfield 1, 3) := by decide +kernel
theorem dX12_price_5 : decode cX12_price 5 = .ok (.aload_n 0, 1) := by decide +kernel
theorem dX12_price_6 : decode cX12_price 6 = .ok (.iload_n 1, 1) := by decide +kernel
theorem dX12_price_7 : decode cX12_price 7 = .ok (.invokevirtual 256, 3) := by decide +kernel
theorem dX12_price_10 : decode cX12_price 10 = .ok (.ifCond .eq 39, 3) := by decide +kernel
theorem dX12_price_13 : decode cX12_price 13 = .ok (.aload_n 0, 1) := by decide +kernel
theorem dX12_price_14 : decode cX12_price 14 = .ok (.iload_n 2, 1) := by decide +kernel
theorem dX12_price_15 : decode cX12_price 15 = .ok (.invokevirtual 334, 3) := by decide +kernel
theorem dX12_price_18 : decode cX12_price 18 = .ok (.ifCond .eq 31, 3) := by decide +kernel
theorem dX12_price_21 : decode cX12_price 21 = .ok (.aload_n 0, 1) := by decide +kernel
theorem dX12_price_22 : decode cX12_price 22 = .ok (.iload_n 2, 1) := by decide +kernel
theorem dX12_price_23 : decode cX12_price 23 = .ok (.iload_n 1, 1) := by decide +kernel
theorem dX12_price_24 : decode cX12_price 24 = .ok (.aload_n 0, 1) := by decide +kernel
theorem dX12_price_25 : decode cX12_price 25 = .ok (.getfield 33, 3) := by decide +kernel
theorem dX12_price_28 : decode cX12_price 28 = .ok (.bipush 24, 2) := by decide +kernel
theorem dX12_price_30 : decode cX12_price 30 = .ok (.iload_n 1, 1) := by decide +kernel
theorem dX12_price_31 : decode cX12_price 31 = .ok (.iadd, 1) := by decide +kernel
theorem dX12_price_32 : decode cX12_price 32 = .ok (.iaload, 1) := by decide +kernel
theorem dX12_price_33 : decode cX12_price 33 = .ok (.iconst 1, 1) := by decide +kernel
theorem dX12_price_34 : decode cX12_price 34 = .ok (.iadd, 1) := by decide +kernel
theorem dX12_price_35 : decode cX12_price 35 = .ok (.invokevirtual 330, 3) := by decide +kernel
theorem dX12_price_38 : decode cX12_price 38 = .ok (.aload_n 0, 1) := by decide +kernel
theorem dX12_price_39 : decode cX12_price 39 = .ok (.iload_n 2, 1) := by decide +kernel
theorem dX12_price_40 : decode cX12_price 40 = .ok (.iconst (-1), 1) := by decide +kernel
theorem dX12_price_41 : decode cX12_price 41 = .ok (.iconst 0, 1) := by decide +kernel
theorem dX12_price_42 : decode cX12_price 42 = .ok (.invokevirtual 330, 3) := by decide +kernel
theorem dX12_price_45 : decode cX12_price 45 = .ok (.isub, 1) := by decide +kernel
theorem dX12_price_46 : decode cX12_price 46 = .ok (.goto 4, 3) := by decide +kernel
theorem dX12_price_49 : decode cX12_price 49 = .ok (.iconst (-1), 1) := by decide +kernel
theorem dX12_price_50 : decode cX12_price 50 = .ok (.ireturn, 1) := by decide +kernel
theorem dX12_loss_0 : decode cX12_loss 0 = .ok (.aload_n 0, 1) := by decide +kernel
theorem dX12_loss_1 : decode cX12_loss 1 = .ok (.iconst 0, 1) := by decide +kernel
theorem dX12_loss_2 : decode cX12_loss 2 = .ok (.putfield 1, 3) := by decide +kernel
theorem dX12_loss_5 : decode cX12_loss 5 = .ok (.aload_n 0, 1) := by decide +kernel
theorem dX12_loss_6 : decode cX12_loss 6 = .ok (.iload_n 1, 1) := by decide +kernel
theorem dX12_loss_7 : decode cX12_loss 7 = .ok (.invokevirtual 256, 3) := by decide +kernel
theorem dX12_loss_10 : decode cX12_loss 10 = .ok (.ifCond .eq 29, 3) := by decide +kernel
theorem dX12_loss_13 : decode cX12_loss 13 = .ok (.aload_n 0, 1) := by decide +kernel
theorem dX12_loss_14 : decode cX12_loss 14 = .ok (.iload_n 2, 1) := by decide +kernel
theorem dX12_loss_15 : decode cX12_loss 15 = .ok (.invokevirtual 334, 3) := by decide +kernel
theorem dX12_loss_18 : decode cX12_loss 18 = .ok (.ifCond .eq 21, 3) := by decide +kernel
theorem dX12_loss_21 : decode cX12_loss 21 = .ok (.aload_n 0, 1) := by decide +kernel
theorem dX12_loss_22 : decode cX12_loss 22 = .ok (.iload_n 2, 1) := by decide +kernel
theorem dX12_loss_23 : decode cX12_loss 23 = .ok (.iconst (-1), 1) := by decide +kernel
theorem dX12_loss_24 : decode cX12_loss 24 = .ok (.iconst 0, 1) := by decide +kernel
theorem dX12_loss_25 : decode cX12_loss 25 = .ok (.invokevirtual 330, 3) := by decide +kernel
theorem dX12_loss_28 : decode cX12_loss 28 = .ok (.aload_n 0, 1) := by decide +kernel
theorem dX12_loss_29 : decode cX12_loss 29 = .ok (.iload_n 2, 1) := by decide +kernel
theorem dX12_loss_30 : decode cX12_loss 30 = .ok (.iload_n 1, 1) := by decide +kernel
theorem dX12_loss_31 : decode cX12_loss 31 = .ok (.iconst 0, 1) := by decide +kernel
theorem dX12_loss_32 : decode cX12_loss 32 = .ok (.invokevirtual 330, 3) := by decide +kernel
theorem dX12_loss_35 : decode cX12_loss 35 = .ok (.isub, 1) := by decide +kernel
theorem dX12_loss_36 : decode cX12_loss 36 = .ok (.goto 4, 3) := by decide +kernel
theorem dX12_loss_39 : decode cX12_loss 39 = .ok (.iconst (-1), 1) := by decide +kernel
theorem dX12_loss_40 : decode cX12_loss 40 = .ok (.ireturn, 1) := by decide +kernel
theorem dX12_climb_0 : decode cX12_climb 0 = .ok (.aload_n 0, 1) := by decide +kernel
theorem dX12_climb_1 : decode cX12_climb 1 = .ok (.iconst 0, 1) := by decide +kernel
theorem dX12_climb_2 : decode cX12_climb 2 = .ok (.putfield 1, 3) := by decide +kernel
theorem dX12_climb_5 : decode cX12_climb 5 = .ok (.aload_n 0, 1) := by decide +kernel
theorem dX12_climb_6 : decode cX12_climb 6 = .ok (.iload_n 1, 1) := by decide +kernel
theorem dX12_climb_7 : decode cX12_climb 7 = .ok (.invokevirtual 334, 3) := by decide +kernel
theorem dX12_climb_10 : decode cX12_climb 10 = .ok (.ifCond .ne 5, 3) := by decide +kernel
theorem dX12_climb_13 : decode cX12_climb 13 = .ok (.iconst (-1), 1) := by decide +kernel
theorem dX12_climb_14 : decode cX12_climb 14 = .ok (.ireturn, 1) := by decide +kernel
theorem dX12_climb_15 : decode cX12_climb 15 = .ok (.aload_n 0, 1) := by decide +kernel
theorem dX12_climb_16 : decode cX12_climb 16 = .ok (.invokevirtual 337, 3) := by decide +kernel
theorem dX12_climb_19 : decode cX12_climb 19 = .ok (.iload_n 1, 1) := by decide +kernel
theorem dX12_climb_20 : decode cX12_climb 20 = .ok (.istore_n 2, 1) := by decide +kernel
theorem dX12_climb_21 : decode cX12_climb 21 = .ok (.aload_n 0, 1) := by decide +kernel
theorem dX12_climb_22 : decode cX12_climb 22 = .ok (.iconst 0, 1) := by decide +kernel
theorem dX12_climb_23 : decode cX12_climb 23 = .ok (.putfield 343, 3) := by decide +kernel
theorem dX12_climb_26 : decode cX12_climb 26 = .ok (.iconst 0, 1) := by decide +kernel
theorem dX12_climb_27 : decode cX12_climb 27 = .ok (.istore_n 3, 1) := by decide +kernel
theorem dX12_climb_28 : decode cX12_climb 28 = .ok (.iload_n 3, 1) := by decide +kernel
theorem dX12_climb_29 : decode cX12_climb 29 = .ok (.aload_n 0, 1) := by decide +kernel
theorem dX12_climb_30 : decode cX12_climb 30 = .ok (.getfield 33, 3) := by decide +kernel
theorem dX12_climb_33 : decode cX12_climb 33 = .ok (.iconst 0, 1) := by decide +kernel
theorem dX12_climb_34 : decode cX12_climb 34 = .ok (.iaload, 1) := by decide +kernel
theorem dX12_climb_35 : decode cX12_climb 35 = .ok (.if_icmp .ge 49, 3) := by decide +kernel
theorem dX12_climb_38 : decode cX12_climb 38 = .ok (.aload_n 0, 1) := by decide +kernel
theorem dX12_climb_39 : decode cX12_climb 39 = .ok (.getfield 84, 3) := by decide +kernel
theorem dX12_climb_42 : decode cX12_climb 42 = .ok (.iload_n 2, 1) := by decide +kernel
theorem dX12_climb_43 : decode cX12_climb 43 = .ok (.iconst 1, 1) := by decide +kernel
theorem dX12_climb_44 : decode cX12_climb 44 = .ok (.iload_n 3, 1) := by decide +kernel
theorem dX12_climb_45 : decode cX12_climb 45 = .ok (.ishl, 1) := by decide +kernel
theorem dX12_climb_46 : decode cX12_climb 46 = .ok (.ixor, 1) := by decide +kernel
theorem dX12_climb_47 : decode cX12_climb 47 = .ok (.iaload, 1) := by decide +kernel
theorem dX12_climb_48 : decode cX12_climb 48 = .ok (.aload_n 0, 1) := by decide +kernel
theorem dX12_climb_49 : decode cX12_climb 49 = .ok (.getfield 84, 3) := by decide +kernel
theorem dX12_climb_52 : decode cX12_climb 52 = .ok (.iload_n 2, 1) := by decide +kernel
theorem dX12_climb_53 : decode cX12_climb 53 = .ok (.iaload, 1) := by decide +kernel
theorem dX12_climb_54 : decode cX12_climb 54 = .ok (.if_icmp .le 24, 3) := by decide +kernel
theorem dX12_climb_57 : decode cX12_climb 57 = .ok (.iload_n 2, 1) := by decide +kernel
theorem dX12_climb_58 : decode cX12_climb 58 = .ok (.iconst 1, 1) := by decide +kernel
theorem dX12_climb_59 : decode cX12_climb 59 = .ok (.iload_n 3, 1) := by decide +kernel
theorem dX12_climb_60 : decode cX12_climb 60 = .ok (.ishl, 1) := by decide +kernel
theorem dX12_climb_61 : decode cX12_climb 61 = .ok (.ixor, 1) := by decide +kernel
theorem dX12_climb_62 : decode cX12_climb 62 = .ok (.istore_n 2, 1) := by decide +kernel
theorem dX12_climb_63 : decode cX12_climb 63 = .ok (.aload_n 0, 1) := by decide +kernel
theorem dX12_climb_64 : decode cX12_climb 64 = .ok (.dup, 1) := by decide +kernel
theorem dX12_climb_65 : decode cX12_climb 65 = .ok (.getfield 343, 3) := by decide +kernel
theorem dX12_climb_68 : decode cX12_climb 68 = .ok (.iconst 1, 1) := by decide +kernel
theorem dX12_climb_69 : decode cX12_climb 69 = .ok (.iadd, 1) := by decide +kernel
theorem dX12_climb_70 : decode cX12_climb 70 = .ok (.putfield 343, 3) := by decide +kernel
theorem dX12_climb_73 : decode cX12_climb 73 = .ok (.iconst 0, 1) := by decide +kernel
theorem dX12_climb_74 : decode cX12_climb 74 = .ok (.istore_n 3, 1) := by decide +kernel
theorem dX12_climb_75 : decode cX12_climb 75 = .ok (.goto (-47), 3) := by decide +kernel
theorem dX12_climb_78 : decode cX12_climb 78 = .ok (.iinc 3 1, 3) := by decide +kernel
theorem dX12_climb_81 : decode cX12_climb 81 = .ok (.goto (-53), 3) := by decide +kernel
theorem dX12_climb_84 : decode cX12_climb 84 = .ok (.iload_n 2, 1) := by decide +kernel
theorem dX12_climb_85 : decode cX12_climb 85 = .ok (.ireturn, 1) := by decide +kernel
theorem dX12_climbed_0 : decode cX12_climbed 0 = .ok (.aload_n 0, 1) := by decide +kernel
theorem dX12_climbed_1 : decode cX12_climbed 1 = .ok (.iconst 0, 1) := by decide +kernel
theorem dX12_climbed_2 : decode cX12_climbed 2 = .ok (.putfield 1, 3) := by decide +kernel
theorem dX12_climbed_5 : decode cX12_climbed 5 = .ok (.aload_n 0, 1) := by decide +kernel
theorem dX12_climbed_6 : decode cX12_climbed 6 = .ok (.getfield 343, 3) := by decide +kernel
theorem dX12_climbed_9 : decode cX12_climbed 9 = .ok (.ireturn, 1) := by decide +kernel
theorem dX12_told_0 : decode cX12_told 0 = .ok (.aload_n 0, 1) := by decide +kernel
theorem dX12_told_1 : decode cX12_told 1 = .ok (.iconst 0, 1) := by decide +kernel
theorem dX12_told_2 : decode cX12_told 2 = .ok (.putfield 1, 3) := by decide +kernel
theorem dX12_told_5 : decode cX12_told 5 = .ok (.iconst 0, 1) := by decide +kernel
theorem dX12_told_6 : decode cX12_told 6 = .ok (.istore_n 1, 1) := by decide +kernel
theorem dX12_told_7 : decode cX12_told 7 = .ok (.iconst 0, 1) := by decide +kernel
theorem dX12_told_8 : decode cX12_told 8 = .ok (.istore_n 2, 1) := by decide +kernel
theorem dX12_told_9 : decode cX12_told 9 = .ok (.iload_n 2, 1) := by decide +kernel
theorem dX12_told_10 : decode cX12_told 10 = .ok (.aload_n 0, 1) := by decide +kernel
theorem dX12_told_11 : decode cX12_told 11 = .ok (.getfield 33, 3) := by decide +kernel
theorem dX12_told_14 : decode cX12_told 14 = .ok (.iconst 0, 1) := by decide +kernel
theorem dX12_told_15 : decode cX12_told 15 = .ok (.iaload, 1) := by decide +kernel
theorem dX12_told_16 : decode cX12_told 16 = .ok (.if_icmp .ge 32, 3) := by decide +kernel
theorem dX12_told_19 : decode cX12_told 19 = .ok (.iload_n 1, 1) := by decide +kernel
theorem dX12_told_20 : decode cX12_told 20 = .ok (.aload_n 0, 1) := by decide +kernel
theorem dX12_told_21 : decode cX12_told 21 = .ok (.getfield 33, 3) := by decide +kernel
theorem dX12_told_24 : decode cX12_told 24 = .ok (.bipush 34, 2) := by decide +kernel
theorem dX12_told_26 : decode cX12_told 26 = .ok (.iload_n 2, 1) := by decide +kernel
theorem dX12_told_27 : decode cX12_told 27 = .ok (.iadd, 1) := by decide +kernel
theorem dX12_told_28 : decode cX12_told 28 = .ok (.iaload, 1) := by decide +kernel
theorem dX12_told_29 : decode cX12_told 29 = .ok (.iconst 2, 1) := by decide +kernel
theorem dX12_told_30 : decode cX12_told 30 = .ok (.if_icmp .ne 9, 3) := by decide +kernel
theorem dX12_told_33 : decode cX12_told 33 = .ok (.iconst 1, 1) := by decide +kernel
theorem dX12_told_34 : decode cX12_told 34 = .ok (.iload_n 2, 1) := by decide +kernel
theorem dX12_told_35 : decode cX12_told 35 = .ok (.ishl, 1) := by decide +kernel
theorem dX12_told_36 : decode cX12_told 36 = .ok (.goto 4, 3) := by decide +kernel
theorem dX12_told_39 : decode cX12_told 39 = .ok (.iconst 0, 1) := by decide +kernel
theorem dX12_told_40 : decode cX12_told 40 = .ok (.ior, 1) := by decide +kernel
theorem dX12_told_41 : decode cX12_told 41 = .ok (.istore_n 1, 1) := by decide +kernel
theorem dX12_told_42 : decode cX12_told 42 = .ok (.iinc 2 1, 3) := by decide +kernel
theorem dX12_told_45 : decode cX12_told 45 = .ok (.goto (-36), 3) := by decide +kernel
theorem dX12_told_48 : decode cX12_told 48 = .ok (.iload_n 1, 1) := by decide +kernel
theorem dX12_told_49 : decode cX12_told 49 = .ok (.ireturn, 1) := by decide +kernel
theorem dX12_ownOf_0 : decode cX12_ownOf 0 = .ok (.iconst 0, 1) := by decide +kernel
theorem dX12_ownOf_1 : decode cX12_ownOf 1 = .ok (.istore_n 3, 1) := by decide +kernel
theorem dX12_ownOf_2 : decode cX12_ownOf 2 = .ok (.iconst 0, 1) := by decide +kernel
theorem dX12_ownOf_3 : decode cX12_ownOf 3 = .ok (.istore 4, 2) := by decide +kernel
theorem dX12_ownOf_5 : decode cX12_ownOf 5 = .ok (.iload 4, 2) := by decide +kernel
theorem dX12_ownOf_7 : decode cX12_ownOf 7 = .ok (.aload_n 0, 1) := by decide +kernel
theorem dX12_ownOf_8 : decode cX12_ownOf 8 = .ok (.getfield 33, 3) := by decide +kernel
theorem dX12_ownOf_11 : decode cX12_ownOf 11 = .ok (.iconst 1, 1) := by decide +kernel
theorem dX12_ownOf_12 : decode cX12_ownOf 12 = .ok (.iaload, 1) := by decide +kernel
theorem dX12_ownOf_13 : decode cX12_ownOf 13 = .ok (.if_icmp .ge 33, 3) := by decide +kernel
theorem dX12_ownOf_16 : decode cX12_ownOf 16 = .ok (.iload_n 3, 1) := by decide +kernel
theorem dX12_ownOf_17 : decode cX12_ownOf 17 = .ok (.aload_n 0, 1) := by decide +kernel
theorem dX12_ownOf_18 : decode cX12_ownOf 18 = .ok (.iload 4, 2) := by decide +kernel
theorem dX12_ownOf_20 : decode cX12_ownOf 20 = .ok (.iload_n 2, 1) := by decide +kernel
theorem dX12_ownOf_21 : decode cX12_ownOf 21 = .ok (.invokevirtual 324, 3) := by decide +kernel
theorem dX12_ownOf_24 : decode cX12_ownOf 24 = .ok (.ifCond .le 13, 3) := by decide +kernel
theorem dX12_ownOf_27 : decode cX12_ownOf 27 = .ok (.aload_n 0, 1) := by decide +kernel
theorem dX12_ownOf_28 : decode cX12_ownOf 28 = .ok (.iload 4, 2) := by decide +kernel
theorem dX12_ownOf_30 : decode cX12_ownOf 30 = .ok (.iload_n 1, 1) := by decide +kernel
theorem dX12_ownOf_31 : decode cX12_ownOf 31 = .ok (.invokevirtual 308, 3) := by decide +kernel
theorem dX12_ownOf_34 : decode cX12_ownOf 34 = .ok (.goto 4, 3) := by decide +kernel
theorem dX12_ownOf_37 : decode cX12_ownOf 37 = .ok (.iconst 0, 1) := by decide +kernel
theorem dX12_ownOf_38 : decode cX12_ownOf 38 = .ok (.iadd, 1) := by decide +kernel
theorem dX12_ownOf_39 : decode cX12_ownOf 39 = .ok (.istore_n 3, 1) := by decide +kernel
theorem dX12_ownOf_40 : decode cX12_ownOf 40 = .ok (.iinc 4 1, 3) := by decide +kernel
theorem dX12_ownOf_43 : decode cX12_ownOf 43 = .ok (.goto (-38), 3) := by decide +kernel
theorem dX12_ownOf_46 : decode cX12_ownOf 46 = .ok (.iload_n 3, 1) := by decide +kernel
theorem dX12_ownOf_47 : decode cX12_ownOf 47 = .ok (.ireturn, 1) := by decide +kernel
theorem dX12_own_0 : decode cX12_own 0 = .ok (.aload_n 0, 1) := by decide +kernel
theorem dX12_own_1 : decode cX12_own 1 = .ok (.iconst 0, 1) := by decide +kernel
theorem dX12_own_2 : decode cX12_own 2 = .ok (.putfield 1, 3) := by decide +kernel
theorem dX12_own_5 : decode cX12_own 5 = .ok (.aload_n 0, 1) := by decide +kernel
theorem dX12_own_6 : decode cX12_own 6 = .ok (.iload_n 1, 1) := by decide +kernel
theorem dX12_own_7 : decode cX12_own 7 = .ok (.invokevirtual 256, 3) := by decide +kernel
theorem dX12_own_10 : decode cX12_own 10 = .ok (.ifCond .eq 20, 3) := by decide +kernel
theorem dX12_own_13 : decode cX12_own 13 = .ok (.aload_n 0, 1) := by decide +kernel
theorem dX12_own_14 : decode cX12_own 14 = .ok (.iload_n 2, 1) := by decide +kernel
theorem dX12_own_15 : decode cX12_own 15 = .ok (.invokevirtual 334, 3) := by decide +kernel
theorem dX12_own_18 : decode cX12_own 18 = .ok (.ifCond .eq 12, 3) := by decide +kernel
theorem dX12_own_21 : decode cX12_own 21 = .ok (.aload_n 0, 1) := by decide +kernel
theorem dX12_own_22 : decode cX12_own 22 = .ok (.iload_n 1, 1) := by decide +kernel
theorem dX12_own_23 : decode cX12_own 23 = .ok (.iload_n 2, 1) := by decide +kernel
theorem dX12_own_24 : decode cX12_own 24 = .ok (.invokevirtual 346, 3) := by decide +kernel
theorem dX12_own_27 : decode cX12_own 27 = .ok (.goto 4, 3) := by decide +kernel
theorem dX12_own_30 : decode cX12_own 30 = .ok (.iconst (-1), 1) := by decide +kernel
theorem dX12_own_31 : decode cX12_own 31 = .ok (.ireturn, 1) := by decide +kernel
theorem dX12_isRest_0 : decode cX12_isRest 0 = .ok (.iconst 0, 1) := by decide +kernel
theorem dX12_isRest_1 : decode cX12_isRest 1 = .ok (.istore_n 2, 1) := by decide +kernel
theorem dX12_isRest_2 : decode cX12_isRest 2 = .ok (.iload_n 2, 1) := by decide +kernel
theorem dX12_isRest_3 : decode cX12_isRest 3 = .ok (.aload_n 0, 1) := by decide +kernel
theorem dX12_isRest_4 : decode cX12_isRest 4 = .ok (.getfield 33, 3) := by decide +kernel
theorem dX12_isRest_7 : decode cX12_isRest 7 = .ok (.iconst 0, 1) := by decide +kernel
theorem dX12_isRest_8 : decode cX12_isRest 8 = .ok (.iaload, 1) := by decide +kernel
theorem dX12_isRest_9 : decode cX12_isRest 9 = .ok (.if_icmp .ge 30, 3) := by decide +kernel
theorem dX12_isRest_12 : decode cX12_isRest 12 = .ok (.aload_n 0, 1) := by decide +kernel
theorem dX12_isRest_13 : decode cX12_isRest 13 = .ok (.iload_n 2, 1) := by decide +kernel
theorem dX12_isRest_14 : decode cX12_isRest 14 = .ok (.iload_n 1, 1) := by decide +kernel
theorem dX12_isRest_15 : decode cX12_isRest 15 = .ok (.iconst 1, 1) := by decide +kernel
theorem dX12_isRest_16 : decode cX12_isRest 16 = .ok (.iload_n 2, 1) := by decide +kernel
theorem dX12_isRest_17 : decode cX12_isRest 17 = .ok (.ishl, 1) := by decide +kernel
theorem dX12_isRest_18 : decode cX12_isRest 18 = .ok (.ixor, 1) := by decide +kernel
theorem dX12_isRest_19 : decode cX12_isRest 19 = .ok (.invokevirtual 346, 3) := by decide +kernel
theorem dX12_isRest_22 : decode cX12_isRest 22 = .ok (.aload_n 0, 1) := by decide +kernel
theorem dX12_isRest_23 : decode cX12_isRest 23 = .ok (.iload_n 2, 1) := by decide +kernel
theorem dX12_isRest_24 : decode cX12_isRest 24 = .ok (.iload_n 1, 1) := by decide +kernel
theorem dX12_isRest_25 : decode cX12_isRest 25 = .ok (.invokevirtual 346, 3) := by decide +kernel
theorem dX12_isRest_28 : decode cX12_isRest 28 = .ok (.if_icmp .le 5, 3) := by decide +kernel
theorem dX12_isRest_31 : decode cX12_isRest 31 = .ok (.iconst 0, 1) := by decide +kernel
theorem dX12_isRest_32 : decode cX12_isRest 32 = .ok (.ireturn, 1) := by decide +kernel
theorem dX12_isRest_33 : decode cX12_isRest 33 = .ok (.iinc 2 1, 3) := by decide +kernel
theorem dX12_isRest_36 : decode cX12_isRest 36 = .ok (.goto (-34), 3) := by decide +kernel
theorem dX12_isRest_39 : decode cX12_isRest 39 = .ok (.iconst 1, 1) := by decide +kernel
theorem dX12_isRest_40 : decode cX12_isRest 40 = .ok (.ireturn, 1) := by decide +kernel
theorem dX12_rests_0 : decode cX12_rests 0 = .ok (.aload_n 0, 1) := by decide +kernel
theorem dX12_rests_1 : decode cX12_rests 1 = .ok (.iconst 0, 1) := by decide +kernel
theorem dX12_rests_2 : decode cX12_rests 2 = .ok (.putfield 1, 3) := by decide +kernel
theorem dX12_rests_5 : decode cX12_rests 5 = .ok (.iload_n 1, 1) := by decide +kernel
theorem dX12_rests_6 : decode cX12_rests 6 = .ok (.iconst (-1), 1) := by decide +kernel
theorem dX12_rests_7 : decode cX12_rests 7 = .ok (.if_icmp .ge 5, 3) := by decide +kernel
theorem dX12_rests_10 : decode cX12_rests 10 = .ok (.iconst (-1), 1) := by decide +kernel
theorem dX12_rests_11 : decode cX12_rests 11 = .ok (.ireturn, 1) := by decide +kernel
theorem dX12_rests_12 : decode cX12_rests 12 = .ok (.iconst 0, 1) := by decide +kernel
theorem dX12_rests_13 : decode cX12_rests 13 = .ok (.istore_n 2, 1) := by decide +kernel
theorem dX12_rests_14 : decode cX12_rests 14 = .ok (.iconst 0, 1) := by decide +kernel
theorem dX12_rests_15 : decode cX12_rests 15 = .ok (.istore_n 3, 1) := by decide +kernel
theorem dX12_rests_16 : decode cX12_rests 16 = .ok (.iload_n 3, 1) := by decide +kernel
theorem dX12_rests_17 : decode cX12_rests 17 = .ok (.iconst 1, 1) := by decide +kernel
theorem dX12_rests_18 : decode cX12_rests 18 = .ok (.aload_n 0, 1) := by decide +kernel
theorem dX12_rests_19 : decode cX12_rests 19 = .ok (.getfield 33, 3) := by decide +kernel
theorem dX12_rests_22 : decode cX12_rests 22 = .ok (.iconst 0, 1) := by decide +kernel
theorem dX12_rests_23 : decode cX12_rests 23 = .ok (.iaload, 1) := by decide +kernel
theorem dX12_rests_24 : decode cX12_rests 24 = .ok (.ishl, 1) := by decide +kernel
theorem dX12_rests_25 : decode cX12_rests 25 = .ok (.if_icmp .ge 30, 3) := by decide +kernel
theorem dX12_rests_28 : decode cX12_rests 28 = .ok (.aload_n 0, 1) := by decide +kernel
theorem dX12_rests_29 : decode cX12_rests 29 = .ok (.iload_n 3, 1) := by decide +kernel
theorem dX12_rests_30 : decode cX12_rests 30 = .ok (.invokevirtual 349, 3) := by decide +kernel
theorem dX12_rests_33 : decode cX12_rests 33 = .ok (.ifCond .ne 6, 3) := by decide +kernel
theorem dX12_rests_36 : decode cX12_rests 36 = .ok (.goto 13, 3) := by decide +kernel
theorem dX12_rests_39 : decode cX12_rests 39 = .ok (.iload_n 2, 1) := by decide +kernel
theorem dX12_rests_40 : decode cX12_rests 40 = .ok (.iload_n 1, 1) := by decide +kernel
theorem dX12_rests_41 : decode cX12_rests 41 = .ok (.if_icmp .ne 5, 3) := by decide +kernel
theorem dX12_rests_44 : decode cX12_rests 44 = .ok (.iload_n 3, 1) := by decide +kernel
theorem dX12_rests_45 : decode cX12_rests 45 = .ok (.ireturn, 1) := by decide +kernel
theorem dX12_rests_46 : decode cX12_rests 46 = .ok (.iinc 2 1, 3) := by decide +kernel
theorem dX12_rests_49 : decode cX12_rests 49 = .ok (.iinc 3 1, 3) := by decide +kernel
theorem dX12_rests_52 : decode cX12_rests 52 = .ok (.goto (-36), 3) := by decide +kernel
theorem dX12_rests_55 : decode cX12_rests 55 = .ok (.iload_n 1, 1) := by decide +kernel
theorem dX12_rests_56 : decode cX12_rests 56 = .ok (.iconst (-1), 1) := by decide +kernel
theorem dX12_rests_57 : decode cX12_rests 57 = .ok (.if_icmp .ne 7, 3) := by decide +kernel
theorem dX12_rests_60 : decode cX12_rests 60 = .ok (.iload_n 2, 1) := by decide +kernel
theorem dX12_rests_61 : decode cX12_rests 61 = .ok (.goto 4, 3) := by decide +kernel
theorem dX12_rests_64 : decode cX12_rests 64 = .ok (.iconst (-1), 1) := by decide +kernel
theorem dX12_rests_65 : decode cX12_rests 65 = .ok (.ireturn, 1) := by decide +kernel
theorem dX12_rounds_0 : decode cX12_rounds 0 = .ok (.aload_n 0, 1) := by decide +kernel
theorem dX12_rounds_1 : decode cX12_rounds 1 = .ok (.iconst 0, 1) := by decide +kernel
theorem dX12_rounds_2 : decode cX12_rounds 2 = .ok (.putfield 1, 3) := by decide +kernel
theorem dX12_rounds_5 : decode cX12_rounds 5 = .ok (.aload_n 0, 1) := by decide +kernel
theorem dX12_rounds_6 : decode cX12_rounds 6 = .ok (.iload_n 1, 1) := by decide +kernel
theorem dX12_rounds_7 : decode cX12_rounds 7 = .ok (.invokevirtual 334, 3) := by decide +kernel
theorem dX12_rounds_10 : decode cX12_rounds 10 = .ok (.ifCond .ne 5, 3) := by decide +kernel
theorem dX12_rounds_13 : decode cX12_rounds 13 = .ok (.iconst (-1), 1) := by decide +kernel
theorem dX12_rounds_14 : decode cX12_rounds 14 = .ok (.ireturn, 1) := by decide +kernel
theorem dX12_rounds_15 : decode cX12_rounds 15 = .ok (.iconst 0, 1) := by decide +kernel
theorem dX12_rounds_16 : decode cX12_rounds 16 = .ok (.istore_n 2, 1) := by decide +kernel
theorem dX12_rounds_17 : decode cX12_rounds 17 = .ok (.iload_n 2, 1) := by decide +kernel
theorem dX12_rounds_18 : decode cX12_rounds 18 = .ok (.sipush 1024, 3) := by decide +kernel
theorem dX12_rounds_21 : decode cX12_rounds 21 = .ok (.if_icmp .ge 16, 3) := by decide +kernel
theorem dX12_rounds_24 : decode cX12_rounds 24 = .ok (.aload_n 0, 1) := by decide +kernel
theorem dX12_rounds_25 : decode cX12_rounds 25 = .ok (.getfield 87, 3) := by decide +kernel
theorem dX12_rounds_28 : decode cX12_rounds 28 = .ok (.iload_n 2, 1) := by decide +kernel
theorem dX12_rounds_29 : decode cX12_rounds 29 = .ok (.iconst (-1), 1) := by decide +kernel
theorem dX12_rounds_30 : decode cX12_rounds 30 = .ok (.iastore, 1) := by decide +kernel
theorem dX12_rounds_31 : decode cX12_rounds 31 = .ok (.iinc 2 1, 3) := by decide +kernel
theorem dX12_rounds_34 : decode cX12_rounds 34 = .ok (.goto (-17), 3) := by decide +kernel
theorem dX12_rounds_37 : decode cX12_rounds 37 = .ok (.iload_n 1, 1) := by decide +kernel
theorem dX12_rounds_38 : decode cX12_rounds 38 = .ok (.istore_n 2, 1) := by decide +kernel
theorem dX12_rounds_39 : decode cX12_rounds 39 = .ok (.iconst 0, 1) := by decide +kernel
theorem dX12_rounds_40 : decode cX12_rounds 40 = .ok (.istore_n 3, 1) := by decide +kernel
theorem dX12_rounds_41 : decode cX12_rounds 41 = .ok (.aload_n 0, 1) := by decide +kernel
theorem dX12_rounds_42 : decode cX12_rounds 42 = .ok (.getfield 87, 3) := by decide +kernel
theorem dX12_rounds_45 : decode cX12_rounds 45 = .ok (.iload_n 2, 1) := by decide +kernel
theorem dX12_rounds_46 : decode cX12_rounds 46 = .ok (.iconst 0, 1) := by decide +kernel
theorem dX12_rounds_47 : decode cX12_rounds 47 = .ok (.iastore, 1) := by decide +kernel
theorem dX12_rounds_48 : decode cX12_rounds 48 = .ok (.aload_n 0, 1) := by decide +kernel
theorem dX12_rounds_49 : decode cX12_rounds 49 = .ok (.iconst 1, 1) := by decide +kernel
theorem dX12_rounds_50 : decode cX12_rounds 50 = .ok (.putfield 352, 3) := by decide +kernel
theorem dX12_rounds_53 : decode cX12_rounds 53 = .ok (.iload_n 2, 1) := by decide +kernel
theorem dX12_rounds_54 : decode cX12_rounds 54 = .ok (.istore 4, 2) := by decide +kernel
theorem dX12_rounds_56 : decode cX12_rounds 56 = .ok (.iconst 0, 1) := by decide +kernel
theorem dX12_rounds_57 : decode cX12_rounds 57 = .ok (.istore 5, 2) := by decide +kernel
theorem dX12_rounds_59 : decode cX12_rounds 59 = .ok (.iconst 0, 1) := by decide +kernel
theorem dX12_rounds_60 : decode cX12_rounds 60 = .ok (.istore 6, 2) := by decide +kernel
theorem dX12_rounds_62 : decode cX12_rounds 62 = .ok (.iload 6, 2) := by decide +kernel
theorem dX12_rounds_64 : decode cX12_rounds 64 = .ok (.aload_n 0, 1) := by decide +kernel
theorem dX12_rounds_65 : decode cX12_rounds 65 = .ok (.getfield 33, 3) := by decide +kernel
theorem dX12_rounds_68 : decode cX12_rounds 68 = .ok (.iconst 0, 1) := by decide +kernel
theorem dX12_rounds_69 : decode cX12_rounds 69 = .ok (.iaload, 1) := by decide +kernel
theorem dX12_rounds_70 : decode cX12_rounds 70 = .ok (.if_icmp .ge 44, 3) := by decide +kernel
theorem dX12_rounds_73 : decode cX12_rounds 73 = .ok (.aload_n 0, 1) := by decide +kernel
theorem dX12_rounds_74 : decode cX12_rounds 74 = .ok (.iload 6, 2) := by decide +kernel
theorem dX12_rounds_76 : decode cX12_rounds 76 = .ok (.iload_n 2, 1) := by decide +kernel
theorem dX12_rounds_77 : decode cX12_rounds 77 = .ok (.iconst 1, 1) := by decide +kernel
theorem dX12_rounds_78 : decode cX12_rounds 78 = .ok (.iload 6, 2) := by decide +kernel
theorem dX12_rounds_80 : decode cX12_rounds 80 = .ok (.ishl, 1) := by decide +kernel
theorem dX12_rounds_81 : decode cX12_rounds 81 = .ok (.ixor, 1) := by decide +kernel
theorem dX12_rounds_82 : decode cX12_rounds 82 = .ok (.invokevirtual 346, 3) := by decide +kernel
theorem dX12_rounds_85 : decode cX12_rounds 85 = .ok (.aload_n 0, 1) := by decide +kernel
theorem dX12_rounds_86 : decode cX12_rounds 86 = .ok (.iload 6, 2) := by decide +kernel
theorem dX12_rounds_88 : decode cX12_rounds 88 = .ok (.iload_n 2, 1) := by decide +kernel
theorem dX12_rounds_89 : decode cX12_rounds 89 = .ok (.invokevirtual 346, 3) := by decide +kernel
theorem dX12_rounds_92 : decode cX12_rounds 92 = .ok (.if_icmp .gt 6, 3) := by decide +kernel
theorem dX12_rounds_95 : decode cX12_rounds 95 = .ok (.goto 13, 3) := by decide +kernel
theorem dX12_rounds_98 : decode cX12_rounds 98 = .ok (.iload_n 2, 1) := by decide +kernel
theorem dX12_rounds_99 : decode cX12_rounds 99 = .ok (.iconst 1, 1) := by decide +kernel
theorem dX12_rounds_100 : decode cX12_rounds 100 = .ok (.iload 6, 2) := by decide +kernel
theorem dX12_rounds_102 : decode cX12_rounds 102 = .ok (.ishl, 1) := by decide +kernel
theorem dX12_rounds_103 : decode cX12_rounds 103 = .ok (.ixor, 1) := by decide +kernel
theorem dX12_rounds_104 : decode cX12_rounds 104 = .ok (.istore_n 2, 1) := by decide +kernel
theorem dX12_rounds_105 : decode cX12_rounds 105 = .ok (.iconst 1, 1) := by decide +kernel
theorem dX12_rounds_106 : decode cX12_rounds 106 = .ok (.istore 5, 2) := by decide +kernel
theorem dX12_rounds_108 : decode cX12_rounds 108 = .ok (.iinc 6 1, 3) := by decide +kernel
theorem dX12_rounds_111 : decode cX12_rounds 111 = .ok (.goto (-49), 3) := by decide +kernel
theorem dX12_rounds_114 : decode cX12_rounds 114 = .ok (.iinc 3 1, 3) := by decide +kernel
theorem dX12_rounds_117 : decode cX12_rounds 117 = .ok (.aload_n 0, 1) := by decide +kernel
theorem dX12_rounds_118 : decode cX12_rounds 118 = .ok (.getfield 90, 3) := by decide +kernel
theorem dX12_rounds_121 : decode cX12_rounds 121 = .ok (.iconst 0, 1) := by decide +kernel
theorem dX12_rounds_122 : decode cX12_rounds 122 = .ok (.iload_n 2, 1) := by decide +kernel
theorem dX12_rounds_123 : decode cX12_rounds 123 = .ok (.iastore, 1) := by decide +kernel
theorem dX12_rounds_124 : decode cX12_rounds 124 = .ok (.aload_n 0, 1) := by decide +kernel
theorem dX12_rounds_125 : decode cX12_rounds 125 = .ok (.getfield 90, 3) := by decide +kernel
theorem dX12_rounds_128 : decode cX12_rounds 128 = .ok (.iconst 1, 1) := by decide +kernel
theorem dX12_rounds_129 : decode cX12_rounds 129 = .ok (.iconst 0, 1) := by decide +kernel
theorem dX12_rounds_130 : decode cX12_rounds 130 = .ok (.iastore, 1) := by decide +kernel
theorem dX12_rounds_131 : decode cX12_rounds 131 = .ok (.iload 5, 2) := by decide +kernel
theorem dX12_rounds_133 : decode cX12_rounds 133 = .ok (.ifCond .ne 11, 3) := by decide +kernel
theorem dX12_rounds_136 : decode cX12_rounds 136 = .ok (.iload_n 2, 1) := by decide +kernel
theorem dX12_rounds_137 : decode cX12_rounds 137 = .ok (.iload 4, 2) := by decide +kernel
theorem dX12_rounds_139 : decode cX12_rounds 139 = .ok (.if_icmp .ne 5, 3) := by decide +kernel
theorem dX12_rounds_142 : decode cX12_rounds 142 = .ok (.iload_n 3, 1) := by decide +kernel
theorem dX12_rounds_143 : decode cX12_rounds 143 = .ok (.ireturn, 1) := by decide +kernel
theorem dX12_rounds_144 : decode cX12_rounds 144 = .ok (.aload_n 0, 1) := by decide +kernel
theorem dX12_rounds_145 : decode cX12_rounds 145 = .ok (.getfield 87, 3) := by decide +kernel
theorem dX12_rounds_148 : decode cX12_rounds 148 = .ok (.iload_n 2, 1) := by decide +kernel
theorem dX12_rounds_149 : decode cX12_rounds 149 = .ok (.iaload, 1) := by decide +kernel
theorem dX12_rounds_150 : decode cX12_rounds 150 = .ok (.ifCond .lt 19, 3) := by decide +kernel
theorem dX12_rounds_153 : decode cX12_rounds 153 = .ok (.aload_n 0, 1) := by decide +kernel
theorem dX12_rounds_154 : decode cX12_rounds 154 = .ok (.getfield 90, 3) := by decide +kernel
theorem dX12_rounds_157 : decode cX12_rounds 157 = .ok (.iconst 1, 1) := by decide +kernel
theorem dX12_rounds_158 : decode cX12_rounds 158 = .ok (.iload_n 3, 1) := by decide +kernel
theorem dX12_rounds_159 : decode cX12_rounds 159 = .ok (.aload_n 0, 1) := by decide +kernel
theorem dX12_rounds_160 : decode cX12_rounds 160 = .ok (.getfield 87, 3) := by decide +kernel
theorem dX12_rounds_163 : decode cX12_rounds 163 = .ok (.iload_n 2, 1) := by decide +kernel
theorem dX12_rounds_164 : decode cX12_rounds 164 = .ok (.iaload, 1) := by decide +kernel
theorem dX12_rounds_165 : decode cX12_rounds 165 = .ok (.isub, 1) := by decide +kernel
theorem dX12_rounds_166 : decode cX12_rounds 166 = .ok (.iastore, 1) := by decide +kernel
theorem dX12_rounds_167 : decode cX12_rounds 167 = .ok (.iload_n 3, 1) := by decide +kernel
theorem dX12_rounds_168 : decode cX12_rounds 168 = .ok (.ireturn, 1) := by decide +kernel
theorem dX12_rounds_169 : decode cX12_rounds 169 = .ok (.aload_n 0, 1) := by decide +kernel
theorem dX12_rounds_170 : decode cX12_rounds 170 = .ok (.getfield 87, 3) := by decide +kernel
theorem dX12_rounds_173 : decode cX12_rounds 173 = .ok (.iload_n 2, 1) := by decide +kernel
theorem dX12_rounds_174 : decode cX12_rounds 174 = .ok (.iload_n 3, 1) := by decide +kernel
theorem dX12_rounds_175 : decode cX12_rounds 175 = .ok (.iastore, 1) := by decide +kernel
theorem dX12_rounds_176 : decode cX12_rounds 176 = .ok (.goto (-123), 3) := by decide +kernel
theorem dX12_ended_0 : decode cX12_ended 0 = .ok (.aload_n 0, 1) := by decide +kernel
theorem dX12_ended_1 : decode cX12_ended 1 = .ok (.iconst 0, 1) := by decide +kernel
theorem dX12_ended_2 : decode cX12_ended 2 = .ok (.putfield 1, 3) := by decide +kernel
theorem dX12_ended_5 : decode cX12_ended 5 = .ok (.aload_n 0, 1) := by decide +kernel
theorem dX12_ended_6 : decode cX12_ended 6 = .ok (.getfield 352, 3) := by decide +kernel
theorem dX12_ended_9 : decode cX12_ended 9 = .ok (.ifCond .eq 21, 3) := by decide +kernel
theorem dX12_ended_12 : decode cX12_ended 12 = .ok (.iload_n 1, 1) := by decide +kernel
theorem dX12_ended_13 : decode cX12_ended 13 = .ok (.iconst 0, 1) := by decide +kernel
theorem dX12_ended_14 : decode cX12_ended 14 = .ok (.iconst 1, 1) := by decide +kernel
theorem dX12_ended_15 : decode cX12_ended 15 = .ok (.invokestatic 197, 3) := by decide +kernel
theorem dX12_ended_18 : decode cX12_ended 18 = .ok (.ifCond .eq 12, 3) := by decide +kernel
theorem dX12_ended_21 : decode cX12_ended 21 = .ok (.aload_n 0, 1) := by decide +kernel
theorem dX12_ended_22 : decode cX12_ended 22 = .ok (.getfield 90, 3) := by decide +kernel
theorem dX12_ended_25 : decode cX12_ended 25 = .ok (.iload_n 1, 1) := by decide +kernel
theorem dX12_ended_26 : decode cX12_ended 26 = .ok (.iaload, 1) := by decide +kernel
theorem dX12_ended_27 : decode cX12_ended 27 = .ok (.goto 4, 3) := by decide +kernel
theorem dX12_ended_30 : decode cX12_ended 30 = .ok (.iconst (-1), 1) := by decide +kernel
theorem dX12_ended_31 : decode cX12_ended 31 = .ok (.ireturn, 1) := by decide +kernel
theorem dX12_bindAt_0 : decode cX12_bindAt 0 = .ok (.bipush 121, 2) := by decide +kernel
theorem dX12_bindAt_2 : decode cX12_bindAt 2 = .ok (.iload_n 1, 1) := by decide +kernel
theorem dX12_bindAt_3 : decode cX12_bindAt 3 = .ok (.imul, 1) := by decide +kernel
theorem dX12_bindAt_4 : decode cX12_bindAt 4 = .ok (.iload_n 3, 1) := by decide +kernel
theorem dX12_bindAt_5 : decode cX12_bindAt 5 = .ok (.ifCond .ne 7, 3) := by decide +kernel
theorem dX12_bindAt_8 : decode cX12_bindAt 8 = .ok (.iconst 0, 1) := by decide +kernel
theorem dX12_bindAt_9 : decode cX12_bindAt 9 = .ok (.goto 10, 3) := by decide +kernel
theorem dX12_bindAt_12 : decode cX12_bindAt 12 = .ok (.iconst 2, 1) := by decide +kernel
theorem dX12_bindAt_13 : decode cX12_bindAt 13 = .ok (.iload_n 3, 1) := by decide +kernel
theorem dX12_bindAt_14 : decode cX12_bindAt 14 = .ok (.imul, 1) := by decide +kernel
theorem dX12_bindAt_15 : decode cX12_bindAt 15 = .ok (.iconst 2, 1) := by decide +kernel
theorem dX12_bindAt_16 : decode cX12_bindAt 16 = .ok (.isub, 1) := by decide +kernel
theorem dX12_bindAt_17 : decode cX12_bindAt 17 = .ok (.iload_n 2, 1) := by decide +kernel
theorem dX12_bindAt_18 : decode cX12_bindAt 18 = .ok (.iadd, 1) := by decide +kernel
theorem dX12_bindAt_19 : decode cX12_bindAt 19 = .ok (.iadd, 1) := by decide +kernel
theorem dX12_bindAt_20 : decode cX12_bindAt 20 = .ok (.ireturn, 1) := by decide +kernel
theorem dX12_yearGains_0 : decode cX12_yearGains 0 = .ok (.iconst 0, 1) := by decide +kernel
theorem dX12_yearGains_1 : decode cX12_yearGains 1 = .ok (.istore_n 3, 1) := by decide +kernel
theorem dX12_yearGains_2 : decode cX12_yearGains 2 = .ok (.iload_n 3, 1) := by decide +kernel
theorem dX12_yearGains_3 : decode cX12_yearGains 3 = .ok (.bipush 120, 2) := by decide +kernel
theorem dX12_yearGains_5 : decode cX12_yearGains 5 = .ok (.if_icmp .ge 16, 3) := by decide +kernel
theorem dX12_yearGains_8 : decode cX12_yearGains 8 = .ok (.aload_n 0, 1) := by decide +kernel
theorem dX12_yearGains_9 : decode cX12_yearGains 9 = .ok (.getfield 93, 3) := by decide +kernel
theorem dX12_yearGains_12 : decode cX12_yearGains 12 = .ok (.iload_n 3, 1) := by decide +kernel
theorem dX12_yearGains_13 : decode cX12_yearGains 13 = .ok (.iconst 0, 1) := by decide +kernel
theorem dX12_yearGains_14 : decode cX12_yearGains 14 = .ok (.iastore, 1) := by decide +kernel
theorem dX12_yearGains_15 : decode cX12_yearGains 15 = .ok (.iinc 3 1, 3) := by decide +kernel
theorem dX12_yearGains_18 : decode cX12_yearGains 18 = .ok (.goto (-16), 3) := by decide +kernel
theorem dX12_yearGains_21 : decode cX12_yearGains 21 = .ok (.iconst 0, 1) := by decide +kernel
theorem dX12_yearGains_22 : decode cX12_yearGains 22 = .ok (.istore_n 3, 1) := by decide +kernel
theorem dX12_yearGains_23 : decode cX12_yearGains 23 = .ok (.iload_n 3, 1) := by decide +kernel
theorem dX12_yearGains_24 : decode cX12_yearGains 24 = .ok (.aload_n 0, 1) := by decide +kernel
theorem dX12_yearGains_25 : decode cX12_yearGains 25 = .ok (.getfield 33, 3) := by decide +kernel
theorem dX12_yearGains_28 : decode cX12_yearGains 28 = .ok (.iconst 1, 1) := by decide +kernel
theorem dX12_yearGains_29 : decode cX12_yearGains 29 = .ok (.iaload, 1) := by decide +kernel
theorem dX12_yearGains_30 : decode cX12_yearGains 30 = .ok (.if_icmp .ge 114, 3) := by decide +kernel
theorem dX12_yearGains_33 : decode cX12_yearGains 33 = .ok (.aload_n 0, 1) := by decide +kernel
theorem dX12_yearGains_34 : decode cX12_yearGains 34 = .ok (.iload_n 3, 1) := by decide +kernel
theorem dX12_yearGains_35 : decode cX12_yearGains 35 = .ok (.iconst 0, 1) := by decide +kernel
theorem dX12_yearGains_36 : decode cX12_yearGains 36 = .ok (.invokevirtual 266, 3) := by decide +kernel
theorem dX12_yearGains_39 : decode cX12_yearGains 39 = .ok (.iload_n 1, 1) := by decide +kernel
theorem dX12_yearGains_40 : decode cX12_yearGains 40 = .ok (.if_icmp .eq 16, 3) := by decide +kernel
theorem dX12_yearGains_43 : decode cX12_yearGains 43 = .ok (.aload_n 0, 1) := by decide +kernel
theorem dX12_yearGains_44 : decode cX12_yearGains 44 = .ok (.iload_n 3, 1) := by decide +kernel
theorem dX12_yearGains_45 : decode cX12_yearGains 45 = .ok (.iconst 1, 1) := by decide +kernel
theorem dX12_yearGains_46 : decode cX12_yearGains 46 = .ok (.invokevirtual 266, 3) := by decide +kernel
theorem dX12_yearGains_49 : decode cX12_yearGains 49 = .ok (.iload_n 1, 1) := by decide +kernel
theorem dX12_yearGains_50 : decode cX12_yearGains 50 = .ok (.if_icmp .eq 6, 3) := by decide +kernel
theorem dX12_yearGains_53 : decode cX12_yearGains 53 = .ok (.goto 85, 3) := by decide +kernel
theorem dX12_yearGains_56 : decode cX12_yearGains 56 = .ok (.aload_n 0, 1) := by decide +kernel
theorem dX12_yearGains_57 : decode cX12_yearGains 57 = .ok (.iload_n 3, 1) := by decide +kernel
theorem dX12_yearGains_58 : decode cX12_yearGains 58 = .ok (.iload_n 2, 1) := by decide +kernel
theorem dX12_yearGains_59 : decode cX12_yearGains 59 = .ok (.iconst 1, 1) := by decide +kernel
theorem dX12_yearGains_60 : decode cX12_yearGains 60 = .ok (.iload_n 1, 1) := by decide +kernel
theorem dX12_yearGains_61 : decode cX12_yearGains 61 = .ok (.ishl, 1) := by decide +kernel
theorem dX12_yearGains_62 : decode cX12_yearGains 62 = .ok (.ior, 1) := by decide +kernel
theorem dX12_yearGains_63 : decode cX12_yearGains 63 = .ok (.invokevirtual 324, 3) := by decide +kernel
theorem dX12_yearGains_66 : decode cX12_yearGains 66 = .ok (.istore 4, 2) := by decide +kernel
theorem dX12_yearGains_68 : decode cX12_yearGains 68 = .ok (.aload_n 0, 1) := by decide +kernel
theorem dX12_yearGains_69 : decode cX12_yearGains 69 = .ok (.iload_n 3, 1) := by decide +kernel
theorem dX12_yearGains_70 : decode cX12_yearGains 70 = .ok (.iload_n 2, 1) := by decide +kernel
theorem dX12_yearGains_71 : decode cX12_yearGains 71 = .ok (.iconst 1, 1) := by decide +kernel
theorem dX12_yearGains_72 : decode cX12_yearGains 72 = .ok (.iload_n 1, 1) := by decide +kernel
theorem dX12_yearGains_73 : decode cX12_yearGains 73 = .ok (.ishl, 1) := by decide +kernel
theorem dX12_yearGains_74 : decode cX12_yearGains 74 = .ok (.iconst (-1), 1) := by decide +kernel
theorem dX12_yearGains_75 : decode cX12_yearGains 75 = .ok (.ixor, 1) := by decide +kernel
theorem dX12_yearGains_76 : decode cX12_yearGains 76 = .ok (.iand, 1) := by decide +kernel
theorem dX12_yearGains_77 : decode cX12_yearGains 77 = .ok (.invokevirtual 324, 3) := by decide +kernel
theorem dX12_yearGains_80 : decode cX12_yearGains 80 = .ok (.istore 5, 2) := by decide +kernel
theorem dX12_yearGains_82 : decode cX12_yearGains 82 = .ok (.iload 4, 2) := by decide +kernel
theorem dX12_yearGains_84 : decode cX12_yearGains 84 = .ok (.ifCond .le 25, 3) := by decide +kernel
theorem dX12_yearGains_87 : decode cX12_yearGains 87 = .ok (.aload_n 0, 1) := by decide +kernel
theorem dX12_yearGains_88 : decode cX12_yearGains 88 = .ok (.getfield 93, 3) := by decide +kernel
theorem dX12_yearGains_91 : decode cX12_yearGains 91 = .ok (.iconst 2, 1) := by decide +kernel
theorem dX12_yearGains_92 : decode cX12_yearGains 92 = .ok (.aload_n 0, 1) := by decide +kernel
theorem dX12_yearGains_93 : decode cX12_yearGains 93 = .ok (.iload_n 3, 1) := by decide +kernel
theorem dX12_yearGains_94 : decode cX12_yearGains 94 = .ok (.iconst 2, 1) := by decide +kernel
theorem dX12_yearGains_95 : decode cX12_yearGains 95 = .ok (.invokevirtual 266, 3) := by decide +kernel
theorem dX12_yearGains_98 : decode cX12_yearGains 98 = .ok (.imul, 1) := by decide +kernel
theorem dX12_yearGains_99 : decode cX12_yearGains 99 = .ok (.dup2, 1) := by decide +kernel
theorem dX12_yearGains_100 : decode cX12_yearGains 100 = .ok (.iaload, 1) := by decide +kernel
theorem dX12_yearGains_101 : decode cX12_yearGains 101 = .ok (.aload_n 0, 1) := by decide +kernel
theorem dX12_yearGains_102 : decode cX12_yearGains 102 = .ok (.iload_n 3, 1) := by decide +kernel
theorem dX12_yearGains_103 : decode cX12_yearGains 103 = .ok (.iload_n 1, 1) := by decide +kernel
theorem dX12_yearGains_104 : decode cX12_yearGains 104 = .ok (.invokevirtual 308, 3) := by decide +kernel
theorem dX12_yearGains_107 : decode cX12_yearGains 107 = .ok (.iadd, 1) := by decide +kernel
theorem dX12_yearGains_108 : decode cX12_yearGains 108 = .ok (.iastore, 1) := by decide +kernel
theorem dX12_yearGains_109 : decode cX12_yearGains 109 = .ok (.iload 5, 2) := by decide +kernel
theorem dX12_yearGains_111 : decode cX12_yearGains 111 = .ok (.ifCond .le 27, 3) := by decide +kernel
theorem dX12_yearGains_114 : decode cX12_yearGains 114 = .ok (.aload_n 0, 1) := by decide +kernel
theorem dX12_yearGains_115 : decode cX12_yearGains 115 = .ok (.getfield 93, 3) := by decide +kernel
theorem dX12_yearGains_118 : decode cX12_yearGains 118 = .ok (.iconst 2, 1) := by decide +kernel
theorem dX12_yearGains_119 : decode cX12_yearGains 119 = .ok (.aload_n 0, 1) := by decide +kernel
theorem dX12_yearGains_120 : decode cX12_yearGains 120 = .ok (.iload_n 3, 1) := by decide +kernel
theorem dX12_yearGains_121 : decode cX12_yearGains 121 = .ok (.iconst 2, 1) := by decide +kernel
theorem dX12_yearGains_122 : decode cX12_yearGains 122 = .ok (.invokevirtual 266, 3) := by decide +kernel
theorem dX12_yearGains_125 : decode cX12_yearGains 125 = .ok (.imul, 1) := by decide +kernel
theorem dX12_yearGains_126 : decode cX12_yearGains 126 = .ok (.iconst 1, 1) := by decide +kernel
theorem dX12_yearGains_127 : decode cX12_yearGains 127 = .ok (.iadd, 1) := by decide +kernel
theorem dX12_yearGains_128 : decode cX12_yearGains 128 = .ok (.dup2, 1) := by decide +kernel
theorem dX12_yearGains_129 : decode cX12_yearGains 129 = .ok (.iaload, 1) := by decide +kernel
theorem dX12_yearGains_130 : decode cX12_yearGains 130 = .ok (.aload_n 0, 1) := by decide +kernel
theorem dX12_yearGains_131 : decode cX12_yearGains 131 = .ok (.iload_n 3, 1) := by decide +kernel
theorem dX12_yearGains_132 : decode cX12_yearGains 132 = .ok (.iload_n 1, 1) := by decide +kernel
theorem dX12_yearGains_133 : decode cX12_yearGains 133 = .ok (.invokevirtual 308, 3) := by decide +kernel
theorem dX12_yearGains_136 : decode cX12_yearGains 136 = .ok (.iadd, 1) := by decide +kernel
theorem dX12_yearGains_137 : decode cX12_yearGains 137 = .ok (.iastore, 1) := by decide +kernel
theorem dX12_yearGains_138 : decode cX12_yearGains 138 = .ok (.iinc 3 1, 3) := by decide +kernel
theorem dX12_yearGains_141 : decode cX12_yearGains 141 = .ok (.goto (-118), 3) := by decide +kernel
theorem dX12_yearGains_144 : decode cX12_yearGains 144 = .ok (.return_, 1) := by decide +kernel
theorem dX12_from_0 : decode cX12_from 0 = .ok (.iload 4, 2) := by decide +kernel
theorem dX12_from_2 : decode cX12_from 2 = .ok (.ifCond .ne 21, 3) := by decide +kernel
theorem dX12_from_5 : decode cX12_from 5 = .ok (.aload_n 0, 1) := by decide +kernel
theorem dX12_from_6 : decode cX12_from 6 = .ok (.iload_n 1, 1) := by decide +kernel
theorem dX12_from_7 : decode cX12_from 7 = .ok (.iload_n 2, 1) := by decide +kernel
theorem dX12_from_8 : decode cX12_from 8 = .ok (.iload_n 3, 1) := by decide +kernel
theorem dX12_from_9 : decode cX12_from 9 = .ok (.ifCond .le 9, 3) := by decide +kernel
theorem dX12_from_12 : decode cX12_from 12 = .ok (.iload_n 3, 1) := by decide +kernel
theorem dX12_from_13 : decode cX12_from 13 = .ok (.iconst 1, 1) := by decide +kernel
theorem dX12_from_14 : decode cX12_from 14 = .ok (.isub, 1) := by decide +kernel
theorem dX12_from_15 : decode cX12_from 15 = .ok (.goto 4, 3) := by decide +kernel
theorem dX12_from_18 : decode cX12_from 18 = .ok (.iconst 0, 1) := by decide +kernel
theorem dX12_from_19 : decode cX12_from 19 = .ok (.invokevirtual 355, 3) := by decide +kernel
theorem dX12_from_22 : decode cX12_from 22 = .ok (.ireturn, 1) := by decide +kernel
theorem dX12_from_23 : decode cX12_from 23 = .ok (.iload_n 3, 1) := by decide +kernel
theorem dX12_from_24 : decode cX12_from 24 = .ok (.ifCond .le 11, 3) := by decide +kernel
theorem dX12_from_27 : decode cX12_from 27 = .ok (.iload_n 2, 1) := by decide +kernel
theorem dX12_from_28 : decode cX12_from 28 = .ok (.iload 4, 2) := by decide +kernel
theorem dX12_from_30 : decode cX12_from 30 = .ok (.if_icmp .eq 5, 3) := by decide +kernel
theorem dX12_from_33 : decode cX12_from 33 = .ok (.iconst (-1), 1) := by decide +kernel
theorem dX12_from_34 : decode cX12_from 34 = .ok (.ireturn, 1) := by decide +kernel
theorem dX12_from_35 : decode cX12_from 35 = .ok (.aload_n 0, 1) := by decide +kernel
theorem dX12_from_36 : decode cX12_from 36 = .ok (.getfield 93, 3) := by decide +kernel
theorem dX12_from_39 : decode cX12_from 39 = .ok (.iconst 2, 1) := by decide +kernel
theorem dX12_from_40 : decode cX12_from 40 = .ok (.iload_n 1, 1) := by decide +kernel
theorem dX12_from_41 : decode cX12_from 41 = .ok (.imul, 1) := by decide +kernel
theorem dX12_from_42 : decode cX12_from 42 = .ok (.iload 4, 2) := by decide +kernel
theorem dX12_from_44 : decode cX12_from 44 = .ok (.iadd, 1) := by decide +kernel
theorem dX12_from_45 : decode cX12_from 45 = .ok (.iconst 1, 1) := by decide +kernel
theorem dX12_from_46 : decode cX12_from 46 = .ok (.isub, 1) := by decide +kernel
theorem dX12_from_47 : decode cX12_from 47 = .ok (.iaload, 1) := by decide +kernel
theorem dX12_from_48 : decode cX12_from 48 = .ok (.aload_n 0, 1) := by decide +kernel
theorem dX12_from_49 : decode cX12_from 49 = .ok (.iload_n 1, 1) := by decide +kernel
theorem dX12_from_50 : decode cX12_from 50 = .ok (.iload 4, 2) := by decide +kernel
theorem dX12_from_52 : decode cX12_from 52 = .ok (.iload_n 3, 1) := by decide +kernel
theorem dX12_from_53 : decode cX12_from 53 = .ok (.ifCond .le 9, 3) := by decide +kernel
theorem dX12_from_56 : decode cX12_from 56 = .ok (.iload_n 3, 1) := by decide +kernel
theorem dX12_from_57 : decode cX12_from 57 = .ok (.iconst 1, 1) := by decide +kernel
theorem dX12_from_58 : decode cX12_from 58 = .ok (.isub, 1) := by decide +kernel
theorem dX12_from_59 : decode cX12_from 59 = .ok (.goto 7, 3) := by decide +kernel
theorem dX12_from_62 : decode cX12_from 62 = .ok (.iload 5, 2) := by decide +kernel
theorem dX12_from_64 : decode cX12_from 64 = .ok (.iconst 1, 1) := by decide +kernel
theorem dX12_from_65 : decode cX12_from 65 = .ok (.isub, 1) := by decide +kernel
theorem dX12_from_66 : decode cX12_from 66 = .ok (.invokevirtual 355, 3) := by decide +kernel
theorem dX12_from_69 : decode cX12_from 69 = .ok (.iadd, 1) := by decide +kernel
theorem dX12_from_70 : decode cX12_from 70 = .ok (.ireturn, 1) := by decide +kernel
theorem dX12_later_0 : decode cX12_later 0 = .ok (.iload_n 1, 1) := by decide +kernel
theorem dX12_later_1 : decode cX12_later 1 = .ok (.bipush 59, 2) := by decide +kernel
theorem dX12_later_3 : decode cX12_later 3 = .ok (.if_icmp .ne 7, 3) := by decide +kernel
theorem dX12_later_6 : decode cX12_later 6 = .ok (.iconst 0, 1) := by decide +kernel
theorem dX12_later_7 : decode cX12_later 7 = .ok (.goto 17, 3) := by decide +kernel
theorem dX12_later_10 : decode cX12_later 10 = .ok (.aload_n 0, 1) := by decide +kernel
theorem dX12_later_11 : decode cX12_later 11 = .ok (.getfield 96, 3) := by decide +kernel
theorem dX12_later_14 : decode cX12_later 14 = .ok (.aload_n 0, 1) := by decide +kernel
theorem dX12_later_15 : decode cX12_later 15 = .ok (.iload_n 1, 1) := by decide +kernel
theorem dX12_later_16 : decode cX12_later 16 = .ok (.iconst 1, 1) := by decide +kernel
theorem dX12_later_17 : decode cX12_later 17 = .ok (.iadd, 1) := by decide +kernel
theorem dX12_later_18 : decode cX12_later 18 = .ok (.iload_n 2, 1) := by decide +kernel
theorem dX12_later_19 : decode cX12_later 19 = .ok (.iload_n 3, 1) := by decide +kernel
theorem dX12_later_20 : decode cX12_later 20 = .ok (.invokevirtual 358, 3) := by decide +kernel
theorem dX12_later_23 : decode cX12_later 23 = .ok (.iaload, 1) := by decide +kernel
theorem dX12_later_24 : decode cX12_later 24 = .ok (.ireturn, 1) := by decide +kernel
theorem dX12_oneOf_0 : decode cX12_oneOf 0 = .ok (.iload_n 3, 1) := by decide +kernel
theorem dX12_oneOf_1 : decode cX12_oneOf 1 = .ok (.ifCond .ne 8, 3) := by decide +kernel
theorem dX12_oneOf_4 : decode cX12_oneOf 4 = .ok (.bipush 60, 2) := by decide +kernel
theorem dX12_oneOf_6 : decode cX12_oneOf 6 = .ok (.goto 4, 3) := by decide +kernel
theorem dX12_oneOf_9 : decode cX12_oneOf 9 = .ok (.iload_n 3, 1) := by decide +kernel
theorem dX12_oneOf_10 : decode cX12_oneOf 10 = .ok (.istore 4, 2) := by decide +kernel
theorem dX12_oneOf_12 : decode cX12_oneOf 12 = .ok (.aload_n 0, 1) := by decide +kernel
theorem dX12_oneOf_13 : decode cX12_oneOf 13 = .ok (.iload_n 1, 1) := by decide +kernel
theorem dX12_oneOf_14 : decode cX12_oneOf 14 = .ok (.iload_n 2, 1) := by decide +kernel
theorem dX12_oneOf_15 : decode cX12_oneOf 15 = .ok (.invokevirtual 361, 3) := by decide +kernel
theorem dX12_oneOf_18 : decode cX12_oneOf 18 = .ok (.bipush 59, 2) := by decide +kernel
theorem dX12_oneOf_20 : decode cX12_oneOf 20 = .ok (.istore 5, 2) := by decide +kernel
theorem dX12_oneOf_22 : decode cX12_oneOf 22 = .ok (.iload 5, 2) := by decide +kernel
theorem dX12_oneOf_24 : decode cX12_oneOf 24 = .ok (.ifCond .lt 107, 3) := by decide +kernel
theorem dX12_oneOf_27 : decode cX12_oneOf 27 = .ok (.iconst 0, 1) := by decide +kernel
theorem dX12_oneOf_28 : decode cX12_oneOf 28 = .ok (.istore 6, 2) := by decide +kernel
theorem dX12_oneOf_30 : decode cX12_oneOf 30 = .ok (.iload 6, 2) := by decide +kernel
theorem dX12_oneOf_32 : decode cX12_oneOf 32 = .ok (.bipush 60, 2) := by decide +kernel
theorem dX12_oneOf_34 : decode cX12_oneOf 34 = .ok (.if_icmp .gt 91, 3) := by decide +kernel
theorem dX12_oneOf_37 : decode cX12_oneOf 37 = .ok (.iconst 1, 1) := by decide +kernel
theorem dX12_oneOf_38 : decode cX12_oneOf 38 = .ok (.istore 7, 2) := by decide +kernel
theorem dX12_oneOf_40 : decode cX12_oneOf 40 = .ok (.iload 7, 2) := by decide +kernel
theorem dX12_oneOf_42 : decode cX12_oneOf 42 = .ok (.iconst 3, 1) := by decide +kernel
theorem dX12_oneOf_43 : decode cX12_oneOf 43 = .ok (.if_icmp .ge 76, 3) := by decide +kernel
theorem dX12_oneOf_46 : decode cX12_oneOf 46 = .ok (.iconst (-1), 1) := by decide +kernel
theorem dX12_oneOf_47 : decode cX12_oneOf 47 = .ok (.istore 8, 2) := by decide +kernel
theorem dX12_oneOf_49 : decode cX12_oneOf 49 = .ok (.iconst 0, 1) := by decide +kernel
theorem dX12_oneOf_50 : decode cX12_oneOf 50 = .ok (.istore 9, 2) := by decide +kernel
theorem dX12_oneOf_52 : decode cX12_oneOf 52 = .ok (.iload 9, 2) := by decide +kernel
theorem dX12_oneOf_54 : decode cX12_oneOf 54 = .ok (.iconst 3, 1) := by decide +kernel
theorem dX12_oneOf_55 : decode cX12_oneOf 55 = .ok (.if_icmp .ge 41, 3) := by decide +kernel
theorem dX12_oneOf_58 : decode cX12_oneOf 58 = .ok (.aload_n 0, 1) := by decide +kernel
theorem dX12_oneOf_59 : decode cX12_oneOf 59 = .ok (.iload 5, 2) := by decide +kernel
theorem dX12_oneOf_61 : decode cX12_oneOf 61 = .ok (.iload 7, 2) := by decide +kernel
theorem dX12_oneOf_63 : decode cX12_oneOf 63 = .ok (.iload 6, 2) := by decide +kernel
theorem dX12_oneOf_65 : decode cX12_oneOf 65 = .ok (.iload 9, 2) := by decide +kernel
theorem dX12_oneOf_67 : decode cX12_oneOf 67 = .ok (.iload 4, 2) := by decide +kernel
theorem dX12_oneOf_69 : decode cX12_oneOf 69 = .ok (.invokevirtual 364, 3) := by decide +kernel
theorem dX12_oneOf_72 : decode cX12_oneOf 72 = .ok (.istore 10, 2) := by decide +kernel
theorem dX12_oneOf_74 : decode cX12_oneOf 74 = .ok (.iload 10, 2) := by decide +kernel
theorem dX12_oneOf_76 : decode cX12_oneOf 76 = .ok (.iload 8, 2) := by decide +kernel
theorem dX12_oneOf_78 : decode cX12_oneOf 78 = .ok (.if_icmp .le 8, 3) := by decide +kernel
theorem dX12_oneOf_81 : decode cX12_oneOf 81 = .ok (.iload 10, 2) := by decide +kernel
theorem dX12_oneOf_83 : decode cX12_oneOf 83 = .ok (.goto 5, 3) := by decide +kernel
theorem dX12_oneOf_86 : decode cX12_oneOf 86 = .ok (.iload 8, 2) := by decide +kernel
theorem dX12_oneOf_88 : decode cX12_oneOf 88 = .ok (.istore 8, 2) := by decide +kernel
theorem dX12_oneOf_90 : decode cX12_oneOf 90 = .ok (.iinc 9 1, 3) := by decide +kernel
theorem dX12_oneOf_93 : decode cX12_oneOf 93 = .ok (.goto (-41), 3) := by decide +kernel
theorem dX12_oneOf_96 : decode cX12_oneOf 96 = .ok (.aload_n 0, 1) := by decide +kernel
theorem dX12_oneOf_97 : decode cX12_oneOf 97 = .ok (.getfield 96, 3) := by decide +kernel
theorem dX12_oneOf_100 : decode cX12_oneOf 100 = .ok (.aload_n 0, 1) := by decide +kernel
theorem dX12_oneOf_101 : decode cX12_oneOf 101 = .ok (.iload 5, 2) := by decide +kernel
theorem dX12_oneOf_103 : decode cX12_oneOf 103 = .ok (.iload 7, 2) := by decide +kernel
theorem dX12_oneOf_105 : decode cX12_oneOf 105 = .ok (.iload 6, 2) := by decide +kernel
theorem dX12_oneOf_107 : decode cX12_oneOf 107 = .ok (.invokevirtual 358, 3) := by decide +kernel
theorem dX12_oneOf_110 : decode cX12_oneOf 110 = .ok (.iload 8, 2) := by decide +kernel
theorem dX12_oneOf_112 : decode cX12_oneOf 112 = .ok (.iastore, 1) := by decide +kernel
theorem dX12_oneOf_113 : decode cX12_oneOf 113 = .ok (.iinc 7 1, 3) := by decide +kernel
theorem dX12_oneOf_116 : decode cX12_oneOf 116 = .ok (.goto (-76), 3) := by decide +kernel
theorem dX12_oneOf_119 : decode cX12_oneOf 119 = .ok (.iinc 6 1, 3) := by decide +kernel
theorem dX12_oneOf_122 : decode cX12_oneOf 122 = .ok (.goto (-92), 3) := by decide +kernel
theorem dX12_oneOf_125 : decode cX12_oneOf 125 = .ok (.iinc 5 (-1), 3) := by decide +kernel
theorem dX12_oneOf_128 : decode cX12_oneOf 128 = .ok (.goto (-106), 3) := by decide +kernel
theorem dX12_oneOf_131 : decode cX12_oneOf 131 = .ok (.aload_n 0, 1) := by decide +kernel
theorem dX12_oneOf_132 : decode cX12_oneOf 132 = .ok (.getfield 96, 3) := by decide +kernel
theorem dX12_oneOf_135 : decode cX12_oneOf 135 = .ok (.aload_n 0, 1) := by decide +kernel
theorem dX12_oneOf_136 : decode cX12_oneOf 136 = .ok (.iconst 0, 1) := by decide +kernel
theorem dX12_oneOf_137 : decode cX12_oneOf 137 = .ok (.iconst 1, 1) := by decide +kernel
theorem dX12_oneOf_138 : decode cX12_oneOf 138 = .ok (.iconst 0, 1) := by decide +kernel
theorem dX12_oneOf_139 : decode cX12_oneOf 139 = .ok (.invokevirtual 358, 3) := by decide +kernel
theorem dX12_oneOf_142 : decode cX12_oneOf 142 = .ok (.iaload, 1) := by decide +kernel
theorem dX12_oneOf_143 : decode cX12_oneOf 143 = .ok (.ireturn, 1) := by decide +kernel
theorem dX12_one_0 : decode cX12_one 0 = .ok (.aload_n 0, 1) := by decide +kernel
theorem dX12_one_1 : decode cX12_one 1 = .ok (.iconst 0, 1) := by decide +kernel
theorem dX12_one_2 : decode cX12_one 2 = .ok (.putfield 1, 3) := by decide +kernel
theorem dX12_one_5 : decode cX12_one 5 = .ok (.aload_n 0, 1) := by decide +kernel
theorem dX12_one_6 : decode cX12_one 6 = .ok (.iload_n 1, 1) := by decide +kernel
theorem dX12_one_7 : decode cX12_one 7 = .ok (.invokevirtual 256, 3) := by decide +kernel
theorem dX12_one_10 : decode cX12_one 10 = .ok (.ifCond .eq 11, 3) := by decide +kernel
theorem dX12_one_13 : decode cX12_one 13 = .ok (.aload_n 0, 1) := by decide +kernel
theorem dX12_one_14 : decode cX12_one 14 = .ok (.iload_n 2, 1) := by decide +kernel
theorem dX12_one_15 : decode cX12_one 15 = .ok (.invokevirtual 334, 3) := by decide +kernel
theorem dX12_one_18 : decode cX12_one 18 = .ok (.ifCond .ne 5, 3) := by decide +kernel
theorem dX12_one_21 : decode cX12_one 21 = .ok (.iconst (-1), 1) := by decide +kernel
theorem dX12_one_22 : decode cX12_one 22 = .ok (.ireturn, 1) := by decide +kernel
theorem dX12_one_23 : decode cX12_one 23 = .ok (.aload_n 0, 1) := by decide +kernel
theorem dX12_one_24 : decode cX12_one 24 = .ok (.getfield 33, 3) := by decide +kernel
theorem dX12_one_27 : decode cX12_one 27 = .ok (.iconst 2, 1) := by decide +kernel
theorem dX12_one_28 : decode cX12_one 28 = .ok (.iaload, 1) := by decide +kernel
theorem dX12_one_29 : decode cX12_one 29 = .ok (.ifCond .ne 8, 3) := by decide +kernel
theorem dX12_one_32 : decode cX12_one 32 = .ok (.bipush 60, 2) := by decide +kernel
theorem dX12_one_34 : decode cX12_one 34 = .ok (.goto 9, 3) := by decide +kernel
theorem dX12_one_37 : decode cX12_one 37 = .ok (.aload_n 0, 1) := by decide +kernel
theorem dX12_one_38 : decode cX12_one 38 = .ok (.getfield 33, 3) := by decide +kernel
theorem dX12_one_41 : decode cX12_one 41 = .ok (.iconst 2, 1) := by decide +kernel
theorem dX12_one_42 : decode cX12_one 42 = .ok (.iaload, 1) := by decide +kernel
theorem dX12_one_43 : decode cX12_one 43 = .ok (.istore_n 3, 1) := by decide +kernel
theorem dX12_one_44 : decode cX12_one 44 = .ok (.aload_n 0, 1) := by decide +kernel
theorem dX12_one_45 : decode cX12_one 45 = .ok (.iload_n 1, 1) := by decide +kernel
theorem dX12_one_46 : decode cX12_one 46 = .ok (.iload_n 2, 1) := by decide +kernel
theorem dX12_one_47 : decode cX12_one 47 = .ok (.aload_n 0, 1) := by decide +kernel
theorem dX12_one_48 : decode cX12_one 48 = .ok (.getfield 33, 3) := by decide +kernel
theorem dX12_one_51 : decode cX12_one 51 = .ok (.iconst 2, 1) := by decide +kernel
theorem dX12_one_52 : decode cX12_one 52 = .ok (.iaload, 1) := by decide +kernel
theorem dX12_one_53 : decode cX12_one 53 = .ok (.invokevirtual 368, 3) := by decide +kernel
theorem dX12_one_56 : decode cX12_one 56 = .ok (.istore 4, 2) := by decide +kernel
theorem dX12_one_58 : decode cX12_one 58 = .ok (.iconst 1, 1) := by decide +kernel
theorem dX12_one_59 : decode cX12_one 59 = .ok (.istore 5, 2) := by decide +kernel
theorem dX12_one_61 : decode cX12_one 61 = .ok (.iconst 0, 1) := by decide +kernel
theorem dX12_one_62 : decode cX12_one 62 = .ok (.istore 6, 2) := by decide +kernel
theorem dX12_one_64 : decode cX12_one 64 = .ok (.iconst 0, 1) := by decide +kernel
theorem dX12_one_65 : decode cX12_one 65 = .ok (.istore 7, 2) := by decide +kernel
theorem dX12_one_67 : decode cX12_one 67 = .ok (.iload 7, 2) := by decide +kernel
theorem dX12_one_69 : decode cX12_one 69 = .ok (.bipush 60, 2) := by decide +kernel
theorem dX12_one_71 : decode cX12_one 71 = .ok (.if_icmp .ge 90, 3) := by decide +kernel
theorem dX12_one_74 : decode cX12_one 74 = .ok (.iconst 0, 1) := by decide +kernel
theorem dX12_one_75 : decode cX12_one 75 = .ok (.istore 8, 2) := by decide +kernel
theorem dX12_one_77 : decode cX12_one 77 = .ok (.aload_n 0, 1) := by decide +kernel
theorem dX12_one_78 : decode cX12_one 78 = .ok (.iload 7, 2) := by decide +kernel
theorem dX12_one_80 : decode cX12_one 80 = .ok (.iload 5, 2) := by decide +kernel
theorem dX12_one_82 : decode cX12_one 82 = .ok (.iload 6, 2) := by decide +kernel
theorem dX12_one_84 : decode cX12_one 84 = .ok (.iload 8, 2) := by decide +kernel
theorem dX12_one_86 : decode cX12_one 86 = .ok (.iload_n 3, 1) := by decide +kernel
theorem dX12_one_87 : decode cX12_one 87 = .ok (.invokevirtual 364, 3) := by decide +kernel
theorem dX12_one_90 : decode cX12_one 90 = .ok (.aload_n 0, 1) := by decide +kernel
theorem dX12_one_91 : decode cX12_one 91 = .ok (.getfield 96, 3) := by decide +kernel
theorem dX12_one_94 : decode cX12_one 94 = .ok (.aload_n 0, 1) := by decide +kernel
theorem dX12_one_95 : decode cX12_one 95 = .ok (.iload 7, 2) := by decide +kernel
theorem dX12_one_97 : decode cX12_one 97 = .ok (.iload 5, 2) := by decide +kernel
theorem dX12_one_99 : decode cX12_one 99 = .ok (.iload 6, 2) := by decide +kernel
theorem dX12_one_101 : decode cX12_one 101 = .ok (.invokevirtual 358, 3) := by decide +kernel
theorem dX12_one_104 : decode cX12_one 104 = .ok (.iaload, 1) := by decide +kernel
theorem dX12_one_105 : decode cX12_one 105 = .ok (.if_icmp .eq 9, 3) := by decide +kernel
theorem dX12_one_108 : decode cX12_one 108 = .ok (.iinc 8 1, 3) := by decide +kernel
theorem dX12_one_111 : decode cX12_one 111 = .ok (.goto (-34), 3) := by decide +kernel
theorem dX12_one_114 : decode cX12_one 114 = .ok (.aload_n 0, 1) := by decide +kernel
theorem dX12_one_115 : decode cX12_one 115 = .ok (.getfield 99, 3) := by decide +kernel
theorem dX12_one_118 : decode cX12_one 118 = .ok (.iload 7, 2) := by decide +kernel
theorem dX12_one_120 : decode cX12_one 120 = .ok (.iload 8, 2) := by decide +kernel
theorem dX12_one_122 : decode cX12_one 122 = .ok (.iastore, 1) := by decide +kernel
theorem dX12_one_123 : decode cX12_one 123 = .ok (.iload 8, 2) := by decide +kernel
theorem dX12_one_125 : decode cX12_one 125 = .ok (.ifCond .le 15, 3) := by decide +kernel
theorem dX12_one_128 : decode cX12_one 128 = .ok (.iload 6, 2) := by decide +kernel
theorem dX12_one_130 : decode cX12_one 130 = .ok (.ifCond .ne 10, 3) := by decide +kernel
theorem dX12_one_133 : decode cX12_one 133 = .ok (.iload 8, 2) := by decide +kernel
theorem dX12_one_135 : decode cX12_one 135 = .ok (.istore 5, 2) := by decide +kernel
theorem dX12_one_137 : decode cX12_one 137 = .ok (.iload_n 3, 1) := by decide +kernel
theorem dX12_one_138 : decode cX12_one 138 = .ok (.istore 6, 2) := by decide +kernel
theorem dX12_one_140 : decode cX12_one 140 = .ok (.iload 6, 2) := by decide +kernel
theorem dX12_one_142 : decode cX12_one 142 = .ok (.ifCond .le 10, 3) := by decide +kernel
theorem dX12_one_145 : decode cX12_one 145 = .ok (.iload 6, 2) := by decide +kernel
theorem dX12_one_147 : decode cX12_one 147 = .ok (.iconst 1, 1) := by decide +kernel
theorem dX12_one_148 : decode cX12_one 148 = .ok (.isub, 1) := by decide +kernel
theorem dX12_one_149 : decode cX12_one 149 = .ok (.goto 4, 3) := by decide +kernel
theorem dX12_one_152 : decode cX12_one 152 = .ok (.iconst 0, 1) := by decide +kernel
theorem dX12_one_153 : decode cX12_one 153 = .ok (.istore 6, 2) := by decide +kernel
theorem dX12_one_155 : decode cX12_one 155 = .ok (.iinc 7 1, 3) := by decide +kernel
theorem dX12_one_158 : decode cX12_one 158 = .ok (.goto (-91), 3) := by decide +kernel
theorem dX12_one_161 : decode cX12_one 161 = .ok (.aload_n 0, 1) := by decide +kernel
theorem dX12_one_162 : decode cX12_one 162 = .ok (.iconst 1, 1) := by decide +kernel
theorem dX12_one_163 : decode cX12_one 163 = .ok (.putfield 371, 3) := by decide +kernel
theorem dX12_one_166 : decode cX12_one 166 = .ok (.iload 4, 2) := by decide +kernel
theorem dX12_one_168 : decode cX12_one 168 = .ok (.ireturn, 1) := by decide +kernel
theorem dX12_oneBy_0 : decode cX12_oneBy 0 = .ok (.aload_n 0, 1) := by decide +kernel
theorem dX12_oneBy_1 : decode cX12_oneBy 1 = .ok (.iconst 0, 1) := by decide +kernel
theorem dX12_oneBy_2 : decode cX12_oneBy 2 = .ok (.putfield 1, 3) := by decide +kernel
theorem dX12_oneBy_5 : decode cX12_oneBy 5 = .ok (.aload_n 0, 1) := by decide +kernel
theorem dX12_oneBy_6 : decode cX12_oneBy 6 = .ok (.iload_n 1, 1) := by decide +kernel
theorem dX12_oneBy_7 : decode cX12_oneBy 7 = .ok (.invokevirtual 256, 3) := by decide +kernel
theorem dX12_oneBy_10 : decode cX12_oneBy 10 = .ok (.ifCond .eq 31, 3) := by decide +kernel
theorem dX12_oneBy_13 : decode cX12_oneBy 13 = .ok (.aload_n 0, 1) := by decide +kernel
theorem dX12_oneBy_14 : decode cX12_oneBy 14 = .ok (.iload_n 2, 1) := by decide +kernel
theorem dX12_oneBy_15 : decode cX12_oneBy 15 = .ok (.invokevirtual 334, 3) := by decide +kernel
theorem dX12_oneBy_18 : decode cX12_oneBy 18 = .ok (.ifCond .eq 23, 3) := by decide +kernel
theorem dX12_oneBy_21 : decode cX12_oneBy 21 = .ok (.iload_n 3, 1) := by decide +kernel
theorem dX12_oneBy_22 : decode cX12_oneBy 22 = .ok (.iconst 0, 1) := by decide +kernel
theorem dX12_oneBy_23 : decode cX12_oneBy 23 = .ok (.bipush 60, 2) := by decide +kernel
theorem dX12_oneBy_25 : decode cX12_oneBy 25 = .ok (.invokestatic 197, 3) := by decide +kernel
theorem dX12_oneBy_28 : decode cX12_oneBy 28 = .ok (.ifCond .eq 13, 3) := by decide +kernel
theorem dX12_oneBy_31 : decode cX12_oneBy 31 = .ok (.aload_n 0, 1) := by decide +kernel
theorem dX12_oneBy_32 : decode cX12_oneBy 32 = .ok (.iload_n 1, 1) := by decide +kernel
theorem dX12_oneBy_33 : decode cX12_oneBy 33 = .ok (.iload_n 2, 1) := by decide +kernel
theorem dX12_oneBy_34 : decode cX12_oneBy 34 = .ok (.iload_n 3, 1) := by decide +kernel
theorem dX12_oneBy_35 : decode cX12_oneBy 35 = .ok (.invokevirtual 368, 3) := by decide +kernel
theorem dX12_oneBy_38 : decode cX12_oneBy 38 = .ok (.goto 4, 3) := by decide +kernel
theorem dX12_oneBy_41 : decode cX12_oneBy 41 = .ok (.iconst (-1), 1) := by decide +kernel
theorem dX12_oneBy_42 : decode cX12_oneBy 42 = .ok (.ireturn, 1) := by decide +kernel
theorem dX12_oneIs_0 : decode cX12_oneIs 0 = .ok (.aload_n 0, 1) := by decide +kernel
theorem dX12_oneIs_1 : decode cX12_oneIs 1 = .ok (.iconst 0, 1) := by decide +kernel
theorem dX12_oneIs_2 : decode cX12_oneIs 2 = .ok (.putfield 1, 3) := by decide +kernel
theorem dX12_oneIs_5 : decode cX12_oneIs 5 = .ok (.aload_n 0, 1) := by decide +kernel
theorem dX12_oneIs_6 : decode cX12_oneIs 6 = .ok (.getfield 371, 3) := by decide +kernel
theorem dX12_oneIs_9 : decode cX12_oneIs 9 = .ok (.ifCond .eq 22, 3) := by decide +kernel
theorem dX12_oneIs_12 : decode cX12_oneIs 12 = .ok (.iload_n 1, 1) := by decide +kernel
theorem dX12_oneIs_13 : decode cX12_oneIs 13 = .ok (.iconst 0, 1) := by decide +kernel
theorem dX12_oneIs_14 : decode cX12_oneIs 14 = .ok (.bipush 59, 2) := by decide +kernel
theorem dX12_oneIs_16 : decode cX12_oneIs 16 = .ok (.invokestatic 197, 3) := by decide +kernel
theorem dX12_oneIs_19 : decode cX12_oneIs 19 = .ok (.ifCond .eq 12, 3) := by decide +kernel
theorem dX12_oneIs_22 : decode cX12_oneIs 22 = .ok (.aload_n 0, 1) := by decide +kernel
theorem dX12_oneIs_23 : decode cX12_oneIs 23 = .ok (.getfield 99, 3) := by decide +kernel
theorem dX12_oneIs_26 : decode cX12_oneIs 26 = .ok (.iload_n 1, 1) := by decide +kernel
theorem dX12_oneIs_27 : decode cX12_oneIs 27 = .ok (.iaload, 1) := by decide +kernel
theorem dX12_oneIs_28 : decode cX12_oneIs 28 = .ok (.goto 4, 3) := by decide +kernel
theorem dX12_oneIs_31 : decode cX12_oneIs 31 = .ok (.iconst (-1), 1) := by decide +kernel
theorem dX12_oneIs_32 : decode cX12_oneIs 32 = .ok (.ireturn, 1) := by decide +kernel
theorem dX12_byYears_0 : decode cX12_byYears 0 = .ok (.iconst 0, 1) := by decide +kernel
theorem dX12_byYears_1 : decode cX12_byYears 1 = .ok (.istore_n 1, 1) := by decide +kernel
theorem dX12_byYears_2 : decode cX12_byYears 2 = .ok (.iconst 0, 1) := by decide +kernel
theorem dX12_byYears_3 : decode cX12_byYears 3 = .ok (.istore_n 2, 1) := by decide +kernel
theorem dX12_byYears_4 : decode cX12_byYears 4 = .ok (.iload_n 2, 1) := by decide +kernel
theorem dX12_byYears_5 : decode cX12_byYears 5 = .ok (.bipush 60, 2) := by decide +kernel
theorem dX12_byYears_7 : decode cX12_byYears 7 = .ok (.if_icmp .ge 50, 3) := by decide +kernel
theorem dX12_byYears_10 : decode cX12_byYears 10 = .ok (.iconst 0, 1) := by decide +kernel
theorem dX12_byYears_11 : decode cX12_byYears 11 = .ok (.istore_n 3, 1) := by decide +kernel
theorem dX12_byYears_12 : decode cX12_byYears 12 = .ok (.iload_n 3, 1) := by decide +kernel
theorem dX12_byYears_13 : decode cX12_byYears 13 = .ok (.aload_n 0, 1) := by decide +kernel
theorem dX12_byYears_14 : decode cX12_byYears 14 = .ok (.getfield 33, 3) := by decide +kernel
theorem dX12_byYears_17 : decode cX12_byYears 17 = .ok (.iconst 1, 1) := by decide +kernel
theorem dX12_byYears_18 : decode cX12_byYears 18 = .ok (.iaload, 1) := by decide +kernel
theorem dX12_byYears_19 : decode cX12_byYears 19 = .ok (.if_icmp .ge 32, 3) := by decide +kernel
theorem dX12_byYears_22 : decode cX12_byYears 22 = .ok (.aload_n 0, 1) := by decide +kernel
theorem dX12_byYears_23 : decode cX12_byYears 23 = .ok (.iload_n 3, 1) := by decide +kernel
theorem dX12_byYears_24 : decode cX12_byYears 24 = .ok (.iconst 2, 1) := by decide +kernel
theorem dX12_byYears_25 : decode cX12_byYears 25 = .ok (.invokevirtual 266, 3) := by decide +kernel
theorem dX12_byYears_28 : decode cX12_byYears 28 = .ok (.iload_n 2, 1) := by decide +kernel
theorem dX12_byYears_29 : decode cX12_byYears 29 = .ok (.if_icmp .eq 6, 3) := by decide +kernel
theorem dX12_byYears_32 : decode cX12_byYears 32 = .ok (.goto 13, 3) := by decide +kernel
theorem dX12_byYears_35 : decode cX12_byYears 35 = .ok (.aload_n 0, 1) := by decide +kernel
theorem dX12_byYears_36 : decode cX12_byYears 36 = .ok (.getfield 102, 3) := by decide +kernel
theorem dX12_byYears_39 : decode cX12_byYears 39 = .ok (.iload_n 1, 1) := by decide +kernel
theorem dX12_byYears_40 : decode cX12_byYears 40 = .ok (.iload_n 3, 1) := by decide +kernel
theorem dX12_byYears_41 : decode cX12_byYears 41 = .ok (.iastore, 1) := by decide +kernel
theorem dX12_byYears_42 : decode cX12_byYears 42 = .ok (.iinc 1 1, 3) := by decide +kernel
theorem dX12_byYears_45 : decode cX12_byYears 45 = .ok (.iinc 3 1, 3) := by decide +kernel
theorem dX12_byYears_48 : decode cX12_byYears 48 = .ok (.goto (-36), 3) := by decide +kernel
theorem dX12_byYears_51 : decode cX12_byYears 51 = .ok (.iinc 2 1, 3) := by decide +kernel
theorem dX12_byYears_54 : decode cX12_byYears 54 = .ok (.goto (-50), 3) := by decide +kernel
theorem dX12_byYears_57 : decode cX12_byYears 57 = .ok (.return_, 1) := by decide +kernel
theorem dX12_keepDone_0 : decode cX12_keepDone 0 = .ok (.aload_n 0, 1) := by decide +kernel
theorem dX12_keepDone_1 : decode cX12_keepDone 1 = .ok (.getfield 114, 3) := by decide +kernel
theorem dX12_keepDone_4 : decode cX12_keepDone 4 = .ok (.bipush 60, 2) := by decide +kernel
theorem dX12_keepDone_6 : decode cX12_keepDone 6 = .ok (.aload_n 0, 1) := by decide +kernel
theorem dX12_keepDone_7 : decode cX12_keepDone 7 = .ok (.getfield 33, 3) := by decide +kernel
theorem dX12_keepDone_10 : decode cX12_keepDone 10 = .ok (.iconst 3, 1) := by decide +kernel
theorem dX12_keepDone_11 : decode cX12_keepDone 11 = .ok (.iaload, 1) := by decide +kernel
theorem dX12_keepDone_12 : decode cX12_keepDone 12 = .ok (.iastore, 1) := by decide +kernel
theorem dX12_keepDone_13 : decode cX12_keepDone 13 = .ok (.iconst 0, 1) := by decide +kernel
theorem dX12_keepDone_14 : decode cX12_keepDone 14 = .ok (.istore_n 1, 1) := by decide +kernel
theorem dX12_keepDone_15 : decode cX12_keepDone 15 = .ok (.iload_n 1, 1) := by decide +kernel
theorem dX12_keepDone_16 : decode cX12_keepDone 16 = .ok (.bipush 60, 2) := by decide +kernel
theorem dX12_keepDone_18 : decode cX12_keepDone 18 = .ok (.if_icmp .ge 25, 3) := by decide +kernel
theorem dX12_keepDone_21 : decode cX12_keepDone 21 = .ok (.aload_n 0, 1) := by decide +kernel
theorem dX12_keepDone_22 : decode cX12_keepDone 22 = .ok (.getfield 114, 3) := by decide +kernel
theorem dX12_keepDone_25 : decode cX12_keepDone 25 = .ok (.iload_n 1, 1) := by decide +kernel
theorem dX12_keepDone_26 : decode cX12_keepDone 26 = .ok (.aload_n 0, 1) := by decide +kernel
theorem dX12_keepDone_27 : decode cX12_keepDone 27 = .ok (.getfield 33, 3) := by decide +kernel
theorem dX12_keepDone_30 : decode cX12_keepDone 30 = .ok (.sipush 224, 3) := by decide +kernel
theorem dX12_keepDone_33 : decode cX12_keepDone 33 = .ok (.iload_n 1, 1) := by decide +kernel
theorem dX12_keepDone_34 : decode cX12_keepDone 34 = .ok (.iadd, 1) := by decide +kernel
theorem dX12_keepDone_35 : decode cX12_keepDone 35 = .ok (.iaload, 1) := by decide +kernel
theorem dX12_keepDone_36 : decode cX12_keepDone 36 = .ok (.iastore, 1) := by decide +kernel
theorem dX12_keepDone_37 : decode cX12_keepDone 37 = .ok (.iinc 1 1, 3) := by decide +kernel
theorem dX12_keepDone_40 : decode cX12_keepDone 40 = .ok (.goto (-25), 3) := by decide +kernel
theorem dX12_keepDone_43 : decode cX12_keepDone 43 = .ok (.return_, 1) := by decide +kernel
theorem dX12_backDone_0 : decode cX12_backDone 0 = .ok (.aload_n 0, 1) := by decide +kernel
theorem dX12_backDone_1 : decode cX12_backDone 1 = .ok (.getfield 33, 3) := by decide +kernel
theorem dX12_backDone_4 : decode cX12_backDone 4 = .ok (.iconst 3, 1) := by decide +kernel
theorem dX12_backDone_5 : decode cX12_backDone 5 = .ok (.aload_n 0, 1) := by decide +kernel
theorem dX12_backDone_6 : decode cX12_backDone 6 = .ok (.getfield 114, 3) := by decide +kernel
theorem dX12_backDone_9 : decode cX12_backDone 9 = .ok (.bipush 60, 2) := by decide +kernel
theorem dX12_backDone_11 : decode cX12_backDone 11 = .ok (.iaload, 1) := by decide +kernel
theorem dX12_backDone_12 : decode cX12_backDone 12 = .ok (.iastore, 1) := by decide +kernel
theorem dX12_backDone_13 : decode cX12_backDone 13 = .ok (.iconst 0, 1) := by decide +kernel
theorem dX12_backDone_14 : decode cX12_backDone 14 = .ok (.istore_n 1, 1) := by decide +kernel
theorem dX12_backDone_15 : decode cX12_backDone 15 = .ok (.iload_n 1, 1) := by decide +kernel
theorem dX12_backDone_16 : decode cX12_backDone 16 = .ok (.bipush 60, 2) := by decide +kernel
theorem dX12_backDone_18 : decode cX12_backDone 18 = .ok (.if_icmp .ge 25, 3) := by decide +kernel
theorem dX12_backDone_21 : decode cX12_backDone 21 = .ok (.aload_n 0, 1) := by decide +kernel
theorem dX12_backDone_22 : decode cX12_backDone 22 = .ok (.getfield 33, 3) := by decide +kernel
theorem dX12_backDone_25 : decode cX12_backDone 25 = .ok (.sipush 224, 3) := by decide +kernel
theorem dX12_backDone_28 : decode cX12_backDone 28 = .ok (.iload_n 1, 1) := by decide +kernel
theorem dX12_backDone_29 : decode cX12_backDone 29 = .ok (.iadd, 1) := by decide +kernel
theorem dX12_backDone_30 : decode cX12_backDone 30 = .ok (.aload_n 0, 1) := by decide +kernel
theorem dX12_backDone_31 : decode cX12_backDone 31 = .ok (.getfield 114, 3) := by decide +kernel
theorem dX12_backDone_34 : decode cX12_backDone 34 = .ok (.iload_n 1, 1) := by decide +kernel
theorem dX12_backDone_35 : decode cX12_backDone 35 = .ok (.iaload, 1) := by decide +kernel
theorem dX12_backDone_36 : decode cX12_backDone 36 = .ok (.iastore, 1) := by decide +kernel
theorem dX12_backDone_37 : decode cX12_backDone 37 = .ok (.iinc 1 1, 3) := by decide +kernel
theorem dX12_backDone_40 : decode cX12_backDone 40 = .ok (.goto (-25), 3) := by decide +kernel
theorem dX12_backDone_43 : decode cX12_backDone 43 = .ok (.return_, 1) := by decide +kernel
theorem dX12_lawful_0 : decode cX12_lawful 0 = .ok (.aload_n 0, 1) := by decide +kernel
theorem dX12_lawful_1 : decode cX12_lawful 1 = .ok (.iconst 0, 1) := by decide +kernel
theorem dX12_lawful_2 : decode cX12_lawful 2 = .ok (.putfield 1, 3) := by decide +kernel
theorem dX12_lawful_5 : decode cX12_lawful 5 = .ok (.aload_n 0, 1) := by decide +kernel
theorem dX12_lawful_6 : decode cX12_lawful 6 = .ok (.getfield 33, 3) := by decide +kernel
theorem dX12_lawful_9 : decode cX12_lawful 9 = .ok (.iconst 1, 1) := by decide +kernel
theorem dX12_lawful_10 : decode cX12_lawful 10 = .ok (.iaload, 1) := by decide +kernel
theorem dX12_lawful_11 : decode cX12_lawful 11 = .ok (.bipush 12, 2) := by decide +kernel
theorem dX12_lawful_13 : decode cX12_lawful 13 = .ok (.if_icmp .le 5, 3) := by decide +kernel
theorem dX12_lawful_16 : decode cX12_lawful 16 = .ok (.iconst (-1), 1) := by decide +kernel
theorem dX12_lawful_17 : decode cX12_lawful 17 = .ok (.ireturn, 1) := by decide +kernel
theorem dX12_lawful_18 : decode cX12_lawful 18 = .ok (.aload_n 0, 1) := by decide +kernel
theorem dX12_lawful_19 : decode cX12_lawful 19 = .ok (.invokevirtual 374, 3) := by decide +kernel
theorem dX12_lawful_22 : decode cX12_lawful 22 = .ok (.aload_n 0, 1) := by decide +kernel
theorem dX12_lawful_23 : decode cX12_lawful 23 = .ok (.invokevirtual 377, 3) := by decide +kernel
theorem dX12_lawful_26 : decode cX12_lawful 26 = .ok (.aload_n 0, 1) := by decide +kernel
theorem dX12_lawful_27 : decode cX12_lawful 27 = .ok (.getfield 33, 3) := by decide +kernel
theorem dX12_lawful_30 : decode cX12_lawful 30 = .ok (.iconst 3, 1) := by decide +kernel
theorem dX12_lawful_31 : decode cX12_lawful 31 = .ok (.iconst 0, 1) := by decide +kernel
theorem dX12_lawful_32 : decode cX12_lawful 32 = .ok (.iastore, 1) := by decide +kernel
theorem dX12_lawful_33 : decode cX12_lawful 33 = .ok (.iconst (-1), 1) := by decide +kernel
theorem dX12_lawful_34 : decode cX12_lawful 34 = .ok (.istore_n 1, 1) := by decide +kernel
theorem dX12_lawful_35 : decode cX12_lawful 35 = .ok (.iconst 0, 1) := by decide +kernel
theorem dX12_lawful_36 : decode cX12_lawful 36 = .ok (.istore_n 2, 1) := by decide +kernel
theorem dX12_lawful_37 : decode cX12_lawful 37 = .ok (.iconst 0, 1) := by decide +kernel
theorem dX12_lawful_38 : decode cX12_lawful 38 = .ok (.istore_n 3, 1) := by decide +kernel
theorem dX12_lawful_39 : decode cX12_lawful 39 = .ok (.aload_n 0, 1) := by decide +kernel
theorem dX12_lawful_40 : decode cX12_lawful 40 = .ok (.getfield 105, 3) := by decide +kernel
theorem dX12_lawful_43 : decode cX12_lawful 43 = .ok (.iconst 0, 1) := by decide +kernel
theorem dX12_lawful_44 : decode cX12_lawful 44 = .ok (.iconst (-1), 1) := by decide +kernel
theorem dX12_lawful_45 : decode cX12_lawful 45 = .ok (.iastore, 1) := by decide +kernel
theorem dX12_lawful_46 : decode cX12_lawful 46 = .ok (.iload_n 2, 1) := by decide +kernel
theorem dX12_lawful_47 : decode cX12_lawful 47 = .ok (.ifCond .lt 244, 3) := by decide +kernel
theorem dX12_lawful_50 : decode cX12_lawful 50 = .ok (.iload_n 2, 1) := by decide +kernel
theorem dX12_lawful_51 : decode cX12_lawful 51 = .ok (.aload_n 0, 1) := by decide +kernel
theorem dX12_lawful_52 : decode cX12_lawful 52 = .ok (.getfield 33, 3) := by decide +kernel
theorem dX12_lawful_55 : decode cX12_lawful 55 = .ok (.iconst 1, 1) := by decide +kernel
theorem dX12_lawful_56 : decode cX12_lawful 56 = .ok (.iaload, 1) := by decide +kernel
theorem dX12_lawful_57 : decode cX12_lawful 57 = .ok (.if_icmp .ne 50, 3) := by decide +kernel
theorem dX12_lawful_60 : decode cX12_lawful 60 = .ok (.iload_n 3, 1) := by decide +kernel
theorem dX12_lawful_61 : decode cX12_lawful 61 = .ok (.iload_n 1, 1) := by decide +kernel
theorem dX12_lawful_62 : decode cX12_lawful 62 = .ok (.if_icmp .le 39, 3) := by decide +kernel
theorem dX12_lawful_65 : decode cX12_lawful 65 = .ok (.iload_n 3, 1) := by decide +kernel
theorem dX12_lawful_66 : decode cX12_lawful 66 = .ok (.istore_n 1, 1) := by decide +kernel
theorem dX12_lawful_67 : decode cX12_lawful 67 = .ok (.iconst 0, 1) := by decide +kernel
theorem dX12_lawful_68 : decode cX12_lawful 68 = .ok (.istore 4, 2) := by decide +kernel
theorem dX12_lawful_70 : decode cX12_lawful 70 = .ok (.iload 4, 2) := by decide +kernel
theorem dX12_lawful_72 : decode cX12_lawful 72 = .ok (.iload_n 2, 1) := by decide +kernel
theorem dX12_lawful_73 : decode cX12_lawful 73 = .ok (.if_icmp .ge 28, 3) := by decide +kernel
theorem dX12_lawful_76 : decode cX12_lawful 76 = .ok (.aload_n 0, 1) := by decide +kernel
theorem dX12_lawful_77 : decode cX12_lawful 77 = .ok (.getfield 108, 3) := by decide +kernel
theorem dX12_lawful_80 : decode cX12_lawful 80 = .ok (.aload_n 0, 1) := by decide +kernel
theorem dX12_lawful_81 : decode cX12_lawful 81 = .ok (.getfield 102, 3) := by decide +kernel
theorem dX12_lawful_84 : decode cX12_lawful 84 = .ok (.iload 4, 2) := by decide +kernel
theorem dX12_lawful_86 : decode cX12_lawful 86 = .ok (.iaload, 1) := by decide +kernel
theorem dX12_lawful_87 : decode cX12_lawful 87 = .ok (.aload_n 0, 1) := by decide +kernel
theorem dX12_lawful_88 : decode cX12_lawful 88 = .ok (.getfield 105, 3) := by decide +kernel
theorem dX12_lawful_91 : decode cX12_lawful 91 = .ok (.iload 4, 2) := by decide +kernel
theorem dX12_lawful_93 : decode cX12_lawful 93 = .ok (.iaload, 1) := by decide +kernel
theorem dX12_lawful_94 : decode cX12_lawful 94 = .ok (.iastore, 1) := by decide +kernel
theorem dX12_lawful_95 : decode cX12_lawful 95 = .ok (.iinc 4 1, 3) := by decide +kernel
theorem dX12_lawful_98 : decode cX12_lawful 98 = .ok (.goto (-28), 3) := by decide +kernel
theorem dX12_lawful_101 : decode cX12_lawful 101 = .ok (.iinc 2 (-1), 3) := by decide +kernel
theorem dX12_lawful_104 : decode cX12_lawful 104 = .ok (.goto (-58), 3) := by decide +kernel
theorem dX12_lawful_107 : decode cX12_lawful 107 = .ok (.aload_n 0, 1) := by decide +kernel
theorem dX12_lawful_108 : decode cX12_lawful 108 = .ok (.getfield 102, 3) := by decide +kernel
theorem dX12_lawful_111 : decode cX12_lawful 111 = .ok (.iload_n 2, 1) := by decide +kernel
theorem dX12_lawful_112 : decode cX12_lawful 112 = .ok (.iaload, 1) := by decide +kernel
theorem dX12_lawful_113 : decode cX12_lawful 113 = .ok (.istore 4, 2) := by decide +kernel
theorem dX12_lawful_115 : decode cX12_lawful 115 = .ok (.aload_n 0, 1) := by decide +kernel
theorem dX12_lawful_116 : decode cX12_lawful 116 = .ok (.getfield 105, 3) := by decide +kernel
theorem dX12_lawful_119 : decode cX12_lawful 119 = .ok (.iload_n 2, 1) := by decide +kernel
theorem dX12_lawful_120 : decode cX12_lawful 120 = .ok (.iaload, 1) := by decide +kernel
theorem dX12_lawful_121 : decode cX12_lawful 121 = .ok (.ifCond .le 31, 3) := by decide +kernel
theorem dX12_lawful_124 : decode cX12_lawful 124 = .ok (.aload_n 0, 1) := by decide +kernel
theorem dX12_lawful_125 : decode cX12_lawful 125 = .ok (.getfield 33, 3) := by decide +kernel
theorem dX12_lawful_128 : decode cX12_lawful 128 = .ok (.iconst 3, 1) := by decide +kernel
theorem dX12_lawful_129 : decode cX12_lawful 129 = .ok (.dup2, 1) := by decide +kernel
theorem dX12_lawful_130 : decode cX12_lawful 130 = .ok (.iaload, 1) := by decide +kernel
theorem dX12_lawful_131 : decode cX12_lawful 131 = .ok (.iconst 1, 1) := by decide +kernel
theorem dX12_lawful_132 : decode cX12_lawful 132 = .ok (.isub, 1) := by decide +kernel
theorem dX12_lawful_133 : decode cX12_lawful 133 = .ok (.iastore, 1) := by decide +kernel
theorem dX12_lawful_134 : decode cX12_lawful 134 = .ok (.iload_n 3, 1) := by decide +kernel
theorem dX12_lawful_135 : decode cX12_lawful 135 = .ok (.aload_n 0, 1) := by decide +kernel
theorem dX12_lawful_136 : decode cX12_lawful 136 = .ok (.iload 4, 2) := by decide +kernel
theorem dX12_lawful_138 : decode cX12_lawful 138 = .ok (.iconst 3, 1) := by decide +kernel
theorem dX12_lawful_139 : decode cX12_lawful 139 = .ok (.invokevirtual 266, 3) := by decide +kernel
theorem dX12_lawful_142 : decode cX12_lawful 142 = .ok (.aload_n 0, 1) := by decide +kernel
theorem dX12_lawful_143 : decode cX12_lawful 143 = .ok (.iload 4, 2) := by decide +kernel
theorem dX12_lawful_145 : decode cX12_lawful 145 = .ok (.iconst 4, 1) := by decide +kernel
theorem dX12_lawful_146 : decode cX12_lawful 146 = .ok (.invokevirtual 266, 3) := by decide +kernel
theorem dX12_lawful_149 : decode cX12_lawful 149 = .ok (.iadd, 1) := by decide +kernel
theorem dX12_lawful_150 : decode cX12_lawful 150 = .ok (.isub, 1) := by decide +kernel
theorem dX12_lawful_151 : decode cX12_lawful 151 = .ok (.istore_n 3, 1) := by decide +kernel
theorem dX12_lawful_152 : decode cX12_lawful 152 = .ok (.aload_n 0, 1) := by decide +kernel
theorem dX12_lawful_153 : decode cX12_lawful 153 = .ok (.getfield 105, 3) := by decide +kernel
theorem dX12_lawful_156 : decode cX12_lawful 156 = .ok (.iload_n 2, 1) := by decide +kernel
theorem dX12_lawful_157 : decode cX12_lawful 157 = .ok (.dup2, 1) := by decide +kernel
theorem dX12_lawful_158 : decode cX12_lawful 158 = .ok (.iaload, 1) := by decide +kernel
theorem dX12_lawful_159 : decode cX12_lawful 159 = .ok (.iconst 1, 1) := by decide +kernel
theorem dX12_lawful_160 : decode cX12_lawful 160 = .ok (.iadd, 1) := by decide +kernel
theorem dX12_lawful_161 : decode cX12_lawful 161 = .ok (.iastore, 1) := by decide +kernel
theorem dX12_lawful_162 : decode cX12_lawful 162 = .ok (.aload_n 0, 1) := by decide +kernel
theorem dX12_lawful_163 : decode cX12_lawful 163 = .ok (.getfield 105, 3) := by decide +kernel
theorem dX12_lawful_166 : decode cX12_lawful 166 = .ok (.iload_n 2, 1) := by decide +kernel
theorem dX12_lawful_167 : decode cX12_lawful 167 = .ok (.iaload, 1) := by decide +kernel
theorem dX12_lawful_168 : decode cX12_lawful 168 = .ok (.ifCond .le 43, 3) := by decide +kernel
theorem dX12_lawful_171 : decode cX12_lawful 171 = .ok (.aload_n 0, 1) := by decide +kernel
theorem dX12_lawful_172 : decode cX12_lawful 172 = .ok (.getfield 105, 3) := by decide +kernel
theorem dX12_lawful_175 : decode cX12_lawful 175 = .ok (.iload_n 2, 1) := by decide +kernel
theorem dX12_lawful_176 : decode cX12_lawful 176 = .ok (.iaload, 1) := by decide +kernel
theorem dX12_lawful_177 : decode cX12_lawful 177 = .ok (.iconst 3, 1) := by decide +kernel
theorem dX12_lawful_178 : decode cX12_lawful 178 = .ok (.if_icmp .ge 33, 3) := by decide +kernel
theorem dX12_lawful_181 : decode cX12_lawful 181 = .ok (.aload_n 0, 1) := by decide +kernel
theorem dX12_lawful_182 : decode cX12_lawful 182 = .ok (.iload 4, 2) := by decide +kernel
theorem dX12_lawful_184 : decode cX12_lawful 184 = .ok (.aload_n 0, 1) := by decide +kernel
theorem dX12_lawful_185 : decode cX12_lawful 185 = .ok (.getfield 105, 3) := by decide +kernel
theorem dX12_lawful_188 : decode cX12_lawful 188 = .ok (.iload_n 2, 1) := by decide +kernel
theorem dX12_lawful_189 : decode cX12_lawful 189 = .ok (.iaload, 1) := by decide +kernel
theorem dX12_lawful_190 : decode cX12_lawful 190 = .ok (.iconst 1, 1) := by decide +kernel
theorem dX12_lawful_191 : decode cX12_lawful 191 = .ok (.isub, 1) := by decide +kernel
theorem dX12_lawful_192 : decode cX12_lawful 192 = .ok (.invokevirtual 292, 3) := by decide +kernel
theorem dX12_lawful_195 : decode cX12_lawful 195 = .ok (.ifCond .le 16, 3) := by decide +kernel
theorem dX12_lawful_198 : decode cX12_lawful 198 = .ok (.aload_n 0, 1) := by decide +kernel
theorem dX12_lawful_199 : decode cX12_lawful 199 = .ok (.getfield 105, 3) := by decide +kernel
theorem dX12_lawful_202 : decode cX12_lawful 202 = .ok (.iload_n 2, 1) := by decide +kernel
theorem dX12_lawful_203 : decode cX12_lawful 203 = .ok (.dup2, 1) := by decide +kernel
theorem dX12_lawful_204 : decode cX12_lawful 204 = .ok (.iaload, 1) := by decide +kernel
theorem dX12_lawful_205 : decode cX12_lawful 205 = .ok (.iconst 1, 1) := by decide +kernel
theorem dX12_lawful_206 : decode cX12_lawful 206 = .ok (.iadd, 1) := by decide +kernel
theorem dX12_lawful_207 : decode cX12_lawful 207 = .ok (.iastore, 1) := by decide +kernel
theorem dX12_lawful_208 : decode cX12_lawful 208 = .ok (.goto (-46), 3) := by decide +kernel
theorem dX12_lawful_211 : decode cX12_lawful 211 = .ok (.aload_n 0, 1) := by decide +kernel
theorem dX12_lawful_212 : decode cX12_lawful 212 = .ok (.getfield 105, 3) := by decide +kernel
theorem dX12_lawful_215 : decode cX12_lawful 215 = .ok (.iload_n 2, 1) := by decide +kernel
theorem dX12_lawful_216 : decode cX12_lawful 216 = .ok (.iaload, 1) := by decide +kernel
theorem dX12_lawful_217 : decode cX12_lawful 217 = .ok (.iconst 3, 1) := by decide +kernel
theorem dX12_lawful_218 : decode cX12_lawful 218 = .ok (.if_icmp .ne 9, 3) := by decide +kernel
theorem dX12_lawful_221 : decode cX12_lawful 221 = .ok (.iinc 2 (-1), 3) := by decide +kernel
theorem dX12_lawful_224 : decode cX12_lawful 224 = .ok (.goto (-178), 3) := by decide +kernel
theorem dX12_lawful_227 : decode cX12_lawful 227 = .ok (.aload_n 0, 1) := by decide +kernel
theorem dX12_lawful_228 : decode cX12_lawful 228 = .ok (.getfield 105, 3) := by decide +kernel
theorem dX12_lawful_231 : decode cX12_lawful 231 = .ok (.iload_n 2, 1) := by decide +kernel
theorem dX12_lawful_232 : decode cX12_lawful 232 = .ok (.iaload, 1) := by decide +kernel
theorem dX12_lawful_233 : decode cX12_lawful 233 = .ok (.ifCond .le 35, 3) := by decide +kernel
theorem dX12_lawful_236 : decode cX12_lawful 236 = .ok (.aload_n 0, 1) := by decide +kernel
theorem dX12_lawful_237 : decode cX12_lawful 237 = .ok (.iload 4, 2) := by decide +kernel
theorem dX12_lawful_239 : decode cX12_lawful 239 = .ok (.aload_n 0, 1) := by decide +kernel
theorem dX12_lawful_240 : decode cX12_lawful 240 = .ok (.getfield 105, 3) := by decide +kernel
theorem dX12_lawful_243 : decode cX12_lawful 243 = .ok (.iload_n 2, 1) := by decide +kernel
theorem dX12_lawful_244 : decode cX12_lawful 244 = .ok (.iaload, 1) := by decide +kernel
theorem dX12_lawful_245 : decode cX12_lawful 245 = .ok (.iconst 1, 1) := by decide +kernel
theorem dX12_lawful_246 : decode cX12_lawful 246 = .ok (.isub, 1) := by decide +kernel
theorem dX12_lawful_247 : decode cX12_lawful 247 = .ok (.invokevirtual 295, 3) := by decide +kernel
theorem dX12_lawful_250 : decode cX12_lawful 250 = .ok (.iload_n 3, 1) := by decide +kernel
theorem dX12_lawful_251 : decode cX12_lawful 251 = .ok (.aload_n 0, 1) := by decide +kernel
theorem dX12_lawful_252 : decode cX12_lawful 252 = .ok (.iload 4, 2) := by decide +kernel
theorem dX12_lawful_254 : decode cX12_lawful 254 = .ok (.iconst 3, 1) := by decide +kernel
theorem dX12_lawful_255 : decode cX12_lawful 255 = .ok (.invokevirtual 266, 3) := by decide +kernel
theorem dX12_lawful_258 : decode cX12_lawful 258 = .ok (.aload_n 0, 1) := by decide +kernel
theorem dX12_lawful_259 : decode cX12_lawful 259 = .ok (.iload 4, 2) := by decide +kernel
theorem dX12_lawful_261 : decode cX12_lawful 261 = .ok (.iconst 4, 1) := by decide +kernel
theorem dX12_lawful_262 : decode cX12_lawful 262 = .ok (.invokevirtual 266, 3) := by decide +kernel
theorem dX12_lawful_265 : decode cX12_lawful 265 = .ok (.iadd, 1) := by decide +kernel
theorem dX12_lawful_266 : decode cX12_lawful 266 = .ok (.iadd, 1) := by decide +kernel
theorem dX12_lawful_267 : decode cX12_lawful 267 = .ok (.istore_n 3, 1) := by decide +kernel
theorem dX12_lawful_268 : decode cX12_lawful 268 = .ok (.iinc 2 1, 3) := by decide +kernel
theorem dX12_lawful_271 : decode cX12_lawful 271 = .ok (.iload_n 2, 1) := by decide +kernel
theorem dX12_lawful_272 : decode cX12_lawful 272 = .ok (.aload_n 0, 1) := by decide +kernel
theorem dX12_lawful_273 : decode cX12_lawful 273 = .ok (.getfield 33, 3) := by decide +kernel
theorem dX12_lawful_276 : decode cX12_lawful 276 = .ok (.iconst 1, 1) := by decide +kernel
theorem dX12_lawful_277 : decode cX12_lawful 277 = .ok (.iaload, 1) := by decide +kernel
theorem dX12_lawful_278 : decode cX12_lawful 278 = .ok (.if_icmp .ge 10, 3) := by decide +kernel
theorem dX12_lawful_281 : decode cX12_lawful 281 = .ok (.aload_n 0, 1) := by decide +kernel
theorem dX12_lawful_282 : decode cX12_lawful 282 = .ok (.getfield 105, 3) := by decide +kernel
theorem dX12_lawful_285 : decode cX12_lawful 285 = .ok (.iload_n 2, 1) := by decide +kernel
theorem dX12_lawful_286 : decode cX12_lawful 286 = .ok (.iconst (-1), 1) := by decide +kernel
theorem dX12_lawful_287 : decode cX12_lawful 287 = .ok (.iastore, 1) := by decide +kernel
theorem dX12_lawful_288 : decode cX12_lawful 288 = .ok (.goto (-242), 3) := by decide +kernel
theorem dX12_lawful_291 : decode cX12_lawful 291 = .ok (.aload_n 0, 1) := by decide +kernel
theorem dX12_lawful_292 : decode cX12_lawful 292 = .ok (.invokevirtual 380, 3) := by decide +kernel
theorem dX12_lawful_295 : decode cX12_lawful 295 = .ok (.aload_n 0, 1) := by decide +kernel
theorem dX12_lawful_296 : decode cX12_lawful 296 = .ok (.aload_n 0, 1) := by decide +kernel
theorem dX12_lawful_297 : decode cX12_lawful 297 = .ok (.getfield 33, 3) := by decide +kernel
theorem dX12_lawful_300 : decode cX12_lawful 300 = .ok (.iconst 1, 1) := by decide +kernel
theorem dX12_lawful_301 : decode cX12_lawful 301 = .ok (.iaload, 1) := by decide +kernel
theorem dX12_lawful_302 : decode cX12_lawful 302 = .ok (.putfield 111, 3) := by decide +kernel
theorem dX12_lawful_305 : decode cX12_lawful 305 = .ok (.iload_n 1, 1) := by decide +kernel
theorem dX12_lawful_306 : decode cX12_lawful 306 = .ok (.ireturn, 1) := by decide +kernel
theorem dX12_lawfulBy_0 : decode cX12_lawfulBy 0 = .ok (.aload_n 0, 1) := by decide +kernel
theorem dX12_lawfulBy_1 : decode cX12_lawfulBy 1 = .ok (.iconst 0, 1) := by decide +kernel
theorem dX12_lawfulBy_2 : decode cX12_lawfulBy 2 = .ok (.putfield 1, 3) := by decide +kernel
theorem dX12_lawfulBy_5 : decode cX12_lawfulBy 5 = .ok (.iload_n 1, 1) := by decide +kernel
theorem dX12_lawfulBy_6 : decode cX12_lawfulBy 6 = .ok (.iconst 0, 1) := by decide +kernel
theorem dX12_lawfulBy_7 : decode cX12_lawfulBy 7 = .ok (.aload_n 0, 1) := by decide +kernel
theorem dX12_lawfulBy_8 : decode cX12_lawfulBy 8 = .ok (.getfield 111, 3) := by decide +kernel
theorem dX12_lawfulBy_11 : decode cX12_lawfulBy 11 = .ok (.iconst 1, 1) := by decide +kernel
theorem dX12_lawfulBy_12 : decode cX12_lawfulBy 12 = .ok (.isub, 1) := by decide +kernel
theorem dX12_lawfulBy_13 : decode cX12_lawfulBy 13 = .ok (.invokestatic 197, 3) := by decide +kernel
theorem dX12_lawfulBy_16 : decode cX12_lawfulBy 16 = .ok (.ifCond .eq 12, 3) := by decide +kernel
theorem dX12_lawfulBy_19 : decode cX12_lawfulBy 19 = .ok (.aload_n 0, 1) := by decide +kernel
theorem dX12_lawfulBy_20 : decode cX12_lawfulBy 20 = .ok (.getfield 108, 3) := by decide +kernel
theorem dX12_lawfulBy_23 : decode cX12_lawfulBy 23 = .ok (.iload_n 1, 1) := by decide +kernel
theorem dX12_lawfulBy_24 : decode cX12_lawfulBy 24 = .ok (.iaload, 1) := by decide +kernel
theorem dX12_lawfulBy_25 : decode cX12_lawfulBy 25 = .ok (.goto 4, 3) := by decide +kernel
theorem dX12_lawfulBy_28 : decode cX12_lawfulBy 28 = .ok (.iconst (-1), 1) := by decide +kernel
theorem dX12_lawfulBy_29 : decode cX12_lawfulBy 29 = .ok (.ireturn, 1) := by decide +kernel
theorem dX12_isServed_0 : decode cX12_isServed 0 = .ok (.iconst 0, 1) := by decide +kernel
theorem dX12_isServed_1 : decode cX12_isServed 1 = .ok (.istore_n 2, 1) := by decide +kernel
theorem dX12_isServed_2 : decode cX12_isServed 2 = .ok (.iconst 0, 1) := by decide +kernel
theorem dX12_isServed_3 : decode cX12_isServed 3 = .ok (.istore_n 3, 1) := by decide +kernel
theorem dX12_isServed_4 : decode cX12_isServed 4 = .ok (.iconst 0, 1) := by decide +kernel
theorem dX12_isServed_5 : decode cX12_isServed 5 = .ok (.istore 4, 2) := by decide +kernel
theorem dX12_isServed_7 : decode cX12_isServed 7 = .ok (.iload 4, 2) := by decide +kernel
theorem dX12_isServed_9 : decode cX12_isServed 9 = .ok (.aload_n 0, 1) := by decide +kernel
theorem dX12_isServed_10 : decode cX12_isServed 10 = .ok (.getfield 33, 3) := by decide +kernel
theorem dX12_isServed_13 : decode cX12_isServed 13 = .ok (.iconst 1, 1) := by decide +kernel
theorem dX12_isServed_14 : decode cX12_isServed 14 = .ok (.iaload, 1) := by decide +kernel
theorem dX12_isServed_15 : decode cX12_isServed 15 = .ok (.if_icmp .ge 94, 3) := by decide +kernel
theorem dX12_isServed_18 : decode cX12_isServed 18 = .ok (.iload_n 2, 1) := by decide +kernel
theorem dX12_isServed_19 : decode cX12_isServed 19 = .ok (.iconst 1, 1) := by decide +kernel
theorem dX12_isServed_20 : decode cX12_isServed 20 = .ok (.aload_n 0, 1) := by decide +kernel
theorem dX12_isServed_21 : decode cX12_isServed 21 = .ok (.iload 4, 2) := by decide +kernel
theorem dX12_isServed_23 : decode cX12_isServed 23 = .ok (.iconst 0, 1) := by decide +kernel
theorem dX12_isServed_24 : decode cX12_isServed 24 = .ok (.invokevirtual 266, 3) := by decide +kernel
theorem dX12_isServed_27 : decode cX12_isServed 27 = .ok (.ishl, 1) := by decide +kernel
theorem dX12_isServed_28 : decode cX12_isServed 28 = .ok (.iconst 1, 1) := by decide +kernel
theorem dX12_isServed_29 : decode cX12_isServed 29 = .ok (.aload_n 0, 1) := by decide +kernel
theorem dX12_isServed_30 : decode cX12_isServed 30 = .ok (.iload 4, 2) := by decide +kernel
theorem dX12_isServed_32 : decode cX12_isServed 32 = .ok (.iconst 1, 1) := by decide +kernel
theorem dX12_isServed_33 : decode cX12_isServed 33 = .ok (.invokevirtual 266, 3) := by decide +kernel
theorem dX12_isServed_36 : decode cX12_isServed 36 = .ok (.ishl, 1) := by decide +kernel
theorem dX12_isServed_37 : decode cX12_isServed 37 = .ok (.ior, 1) := by decide +kernel
theorem dX12_isServed_38 : decode cX12_isServed 38 = .ok (.ior, 1) := by decide +kernel
theorem dX12_isServed_39 : decode cX12_isServed 39 = .ok (.istore_n 2, 1) := by decide +kernel
theorem dX12_isServed_40 : decode cX12_isServed 40 = .ok (.iload_n 1, 1) := by decide +kernel
theorem dX12_isServed_41 : decode cX12_isServed 41 = .ok (.aload_n 0, 1) := by decide +kernel
theorem dX12_isServed_42 : decode cX12_isServed 42 = .ok (.iload 4, 2) := by decide +kernel
theorem dX12_isServed_44 : decode cX12_isServed 44 = .ok (.iconst 0, 1) := by decide +kernel
theorem dX12_isServed_45 : decode cX12_isServed 45 = .ok (.invokevirtual 266, 3) := by decide +kernel
theorem dX12_isServed_48 : decode cX12_isServed 48 = .ok (.invokestatic 235, 3) := by decide +kernel
theorem dX12_isServed_51 : decode cX12_isServed 51 = .ok (.ifCond .eq 15, 3) := by decide +kernel
theorem dX12_isServed_54 : decode cX12_isServed 54 = .ok (.iload_n 3, 1) := by decide +kernel
theorem dX12_isServed_55 : decode cX12_isServed 55 = .ok (.iconst 1, 1) := by decide +kernel
theorem dX12_isServed_56 : decode cX12_isServed 56 = .ok (.aload_n 0, 1) := by decide +kernel
theorem dX12_isServed_57 : decode cX12_isServed 57 = .ok (.iload 4, 2) := by decide +kernel
theorem dX12_isServed_59 : decode cX12_isServed 59 = .ok (.iconst 1, 1) := by decide +kernel
theorem dX12_isServed_60 : decode cX12_isServed 60 = .ok (.invokevirtual 266, 3) := by decide +kernel
theorem dX12_isServed_63 : decode cX12_isServed 63 = .ok (.ishl, 1) := by decide +kernel
theorem dX12_isServed_64 : decode cX12_isServed 64 = .ok (.ior, 1) := by decide +kernel
theorem dX12_isServed_65 : decode cX12_isServed 65 = .ok (.istore_n 3, 1) := by decide +kernel
theorem dX12_isServed_66 : decode cX12_isServed 66 = .ok (.aload_n 0, 1) := by decide +kernel
theorem dX12_isServed_67 : decode cX12_isServed 67 = .ok (.iload 4, 2) := by decide +kernel
theorem dX12_isServed_69 : decode cX12_isServed 69 = .ok (.iconst 5, 1) := by decide +kernel
theorem dX12_isServed_70 : decode cX12_isServed 70 = .ok (.invokevirtual 266, 3) := by decide +kernel
theorem dX12_isServed_73 : decode cX12_isServed 73 = .ok (.iconst 1, 1) := by decide +kernel
theorem dX12_isServed_74 : decode cX12_isServed 74 = .ok (.if_icmp .ne 29, 3) := by decide +kernel
theorem dX12_isServed_77 : decode cX12_isServed 77 = .ok (.iload_n 1, 1) := by decide +kernel
theorem dX12_isServed_78 : decode cX12_isServed 78 = .ok (.aload_n 0, 1) := by decide +kernel
theorem dX12_isServed_79 : decode cX12_isServed 79 = .ok (.iload 4, 2) := by decide +kernel
theorem dX12_isServed_81 : decode cX12_isServed 81 = .ok (.iconst 1, 1) := by decide +kernel
theorem dX12_isServed_82 : decode cX12_isServed 82 = .ok (.invokevirtual 266, 3) := by decide +kernel
theorem dX12_isServed_85 : decode cX12_isServed 85 = .ok (.invokestatic 235, 3) := by decide +kernel
theorem dX12_isServed_88 : decode cX12_isServed 88 = .ok (.ifCond .eq 15, 3) := by decide +kernel
theorem dX12_isServed_91 : decode cX12_isServed 91 = .ok (.iload_n 3, 1) := by decide +kernel
theorem dX12_isServed_92 : decode cX12_isServed 92 = .ok (.iconst 1, 1) := by decide +kernel
theorem dX12_isServed_93 : decode cX12_isServed 93 = .ok (.aload_n 0, 1) := by decide +kernel
theorem dX12_isServed_94 : decode cX12_isServed 94 = .ok (.iload 4, 2) := by decide +kernel
theorem dX12_isServed_96 : decode cX12_isServed 96 = .ok (.iconst 0, 1) := by decide +kernel
theorem dX12_isServed_97 : decode cX12_isServed 97 = .ok (.invokevirtual 266, 3) := by decide +kernel
theorem dX12_isServed_100 : decode cX12_isServed 100 = .ok (.ishl, 1) := by decide +kernel
theorem dX12_isServed_101 : decode cX12_isServed 101 = .ok (.ior, 1) := by decide +kernel
theorem dX12_isServed_102 : decode cX12_isServed 102 = .ok (.istore_n 3, 1) := by decide +kernel
theorem dX12_isServed_103 : decode cX12_isServed 103 = .ok (.iinc 4 1, 3) := by decide +kernel
theorem dX12_isServed_106 : decode cX12_isServed 106 = .ok (.goto (-99), 3) := by decide +kernel
theorem dX12_isServed_109 : decode cX12_isServed 109 = .ok (.iload_n 1, 1) := by decide +kernel
theorem dX12_isServed_110 : decode cX12_isServed 110 = .ok (.iload_n 2, 1) := by decide +kernel
theorem dX12_isServed_111 : decode cX12_isServed 111 = .ok (.iconst (-1), 1) := by decide +kernel
theorem dX12_isServed_112 : decode cX12_isServed 112 = .ok (.ixor, 1) := by decide +kernel
theorem dX12_isServed_113 : decode cX12_isServed 113 = .ok (.iand, 1) := by decide +kernel
theorem dX12_isServed_114 : decode cX12_isServed 114 = .ok (.ifCond .ne 19, 3) := by decide +kernel
theorem dX12_isServed_117 : decode cX12_isServed 117 = .ok (.iload_n 2, 1) := by decide +kernel
theorem dX12_isServed_118 : decode cX12_isServed 118 = .ok (.iload_n 1, 1) := by decide +kernel
theorem dX12_isServed_119 : decode cX12_isServed 119 = .ok (.iconst (-1), 1) := by decide +kernel
theorem dX12_isServed_120 : decode cX12_isServed 120 = .ok (.ixor, 1) := by decide +kernel
theorem dX12_isServed_121 : decode cX12_isServed 121 = .ok (.iand, 1) := by decide +kernel
theorem dX12_isServed_122 : decode cX12_isServed 122 = .ok (.iload_n 3, 1) := by decide +kernel
theorem dX12_isServed_123 : decode cX12_isServed 123 = .ok (.iconst (-1), 1) := by decide +kernel
theorem dX12_isServed_124 : decode cX12_isServed 124 = .ok (.ixor, 1) := by decide +kernel
theorem dX12_isServed_125 : decode cX12_isServed 125 = .ok (.iand, 1) := by decide +kernel
theorem dX12_isServed_126 : decode cX12_isServed 126 = .ok (.ifCond .ne 7, 3) := by decide +kernel
theorem dX12_isServed_129 : decode cX12_isServed 129 = .ok (.iconst 1, 1) := by decide +kernel
theorem dX12_isServed_130 : decode cX12_isServed 130 = .ok (.goto 4, 3) := by decide +kernel
theorem dX12_isServed_133 : decode cX12_isServed 133 = .ok (.iconst 0, 1) := by decide +kernel
theorem dX12_isServed_134 : decode cX12_isServed 134 = .ok (.ireturn, 1) := by decide +kernel
theorem dX12_fewest_0 : decode cX12_fewest 0 = .ok (.aload_n 0, 1) := by decide +kernel
theorem dX12_fewest_1 : decode cX12_fewest 1 = .ok (.iconst 0, 1) := by decide +kernel
theorem dX12_fewest_2 : decode cX12_fewest 2 = .ok (.putfield 1, 3) := by decide +kernel
theorem dX12_fewest_5 : decode cX12_fewest 5 = .ok (.iconst (-1), 1) := by decide +kernel
theorem dX12_fewest_6 : decode cX12_fewest 6 = .ok (.istore_n 1, 1) := by decide +kernel
theorem dX12_fewest_7 : decode cX12_fewest 7 = .ok (.iconst 0, 1) := by decide +kernel
theorem dX12_fewest_8 : decode cX12_fewest 8 = .ok (.istore_n 2, 1) := by decide +kernel
theorem dX12_fewest_9 : decode cX12_fewest 9 = .ok (.iload_n 2, 1) := by decide +kernel
theorem dX12_fewest_10 : decode cX12_fewest 10 = .ok (.iconst 1, 1) := by decide +kernel
theorem dX12_fewest_11 : decode cX12_fewest 11 = .ok (.aload_n 0, 1) := by decide +kernel
theorem dX12_fewest_12 : decode cX12_fewest 12 = .ok (.getfield 33, 3) := by decide +kernel
theorem dX12_fewest_15 : decode cX12_fewest 15 = .ok (.iconst 0, 1) := by decide +kernel
theorem dX12_fewest_16 : decode cX12_fewest 16 = .ok (.iaload, 1) := by decide +kernel
theorem dX12_fewest_17 : decode cX12_fewest 17 = .ok (.ishl, 1) := by decide +kernel
theorem dX12_fewest_18 : decode cX12_fewest 18 = .ok (.if_icmp .ge 34, 3) := by decide +kernel
theorem dX12_fewest_21 : decode cX12_fewest 21 = .ok (.iload_n 1, 1) := by decide +kernel
theorem dX12_fewest_22 : decode cX12_fewest 22 = .ok (.ifCond .lt 14, 3) := by decide +kernel
theorem dX12_fewest_25 : decode cX12_fewest 25 = .ok (.iload_n 2, 1) := by decide +kernel
theorem dX12_fewest_26 : decode cX12_fewest 26 = .ok (.invokestatic 383, 3) := by decide +kernel
theorem dX12_fewest_29 : decode cX12_fewest 29 = .ok (.iload_n 1, 1) := by decide +kernel
theorem dX12_fewest_30 : decode cX12_fewest 30 = .ok (.invokestatic 383, 3) := by decide +kernel
theorem dX12_fewest_33 : decode cX12_fewest 33 = .ok (.if_icmp .ge 13, 3) := by decide +kernel
theorem dX12_fewest_36 : decode cX12_fewest 36 = .ok (.aload_n 0, 1) := by decide +kernel
theorem dX12_fewest_37 : decode cX12_fewest 37 = .ok (.iload_n 2, 1) := by decide +kernel
theorem dX12_fewest_38 : decode cX12_fewest 38 = .ok (.invokevirtual 386, 3) := by decide +kernel
theorem dX12_fewest_41 : decode cX12_fewest 41 = .ok (.ifCond .eq 5, 3) := by decide +kernel
theorem dX12_fewest_44 : decode cX12_fewest 44 = .ok (.iload_n 2, 1) := by decide +kernel
theorem dX12_fewest_45 : decode cX12_fewest 45 = .ok (.istore_n 1, 1) := by decide +kernel
theorem dX12_fewest_46 : decode cX12_fewest 46 = .ok (.iinc 2 1, 3) := by decide +kernel
theorem dX12_fewest_49 : decode cX12_fewest 49 = .ok (.goto (-40), 3) := by decide +kernel
theorem dX12_fewest_52 : decode cX12_fewest 52 = .ok (.iload_n 1, 1) := by decide +kernel
theorem dX12_fewest_53 : decode cX12_fewest 53 = .ok (.ireturn, 1) := by decide +kernel
theorem dX12_takesPairs_0 : decode cX12_takesPairs 0 = .ok (.aload_n 0, 1) := by decide +kernel
theorem dX12_takesPairs_1 : decode cX12_takesPairs 1 = .ok (.sipush 940, 3) := by decide +kernel
theorem dX12_takesPairs_4 : decode cX12_takesPairs 4 = .ok (.invokevirtual 244, 3) := by decide +kernel
theorem dX12_takesPairs_7 : decode cX12_takesPairs 7 = .ok (.aload_n 0, 1) := by decide +kernel
theorem dX12_takesPairs_8 : decode cX12_takesPairs 8 = .ok (.getfield 18, 3) := by decide +kernel
theorem dX12_takesPairs_11 : decode cX12_takesPairs 11 = .ok (.iconst 2, 1) := by decide +kernel
theorem dX12_takesPairs_12 : decode cX12_takesPairs 12 = .ok (.irem, 1) := by decide +kernel
theorem dX12_takesPairs_13 : decode cX12_takesPairs 13 = .ok (.iconst 1, 1) := by decide +kernel
theorem dX12_takesPairs_14 : decode cX12_takesPairs 14 = .ok (.if_icmp .eq 12, 3) := by decide +kernel
theorem dX12_takesPairs_17 : decode cX12_takesPairs 17 = .ok (.aload_n 0, 1) := by decide +kernel
theorem dX12_takesPairs_18 : decode cX12_takesPairs 18 = .ok (.getfield 18, 3) := by decide +kernel
theorem dX12_takesPairs_21 : decode cX12_takesPairs 21 = .ok (.bipush 40, 2) := by decide +kernel
theorem dX12_takesPairs_23 : decode cX12_takesPairs 23 = .ok (.if_icmp .le 5, 3) := by decide +kernel
theorem dX12_takesPairs_26 : decode cX12_takesPairs 26 = .ok (.iconst 0, 1) := by decide +kernel
theorem dX12_takesPairs_27 : decode cX12_takesPairs 27 = .ok (.ireturn, 1) := by decide +kernel
theorem dX12_takesPairs_28 : decode cX12_takesPairs 28 = .ok (.aload_n 0, 1) := by decide +kernel
theorem dX12_takesPairs_29 : decode cX12_takesPairs 29 = .ok (.aload_n 0, 1) := by decide +kernel
theorem dX12_takesPairs_30 : decode cX12_takesPairs 30 = .ok (.getfield 18, 3) := by decide +kernel
theorem dX12_takesPairs_33 : decode cX12_takesPairs 33 = .ok (.iconst 2, 1) := by decide +kernel
theorem dX12_takesPairs_34 : decode cX12_takesPairs 34 = .ok (.idiv, 1) := by decide +kernel
theorem dX12_takesPairs_35 : decode cX12_takesPairs 35 = .ok (.putfield 389, 3) := by decide +kernel
theorem dX12_takesPairs_38 : decode cX12_takesPairs 38 = .ok (.aload_n 0, 1) := by decide +kernel
theorem dX12_takesPairs_39 : decode cX12_takesPairs 39 = .ok (.iconst 0, 1) := by decide +kernel
theorem dX12_takesPairs_40 : decode cX12_takesPairs 40 = .ok (.putfield 392, 3) := by decide +kernel
theorem dX12_takesPairs_43 : decode cX12_takesPairs 43 = .ok (.iconst 0, 1) := by decide +kernel
theorem dX12_takesPairs_44 : decode cX12_takesPairs 44 = .ok (.istore_n 1, 1) := by decide +kernel
theorem dX12_takesPairs_45 : decode cX12_takesPairs 45 = .ok (.iload_n 1, 1) := by decide +kernel
theorem dX12_takesPairs_46 : decode cX12_takesPairs 46 = .ok (.aload_n 0, 1) := by decide +kernel
theorem dX12_takesPairs_47 : decode cX12_takesPairs 47 = .ok (.getfield 389, 3) := by decide +kernel
theorem dX12_takesPairs_50 : decode cX12_takesPairs 50 = .ok (.if_icmp .ge 90, 3) := by decide +kernel
theorem dX12_takesPairs_53 : decode cX12_takesPairs 53 = .ok (.aload_n 0, 1) := by decide +kernel
theorem dX12_takesPairs_54 : decode cX12_takesPairs 54 = .ok (.aload_n 0, 1) := by decide +kernel
theorem dX12_takesPairs_55 : decode cX12_takesPairs 55 = .ok (.iconst 2, 1) := by decide +kernel
theorem dX12_takesPairs_56 : decode cX12_takesPairs 56 = .ok (.iload_n 1, 1) := by decide +kernel
theorem dX12_takesPairs_57 : decode cX12_takesPairs 57 = .ok (.imul, 1) := by decide +kernel
theorem dX12_takesPairs_58 : decode cX12_takesPairs 58 = .ok (.invokevirtual 395, 3) := by decide +kernel
theorem dX12_takesPairs_61 : decode cX12_takesPairs 61 = .ok (.invokevirtual 256, 3) := by decide +kernel
theorem dX12_takesPairs_64 : decode cX12_takesPairs 64 = .ok (.ifCond .eq 38, 3) := by decide +kernel
theorem dX12_takesPairs_67 : decode cX12_takesPairs 67 = .ok (.aload_n 0, 1) := by decide +kernel
theorem dX12_takesPairs_68 : decode cX12_takesPairs 68 = .ok (.aload_n 0, 1) := by decide +kernel
theorem dX12_takesPairs_69 : decode cX12_takesPairs 69 = .ok (.iconst 2, 1) := by decide +kernel
theorem dX12_takesPairs_70 : decode cX12_takesPairs 70 = .ok (.iload_n 1, 1) := by decide +kernel
theorem dX12_takesPairs_71 : decode cX12_takesPairs 71 = .ok (.imul, 1) := by decide +kernel
theorem dX12_takesPairs_72 : decode cX12_takesPairs 72 = .ok (.iconst 1, 1) := by decide +kernel
theorem dX12_takesPairs_73 : decode cX12_takesPairs 73 = .ok (.iadd, 1) := by decide +kernel
theorem dX12_takesPairs_74 : decode cX12_takesPairs 74 = .ok (.invokevirtual 395, 3) := by decide +kernel
theorem dX12_takesPairs_77 : decode cX12_takesPairs 77 = .ok (.invokevirtual 256, 3) := by decide +kernel
theorem dX12_takesPairs_80 : decode cX12_takesPairs 80 = .ok (.ifCond .eq 22, 3) := by decide +kernel
theorem dX12_takesPairs_83 : decode cX12_takesPairs 83 = .ok (.aload_n 0, 1) := by decide +kernel
theorem dX12_takesPairs_84 : decode cX12_takesPairs 84 = .ok (.iconst 2, 1) := by decide +kernel
theorem dX12_takesPairs_85 : decode cX12_takesPairs 85 = .ok (.iload_n 1, 1) := by decide +kernel
theorem dX12_takesPairs_86 : decode cX12_takesPairs 86 = .ok (.imul, 1) := by decide +kernel
theorem dX12_takesPairs_87 : decode cX12_takesPairs 87 = .ok (.invokevirtual 395, 3) := by decide +kernel
theorem dX12_takesPairs_90 : decode cX12_takesPairs 90 = .ok (.aload_n 0, 1) := by decide +kernel
theorem dX12_takesPairs_91 : decode cX12_takesPairs 91 = .ok (.iconst 2, 1) := by decide +kernel
theorem dX12_takesPairs_92 : decode cX12_takesPairs 92 = .ok (.iload_n 1, 1) := by decide +kernel
theorem dX12_takesPairs_93 : decode cX12_takesPairs 93 = .ok (.imul, 1) := by decide +kernel
theorem dX12_takesPairs_94 : decode cX12_takesPairs 94 = .ok (.iconst 1, 1) := by decide +kernel
theorem dX12_takesPairs_95 : decode cX12_takesPairs 95 = .ok (.iadd, 1) := by decide +kernel
theorem dX12_takesPairs_96 : decode cX12_takesPairs 96 = .ok (.invokevirtual 395, 3) := by decide +kernel
theorem dX12_takesPairs_99 : decode cX12_takesPairs 99 = .ok (.if_icmp .ne 5, 3) := by decide +kernel
theorem dX12_takesPairs_102 : decode cX12_takesPairs 102 = .ok (.iconst 0, 1) := by decide +kernel
theorem dX12_takesPairs_103 : decode cX12_takesPairs 103 = .ok (.ireturn, 1) := by decide +kernel
theorem dX12_takesPairs_104 : decode cX12_takesPairs 104 = .ok (.aload_n 0, 1) := by decide +kernel
theorem dX12_takesPairs_105 : decode cX12_takesPairs 105 = .ok (.dup, 1) := by decide +kernel
theorem dX12_takesPairs_106 : decode cX12_takesPairs 106 = .ok (.getfield 392, 3) := by decide +kernel
theorem dX12_takesPairs_109 : decode cX12_takesPairs 109 = .ok (.iconst 1, 1) := by decide +kernel
theorem dX12_takesPairs_110 : decode cX12_takesPairs 110 = .ok (.aload_n 0, 1) := by decide +kernel
theorem dX12_takesPairs_111 : decode cX12_takesPairs 111 = .ok (.iconst 2, 1) := by decide +kernel
theorem dX12_takesPairs_112 : decode cX12_takesPairs 112 = .ok (.iload_n 1, 1) := by decide +kernel
theorem dX12_takesPairs_113 : decode cX12_takesPairs 113 = .ok (.imul, 1) := by decide +kernel
theorem dX12_takesPairs_114 : decode cX12_takesPairs 114 = .ok (.invokevirtual 395, 3) := by decide +kernel
theorem dX12_takesPairs_117 : decode cX12_takesPairs 117 = .ok (.ishl, 1) := by decide +kernel
theorem dX12_takesPairs_118 : decode cX12_takesPairs 118 = .ok (.iconst 1, 1) := by decide +kernel
theorem dX12_takesPairs_119 : decode cX12_takesPairs 119 = .ok (.aload_n 0, 1) := by decide +kernel
theorem dX12_takesPairs_120 : decode cX12_takesPairs 120 = .ok (.iconst 2, 1) := by decide +kernel
theorem dX12_takesPairs_121 : decode cX12_takesPairs 121 = .ok (.iload_n 1, 1) := by decide +kernel
theorem dX12_takesPairs_122 : decode cX12_takesPairs 122 = .ok (.imul, 1) := by decide +kernel
theorem dX12_takesPairs_123 : decode cX12_takesPairs 123 = .ok (.iconst 1, 1) := by decide +kernel
theorem dX12_takesPairs_124 : decode cX12_takesPairs 124 = .ok (.iadd, 1) := by decide +kernel
theorem dX12_takesPairs_125 : decode cX12_takesPairs 125 = .ok (.invokevirtual 395, 3) := by decide +kernel
theorem dX12_takesPairs_128 : decode cX12_takesPairs 128 = .ok (.ishl, 1) := by decide +kernel
theorem dX12_takesPairs_129 : decode cX12_takesPairs 129 = .ok (.ior, 1) := by decide +kernel
theorem dX12_takesPairs_130 : decode cX12_takesPairs 130 = .ok (.ior, 1) := by decide +kernel
theorem dX12_takesPairs_131 : decode cX12_takesPairs 131 = .ok (.putfield 392, 3) := by decide +kernel
theorem dX12_takesPairs_134 : decode cX12_takesPairs 134 = .ok (.iinc 1 1, 3) := by decide +kernel
theorem dX12_takesPairs_137 : decode cX12_takesPairs 137 = .ok (.goto (-92), 3) := by decide +kernel
theorem dX12_takesPairs_140 : decode cX12_takesPairs 140 = .ok (.iconst 1, 1) := by decide +kernel
theorem dX12_takesPairs_141 : decode cX12_takesPairs 141 = .ok (.ireturn, 1) := by decide +kernel
theorem dX12_clashes_0 : decode cX12_clashes 0 = .ok (.iconst 0, 1) := by decide +kernel
theorem dX12_clashes_1 : decode cX12_clashes 1 = .ok (.istore_n 2, 1) := by decide +kernel
theorem dX12_clashes_2 : decode cX12_clashes 2 = .ok (.iconst 0, 1) := by decide +kernel
theorem dX12_clashes_3 : decode cX12_clashes 3 = .ok (.istore_n 3, 1) := by decide +kernel
theorem dX12_clashes_4 : decode cX12_clashes 4 = .ok (.iload_n 3, 1) := by decide +kernel
theorem dX12_clashes_5 : decode cX12_clashes 5 = .ok (.aload_n 0, 1) := by decide +kernel
theorem dX12_clashes_6 : decode cX12_clashes 6 = .ok (.getfield 389, 3) := by decide +kernel
theorem dX12_clashes_9 : decode cX12_clashes 9 = .ok (.if_icmp .ge 46, 3) := by decide +kernel
theorem dX12_clashes_12 : decode cX12_clashes 12 = .ok (.iload_n 2, 1) := by decide +kernel
theorem dX12_clashes_13 : decode cX12_clashes 13 = .ok (.iload_n 1, 1) := by decide +kernel
theorem dX12_clashes_14 : decode cX12_clashes 14 = .ok (.aload_n 0, 1) := by decide +kernel
theorem dX12_clashes_15 : decode cX12_clashes 15 = .ok (.iconst 2, 1) := by decide +kernel
theorem dX12_clashes_16 : decode cX12_clashes 16 = .ok (.iload_n 3, 1) := by decide +kernel
theorem dX12_clashes_17 : decode cX12_clashes 17 = .ok (.imul, 1) := by decide +kernel
theorem dX12_clashes_18 : decode cX12_clashes 18 = .ok (.invokevirtual 395, 3) := by decide +kernel
theorem dX12_clashes_21 : decode cX12_clashes 21 = .ok (.invokestatic 235, 3) := by decide +kernel
theorem dX12_clashes_24 : decode cX12_clashes 24 = .ok (.iload_n 1, 1) := by decide +kernel
theorem dX12_clashes_25 : decode cX12_clashes 25 = .ok (.aload_n 0, 1) := by decide +kernel
theorem dX12_clashes_26 : decode cX12_clashes 26 = .ok (.iconst 2, 1) := by decide +kernel
theorem dX12_clashes_27 : decode cX12_clashes 27 = .ok (.iload_n 3, 1) := by decide +kernel
theorem dX12_clashes_28 : decode cX12_clashes 28 = .ok (.imul, 1) := by decide +kernel
theorem dX12_clashes_29 : decode cX12_clashes 29 = .ok (.iconst 1, 1) := by decide +kernel
theorem dX12_clashes_30 : decode cX12_clashes 30 = .ok (.iadd, 1) := by decide +kernel
theorem dX12_clashes_31 : decode cX12_clashes 31 = .ok (.invokevirtual 395, 3) := by decide +kernel
theorem dX12_clashes_34 : decode cX12_clashes 34 = .ok (.invokestatic 235, 3) := by decide +kernel
theorem dX12_clashes_37 : decode cX12_clashes 37 = .ok (.if_icmp .ne 9, 3) := by decide +kernel
theorem dX12_clashes_40 : decode cX12_clashes 40 = .ok (.iconst 1, 1) := by decide +kernel
theorem dX12_clashes_41 : decode cX12_clashes 41 = .ok (.iload_n 3, 1) := by decide +kernel
theorem dX12_clashes_42 : decode cX12_clashes 42 = .ok (.ishl, 1) := by decide +kernel
theorem dX12_clashes_43 : decode cX12_clashes 43 = .ok (.goto 4, 3) := by decide +kernel
theorem dX12_clashes_46 : decode cX12_clashes 46 = .ok (.iconst 0, 1) := by decide +kernel
theorem dX12_clashes_47 : decode cX12_clashes 47 = .ok (.ior, 1) := by decide +kernel
theorem dX12_clashes_48 : decode cX12_clashes 48 = .ok (.istore_n 2, 1) := by decide +kernel
theorem dX12_clashes_49 : decode cX12_clashes 49 = .ok (.iinc 3 1, 3) := by decide +kernel
theorem dX12_clashes_52 : decode cX12_clashes 52 = .ok (.goto (-48), 3) := by decide +kernel
theorem dX12_clashes_55 : decode cX12_clashes 55 = .ok (.iload_n 2, 1) := by decide +kernel
theorem dX12_clashes_56 : decode cX12_clashes 56 = .ok (.ireturn, 1) := by decide +kernel
theorem dX12_meet_0 : decode cX12_meet 0 = .ok (.aload_n 0, 1) := by decide +kernel
theorem dX12_meet_1 : decode cX12_meet 1 = .ok (.iconst 0, 1) := by decide +kernel
theorem dX12_meet_2 : decode cX12_meet 2 = .ok (.putfield 1, 3) := by decide +kernel
theorem dX12_meet_5 : decode cX12_meet 5 = .ok (.aload_n 0, 1) := by decide +kernel
theorem dX12_meet_6 : decode cX12_meet 6 = .ok (.invokevirtual 398, 3) := by decide +kernel
theorem dX12_meet_9 : decode cX12_meet 9 = .ok (.ifCond .ne 5, 3) := by decide +kernel
theorem dX12_meet_12 : decode cX12_meet 12 = .ok (.iconst (-1), 1) := by decide +kernel
theorem dX12_meet_13 : decode cX12_meet 13 = .ok (.ireturn, 1) := by decide +kernel
theorem dX12_meet_14 : decode cX12_meet 14 = .ok (.iconst 0, 1) := by decide +kernel
theorem dX12_meet_15 : decode cX12_meet 15 = .ok (.istore_n 1, 1) := by decide +kernel
theorem dX12_meet_16 : decode cX12_meet 16 = .ok (.iconst 0, 1) := by decide +kernel
theorem dX12_meet_17 : decode cX12_meet 17 = .ok (.istore_n 2, 1) := by decide +kernel
theorem dX12_meet_18 : decode cX12_meet 18 = .ok (.iload_n 2, 1) := by decide +kernel
theorem dX12_meet_19 : decode cX12_meet 19 = .ok (.aload_n 0, 1) := by decide +kernel
theorem dX12_meet_20 : decode cX12_meet 20 = .ok (.getfield 392, 3) := by decide +kernel
theorem dX12_meet_23 : decode cX12_meet 23 = .ok (.if_icmp .gt 36, 3) := by decide +kernel
theorem dX12_meet_26 : decode cX12_meet 26 = .ok (.iload_n 1, 1) := by decide +kernel
theorem dX12_meet_27 : decode cX12_meet 27 = .ok (.iload_n 2, 1) := by decide +kernel
theorem dX12_meet_28 : decode cX12_meet 28 = .ok (.aload_n 0, 1) := by decide +kernel
theorem dX12_meet_29 : decode cX12_meet 29 = .ok (.getfield 392, 3) := by decide +kernel
theorem dX12_meet_32 : decode cX12_meet 32 = .ok (.iconst (-1), 1) := by decide +kernel
theorem dX12_meet_33 : decode cX12_meet 33 = .ok (.ixor, 1) := by decide +kernel
theorem dX12_meet_34 : decode cX12_meet 34 = .ok (.iand, 1) := by decide +kernel
theorem dX12_meet_35 : decode cX12_meet 35 = .ok (.ifCond .ne 15, 3) := by decide +kernel
theorem dX12_meet_38 : decode cX12_meet 38 = .ok (.aload_n 0, 1) := by decide +kernel
theorem dX12_meet_39 : decode cX12_meet 39 = .ok (.iload_n 2, 1) := by decide +kernel
theorem dX12_meet_40 : decode cX12_meet 40 = .ok (.invokevirtual 401, 3) := by decide +kernel
theorem dX12_meet_43 : decode cX12_meet 43 = .ok (.ifCond .ne 7, 3) := by decide +kernel
theorem dX12_meet_46 : decode cX12_meet 46 = .ok (.iconst 1, 1) := by decide +kernel
theorem dX12_meet_47 : decode cX12_meet 47 = .ok (.goto 4, 3) := by decide +kernel
theorem dX12_meet_50 : decode cX12_meet 50 = .ok (.iconst 0, 1) := by decide +kernel
theorem dX12_meet_51 : decode cX12_meet 51 = .ok (.iadd, 1) := by decide +kernel
theorem dX12_meet_52 : decode cX12_meet 52 = .ok (.istore_n 1, 1) := by decide +kernel
theorem dX12_meet_53 : decode cX12_meet 53 = .ok (.iinc 2 1, 3) := by decide +kernel
theorem dX12_meet_56 : decode cX12_meet 56 = .ok (.goto (-38), 3) := by decide +kernel
theorem dX12_meet_59 : decode cX12_meet 59 = .ok (.iload_n 1, 1) := by decide +kernel
theorem dX12_meet_60 : decode cX12_meet 60 = .ok (.ireturn, 1) := by decide +kernel
theorem dX12_must_0 : decode cX12_must 0 = .ok (.aload_n 0, 1) := by decide +kernel
theorem dX12_must_1 : decode cX12_must 1 = .ok (.iconst 0, 1) := by decide +kernel
theorem dX12_must_2 : decode cX12_must 2 = .ok (.putfield 1, 3) := by decide +kernel
theorem dX12_must_5 : decode cX12_must 5 = .ok (.aload_n 0, 1) := by decide +kernel
theorem dX12_must_6 : decode cX12_must 6 = .ok (.invokevirtual 398, 3) := by decide +kernel
theorem dX12_must_9 : decode cX12_must 9 = .ok (.ifCond .eq 19, 3) := by decide +kernel
theorem dX12_must_12 : decode cX12_must 12 = .ok (.aload_n 0, 1) := by decide +kernel
theorem dX12_must_13 : decode cX12_must 13 = .ok (.getfield 392, 3) := by decide +kernel
theorem dX12_must_16 : decode cX12_must 16 = .ok (.ifCond .eq 12, 3) := by decide +kernel
theorem dX12_must_19 : decode cX12_must 19 = .ok (.iload_n 1, 1) := by decide +kernel
theorem dX12_must_20 : decode cX12_must 20 = .ok (.iconst 0, 1) := by decide +kernel
theorem dX12_must_21 : decode cX12_must 21 = .ok (.iconst 1, 1) := by decide +kernel
theorem dX12_must_22 : decode cX12_must 22 = .ok (.invokestatic 197, 3) := by decide +kernel
theorem dX12_must_25 : decode cX12_must 25 = .ok (.ifCond .ne 5, 3) := by decide +kernel
theorem dX12_must_28 : decode cX12_must 28 = .ok (.iconst (-1), 1) := by decide +kernel
theorem dX12_must_29 : decode cX12_must 29 = .ok (.ireturn, 1) := by decide +kernel
theorem dX12_must_30 : decode cX12_must 30 = .ok (.aload_n 0, 1) := by decide +kernel
theorem dX12_must_31 : decode cX12_must 31 = .ok (.getfield 392, 3) := by decide +kernel
theorem dX12_must_34 : decode cX12_must 34 = .ok (.aload_n 0, 1) := by decide +kernel
theorem dX12_must_35 : decode cX12_must 35 = .ok (.getfield 392, 3) := by decide +kernel
theorem dX12_must_38 : decode cX12_must 38 = .ok (.ineg, 1) := by decide +kernel
theorem dX12_must_39 : decode cX12_must 39 = .ok (.iand, 1) := by decide +kernel
theorem dX12_must_40 : decode cX12_must 40 = .ok (.istore_n 2, 1) := by decide +kernel
theorem dX12_must_41 : decode cX12_must 41 = .ok (.aload_n 0, 1) := by decide +kernel
theorem dX12_must_42 : decode cX12_must 42 = .ok (.getfield 392, 3) := by decide +kernel
theorem dX12_must_45 : decode cX12_must 45 = .ok (.istore_n 3, 1) := by decide +kernel
theorem dX12_must_46 : decode cX12_must 46 = .ok (.aload_n 0, 1) := by decide +kernel
theorem dX12_must_47 : decode cX12_must 47 = .ok (.getfield 392, 3) := by decide +kernel
theorem dX12_must_50 : decode cX12_must 50 = .ok (.istore 4, 2) := by decide +kernel
theorem dX12_must_52 : decode cX12_must 52 = .ok (.iconst 0, 1) := by decide +kernel
theorem dX12_must_53 : decode cX12_must 53 = .ok (.istore 5, 2) := by decide +kernel
theorem dX12_must_55 : decode cX12_must 55 = .ok (.iconst 0, 1) := by decide +kernel
theorem dX12_must_56 : decode cX12_must 56 = .ok (.istore 6, 2) := by decide +kernel
theorem dX12_must_58 : decode cX12_must 58 = .ok (.iload 6, 2) := by decide +kernel
theorem dX12_must_60 : decode cX12_must 60 = .ok (.aload_n 0, 1) := by decide +kernel
theorem dX12_must_61 : decode cX12_must 61 = .ok (.getfield 392, 3) := by decide +kernel
theorem dX12_must_64 : decode cX12_must 64 = .ok (.if_icmp .gt 57, 3) := by decide +kernel
theorem dX12_must_67 : decode cX12_must 67 = .ok (.iload 6, 2) := by decide +kernel
theorem dX12_must_69 : decode cX12_must 69 = .ok (.aload_n 0, 1) := by decide +kernel
theorem dX12_must_70 : decode cX12_must 70 = .ok (.getfield 392, 3) := by decide +kernel
theorem dX12_must_73 : decode cX12_must 73 = .ok (.iconst (-1), 1) := by decide +kernel
theorem dX12_must_74 : decode cX12_must 74 = .ok (.ixor, 1) := by decide +kernel
theorem dX12_must_75 : decode cX12_must 75 = .ok (.iand, 1) := by decide +kernel
theorem dX12_must_76 : decode cX12_must 76 = .ok (.ifCond .ne 39, 3) := by decide +kernel
theorem dX12_must_79 : decode cX12_must 79 = .ok (.iload 6, 2) := by decide +kernel
theorem dX12_must_81 : decode cX12_must 81 = .ok (.iload_n 2, 1) := by decide +kernel
theorem dX12_must_82 : decode cX12_must 82 = .ok (.iand, 1) := by decide +kernel
theorem dX12_must_83 : decode cX12_must 83 = .ok (.ifCond .eq 32, 3) := by decide +kernel
theorem dX12_must_86 : decode cX12_must 86 = .ok (.aload_n 0, 1) := by decide +kernel
theorem dX12_must_87 : decode cX12_must 87 = .ok (.iload 6, 2) := by decide +kernel
theorem dX12_must_89 : decode cX12_must 89 = .ok (.invokevirtual 401, 3) := by decide +kernel
theorem dX12_must_92 : decode cX12_must 92 = .ok (.ifCond .eq 6, 3) := by decide +kernel
theorem dX12_must_95 : decode cX12_must 95 = .ok (.goto 20, 3) := by decide +kernel
theorem dX12_must_98 : decode cX12_must 98 = .ok (.iconst 1, 1) := by decide +kernel
theorem dX12_must_99 : decode cX12_must 99 = .ok (.istore 5, 2) := by decide +kernel
theorem dX12_must_101 : decode cX12_must 101 = .ok (.iload_n 3, 1) := by decide +kernel
theorem dX12_must_102 : decode cX12_must 102 = .ok (.iload 6, 2) := by decide +kernel
theorem dX12_must_104 : decode cX12_must 104 = .ok (.iand, 1) := by decide +kernel
theorem dX12_must_105 : decode cX12_must 105 = .ok (.istore_n 3, 1) := by decide +kernel
theorem dX12_must_106 : decode cX12_must 106 = .ok (.iload 4, 2) := by decide +kernel
theorem dX12_must_108 : decode cX12_must 108 = .ok (.iload 6, 2) := by decide +kernel
theorem dX12_must_110 : decode cX12_must 110 = .ok (.iconst (-1), 1) := by decide +kernel
theorem dX12_must_111 : decode cX12_must 111 = .ok (.ixor, 1) := by decide +kernel
theorem dX12_must_112 : decode cX12_must 112 = .ok (.iand, 1) := by decide +kernel
theorem dX12_must_113 : decode cX12_must 113 = .ok (.istore 4, 2) := by decide +kernel
theorem dX12_must_115 : decode cX12_must 115 = .ok (.iinc 6 1, 3) := by decide +kernel
theorem dX12_must_118 : decode cX12_must 118 = .ok (.goto (-60), 3) := by decide +kernel
theorem dX12_must_121 : decode cX12_must 121 = .ok (.iload 5, 2) := by decide +kernel
theorem dX12_must_123 : decode cX12_must 123 = .ok (.ifCond .ne 7, 3) := by decide +kernel
theorem dX12_must_126 : decode cX12_must 126 = .ok (.iconst (-1), 1) := by decide +kernel
theorem dX12_must_127 : decode cX12_must 127 = .ok (.goto 13, 3) := by decide +kernel
theorem dX12_must_130 : decode cX12_must 130 = .ok (.iload_n 1, 1) := by decide +kernel
theorem dX12_must_131 : decode cX12_must 131 = .ok (.ifCond .ne 7, 3) := by decide +kernel
theorem dX12_must_134 : decode cX12_must 134 = .ok (.iload_n 3, 1) := by decide +kernel
theorem dX12_must_135 : decode cX12_must 135 = .ok (.goto 5, 3) := by decide +kernel
theorem dX12_must_138 : decode cX12_must 138 = .ok (.iload 4, 2) := by decide +kernel
theorem dX12_must_140 : decode cX12_must 140 = .ok (.ireturn, 1) := by decide +kernel
theorem dX12_wrongly_0 : decode cX12_wrongly 0 = .ok (.aload_n 0, 1) := by decide +kernel
theorem dX12_wrongly_1 : decode cX12_wrongly 1 = .ok (.iconst 0, 1) := by decide +kernel
theorem dX12_wrongly_2 : decode cX12_wrongly 2 = .ok (.putfield 1, 3) := by decide +kernel
theorem dX12_wrongly_5 : decode cX12_wrongly 5 = .ok (.aload_n 0, 1) := by decide +kernel
theorem dX12_wrongly_6 : decode cX12_wrongly 6 = .ok (.invokevirtual 398, 3) := by decide +kernel
theorem dX12_wrongly_9 : decode cX12_wrongly 9 = .ok (.ifCond .eq 12, 3) := by decide +kernel
theorem dX12_wrongly_12 : decode cX12_wrongly 12 = .ok (.aload_n 0, 1) := by decide +kernel
theorem dX12_wrongly_13 : decode cX12_wrongly 13 = .ok (.getfield 389, 3) := by decide +kernel
theorem dX12_wrongly_16 : decode cX12_wrongly 16 = .ok (.bipush 16, 2) := by decide +kernel
theorem dX12_wrongly_18 : decode cX12_wrongly 18 = .ok (.if_icmp .le 5, 3) := by decide +kernel
theorem dX12_wrongly_21 : decode cX12_wrongly 21 = .ok (.iconst (-1), 1) := by decide +kernel
theorem dX12_wrongly_22 : decode cX12_wrongly 22 = .ok (.ireturn, 1) := by decide +kernel
theorem dX12_wrongly_23 : decode cX12_wrongly 23 = .ok (.iconst (-1), 1) := by decide +kernel
theorem dX12_wrongly_24 : decode cX12_wrongly 24 = .ok (.istore_n 1, 1) := by decide +kernel
theorem dX12_wrongly_25 : decode cX12_wrongly 25 = .ok (.iconst 0, 1) := by decide +kernel
theorem dX12_wrongly_26 : decode cX12_wrongly 26 = .ok (.istore_n 2, 1) := by decide +kernel
theorem dX12_wrongly_27 : decode cX12_wrongly 27 = .ok (.iload_n 2, 1) := by decide +kernel
theorem dX12_wrongly_28 : decode cX12_wrongly 28 = .ok (.aload_n 0, 1) := by decide +kernel
theorem dX12_wrongly_29 : decode cX12_wrongly 29 = .ok (.getfield 392, 3) := by decide +kernel
theorem dX12_wrongly_32 : decode cX12_wrongly 32 = .ok (.if_icmp .gt 48, 3) := by decide +kernel
theorem dX12_wrongly_35 : decode cX12_wrongly 35 = .ok (.aload_n 0, 1) := by decide +kernel
theorem dX12_wrongly_36 : decode cX12_wrongly 36 = .ok (.iload_n 2, 1) := by decide +kernel
theorem dX12_wrongly_37 : decode cX12_wrongly 37 = .ok (.invokevirtual 401, 3) := by decide +kernel
theorem dX12_wrongly_40 : decode cX12_wrongly 40 = .ok (.istore_n 3, 1) := by decide +kernel
theorem dX12_wrongly_41 : decode cX12_wrongly 41 = .ok (.iload_n 1, 1) := by decide +kernel
theorem dX12_wrongly_42 : decode cX12_wrongly 42 = .ok (.ifCond .lt 30, 3) := by decide +kernel
theorem dX12_wrongly_45 : decode cX12_wrongly 45 = .ok (.iload_n 3, 1) := by decide +kernel
theorem dX12_wrongly_46 : decode cX12_wrongly 46 = .ok (.invokestatic 383, 3) := by decide +kernel
theorem dX12_wrongly_49 : decode cX12_wrongly 49 = .ok (.iload_n 1, 1) := by decide +kernel
theorem dX12_wrongly_50 : decode cX12_wrongly 50 = .ok (.invokestatic 383, 3) := by decide +kernel
theorem dX12_wrongly_53 : decode cX12_wrongly 53 = .ok (.if_icmp .lt 19, 3) := by decide +kernel
theorem dX12_wrongly_56 : decode cX12_wrongly 56 = .ok (.iload_n 3, 1) := by decide +kernel
theorem dX12_wrongly_57 : decode cX12_wrongly 57 = .ok (.invokestatic 383, 3) := by decide +kernel
theorem dX12_wrongly_60 : decode cX12_wrongly 60 = .ok (.iload_n 1, 1) := by decide +kernel
theorem dX12_wrongly_61 : decode cX12_wrongly 61 = .ok (.invokestatic 383, 3) := by decide +kernel
theorem dX12_wrongly_64 : decode cX12_wrongly 64 = .ok (.if_icmp .ne 10, 3) := by decide +kernel
theorem dX12_wrongly_67 : decode cX12_wrongly 67 = .ok (.iload_n 3, 1) := by decide +kernel
theorem dX12_wrongly_68 : decode cX12_wrongly 68 = .ok (.iload_n 1, 1) := by decide +kernel
theorem dX12_wrongly_69 : decode cX12_wrongly 69 = .ok (.if_icmp .ge 5, 3) := by decide +kernel
theorem dX12_wrongly_72 : decode cX12_wrongly 72 = .ok (.iload_n 3, 1) := by decide +kernel
theorem dX12_wrongly_73 : decode cX12_wrongly 73 = .ok (.istore_n 1, 1) := by decide +kernel
theorem dX12_wrongly_74 : decode cX12_wrongly 74 = .ok (.iinc 2 1, 3) := by decide +kernel
theorem dX12_wrongly_77 : decode cX12_wrongly 77 = .ok (.goto (-50), 3) := by decide +kernel
theorem dX12_wrongly_80 : decode cX12_wrongly 80 = .ok (.iload_n 1, 1) := by decide +kernel
theorem dX12_wrongly_81 : decode cX12_wrongly 81 = .ok (.ireturn, 1) := by decide +kernel
theorem dX12_between_0 : decode cX12_between 0 = .ok (.aload_n 0, 1) := by decide +kernel
theorem dX12_between_1 : decode cX12_between 1 = .ok (.iconst 0, 1) := by decide +kernel
theorem dX12_between_2 : decode cX12_between 2 = .ok (.putfield 1, 3) := by decide +kernel
theorem dX12_between_5 : decode cX12_between 5 = .ok (.iload_n 1, 1) := by decide +kernel
theorem dX12_between_6 : decode cX12_between 6 = .ok (.iconst 0, 1) := by decide +kernel
theorem dX12_between_7 : decode cX12_between 7 = .ok (.bipush 59, 2) := by decide +kernel
theorem dX12_between_9 : decode cX12_between 9 = .ok (.invokestatic 197, 3) := by decide +kernel
theorem dX12_between_12 : decode cX12_between 12 = .ok (.ifCond .ne 5, 3) := by decide +kernel
theorem dX12_between_15 : decode cX12_between 15 = .ok (.iconst (-1), 1) := by decide +kernel
theorem dX12_between_16 : decode cX12_between 16 = .ok (.ireturn, 1) := by decide +kernel
theorem dX12_between_17 : decode cX12_between 17 = .ok (.aload_n 0, 1) := by decide +kernel
theorem dX12_between_18 : decode cX12_between 18 = .ok (.iload_n 1, 1) := by decide +kernel
theorem dX12_between_19 : decode cX12_between 19 = .ok (.invokevirtual 286, 3) := by decide +kernel
theorem dX12_between_22 : decode cX12_between 22 = .ok (.iconst 0, 1) := by decide +kernel
theorem dX12_between_23 : decode cX12_between 23 = .ok (.istore_n 2, 1) := by decide +kernel
theorem dX12_between_24 : decode cX12_between 24 = .ok (.iconst 0, 1) := by decide +kernel
theorem dX12_between_25 : decode cX12_between 25 = .ok (.istore_n 3, 1) := by decide +kernel
theorem dX12_between_26 : decode cX12_between 26 = .ok (.iload_n 3, 1) := by decide +kernel
theorem dX12_between_27 : decode cX12_between 27 = .ok (.aload_n 0, 1) := by decide +kernel
theorem dX12_between_28 : decode cX12_between 28 = .ok (.getfield 33, 3) := by decide +kernel
theorem dX12_between_31 : decode cX12_between 31 = .ok (.iconst 0, 1) := by decide +kernel
theorem dX12_between_32 : decode cX12_between 32 = .ok (.iaload, 1) := by decide +kernel
theorem dX12_between_33 : decode cX12_between 33 = .ok (.if_icmp .ge 282, 3) := by decide +kernel
theorem dX12_between_36 : decode cX12_between 36 = .ok (.iload_n 1, 1) := by decide +kernel
theorem dX12_between_37 : decode cX12_between 37 = .ok (.aload_n 0, 1) := by decide +kernel
theorem dX12_between_38 : decode cX12_between 38 = .ok (.getfield 33, 3) := by decide +kernel
theorem dX12_between_41 : decode cX12_between 41 = .ok (.iconst 4, 1) := by decide +kernel
theorem dX12_between_42 : decode cX12_between 42 = .ok (.iload_n 3, 1) := by decide +kernel
theorem dX12_between_43 : decode cX12_between 43 = .ok (.iadd, 1) := by decide +kernel
theorem dX12_between_44 : decode cX12_between 44 = .ok (.iaload, 1) := by decide +kernel
theorem dX12_between_45 : decode cX12_between 45 = .ok (.aload_n 0, 1) := by decide +kernel
theorem dX12_between_46 : decode cX12_between 46 = .ok (.getfield 33, 3) := by decide +kernel
theorem dX12_between_49 : decode cX12_between 49 = .ok (.bipush 14, 2) := by decide +kernel
theorem dX12_between_51 : decode cX12_between 51 = .ok (.iload_n 3, 1) := by decide +kernel
theorem dX12_between_52 : decode cX12_between 52 = .ok (.iadd, 1) := by decide +kernel
theorem dX12_between_53 : decode cX12_between 53 = .ok (.iaload, 1) := by decide +kernel
theorem dX12_between_54 : decode cX12_between 54 = .ok (.invokestatic 197, 3) := by decide +kernel
theorem dX12_between_57 : decode cX12_between 57 = .ok (.ifCond .eq 252, 3) := by decide +kernel
theorem dX12_between_60 : decode cX12_between 60 = .ok (.aload_n 0, 1) := by decide +kernel
theorem dX12_between_61 : decode cX12_between 61 = .ok (.iload_n 3, 1) := by decide +kernel
theorem dX12_between_62 : decode cX12_between 62 = .ok (.iload_n 1, 1) := by decide +kernel
theorem dX12_between_63 : decode cX12_between 63 = .ok (.invokevirtual 283, 3) := by decide +kernel
theorem dX12_between_66 : decode cX12_between 66 = .ok (.ifCond .le 6, 3) := by decide +kernel
theorem dX12_between_69 : decode cX12_between 69 = .ok (.goto 240, 3) := by decide +kernel
theorem dX12_between_72 : decode cX12_between 72 = .ok (.iconst 0, 1) := by decide +kernel
theorem dX12_between_73 : decode cX12_between 73 = .ok (.istore 4, 2) := by decide +kernel
theorem dX12_between_75 : decode cX12_between 75 = .ok (.iconst 0, 1) := by decide +kernel
theorem dX12_between_76 : decode cX12_between 76 = .ok (.istore 5, 2) := by decide +kernel
theorem dX12_between_78 : decode cX12_between 78 = .ok (.iconst 0, 1) := by decide +kernel
theorem dX12_between_79 : decode cX12_between 79 = .ok (.istore 6, 2) := by decide +kernel
theorem dX12_between_81 : decode cX12_between 81 = .ok (.iload 6, 2) := by decide +kernel
theorem dX12_between_83 : decode cX12_between 83 = .ok (.aload_n 0, 1) := by decide +kernel
theorem dX12_between_84 : decode cX12_between 84 = .ok (.getfield 33, 3) := by decide +kernel
theorem dX12_between_87 : decode cX12_between 87 = .ok (.iconst 1, 1) := by decide +kernel
theorem dX12_between_88 : decode cX12_between 88 = .ok (.iaload, 1) := by decide +kernel
theorem dX12_between_89 : decode cX12_between 89 = .ok (.if_icmp .ge 192, 3) := by decide +kernel
theorem dX12_between_92 : decode cX12_between 92 = .ok (.aload_n 0, 1) := by decide +kernel
theorem dX12_between_93 : decode cX12_between 93 = .ok (.iload 6, 2) := by decide +kernel
theorem dX12_between_95 : decode cX12_between 95 = .ok (.iconst 2, 1) := by decide +kernel
theorem dX12_between_96 : decode cX12_between 96 = .ok (.invokevirtual 266, 3) := by decide +kernel
theorem dX12_between_99 : decode cX12_between 99 = .ok (.iload_n 1, 1) := by decide +kernel
theorem dX12_between_100 : decode cX12_between 100 = .ok (.if_icmp .ne 175, 3) := by decide +kernel
theorem dX12_between_103 : decode cX12_between 103 = .ok (.aload_n 0, 1) := by decide +kernel
theorem dX12_between_104 : decode cX12_between 104 = .ok (.iload 6, 2) := by decide +kernel
theorem dX12_between_106 : decode cX12_between 106 = .ok (.invokevirtual 269, 3) := by decide +kernel
theorem dX12_between_109 : decode cX12_between 109 = .ok (.ifCond .gt 166, 3) := by decide +kernel
theorem dX12_between_112 : decode cX12_between 112 = .ok (.aload_n 0, 1) := by decide +kernel
theorem dX12_between_113 : decode cX12_between 113 = .ok (.iload 6, 2) := by decide +kernel
theorem dX12_between_115 : decode cX12_between 115 = .ok (.iconst 0, 1) := by decide +kernel
theorem dX12_between_116 : decode cX12_between 116 = .ok (.invokevirtual 266, 3) := by decide +kernel
theorem dX12_between_119 : decode cX12_between 119 = .ok (.iload_n 3, 1) := by decide +kernel
theorem dX12_between_120 : decode cX12_between 120 = .ok (.if_icmp .eq 17, 3) := by decide +kernel
theorem dX12_between_123 : decode cX12_between 123 = .ok (.aload_n 0, 1) := by decide +kernel
theorem dX12_between_124 : decode cX12_between 124 = .ok (.iload 6, 2) := by decide +kernel
theorem dX12_between_126 : decode cX12_between 126 = .ok (.iconst 1, 1) := by decide +kernel
theorem dX12_between_127 : decode cX12_between 127 = .ok (.invokevirtual 266, 3) := by decide +kernel
theorem dX12_between_130 : decode cX12_between 130 = .ok (.iload_n 3, 1) := by decide +kernel
theorem dX12_between_131 : decode cX12_between 131 = .ok (.if_icmp .eq 6, 3) := by decide +kernel
theorem dX12_between_134 : decode cX12_between 134 = .ok (.goto 141, 3) := by decide +kernel
theorem dX12_between_137 : decode cX12_between 137 = .ok (.aload_n 0, 1) := by decide +kernel
theorem dX12_between_138 : decode cX12_between 138 = .ok (.iload 6, 2) := by decide +kernel
theorem dX12_between_140 : decode cX12_between 140 = .ok (.iconst 0, 1) := by decide +kernel
theorem dX12_between_141 : decode cX12_between 141 = .ok (.invokevirtual 266, 3) := by decide +kernel
theorem dX12_between_144 : decode cX12_between 144 = .ok (.iload_n 3, 1) := by decide +kernel
theorem dX12_between_145 : decode cX12_between 145 = .ok (.if_icmp .ne 13, 3) := by decide +kernel
theorem dX12_between_148 : decode cX12_between 148 = .ok (.aload_n 0, 1) := by decide +kernel
theorem dX12_between_149 : decode cX12_between 149 = .ok (.iload 6, 2) := by decide +kernel
theorem dX12_between_151 : decode cX12_between 151 = .ok (.iconst 1, 1) := by decide +kernel
theorem dX12_between_152 : decode cX12_between 152 = .ok (.invokevirtual 266, 3) := by decide +kernel
theorem dX12_between_155 : decode cX12_between 155 = .ok (.goto 10, 3) := by decide +kernel
theorem dX12_between_158 : decode cX12_between 158 = .ok (.aload_n 0, 1) := by decide +kernel
theorem dX12_between_159 : decode cX12_between 159 = .ok (.iload 6, 2) := by decide +kernel
theorem dX12_between_161 : decode cX12_between 161 = .ok (.iconst 0, 1) := by decide +kernel
theorem dX12_between_162 : decode cX12_between 162 = .ok (.invokevirtual 266, 3) := by decide +kernel
theorem dX12_between_165 : decode cX12_between 165 = .ok (.istore 7, 2) := by decide +kernel
theorem dX12_between_167 : decode cX12_between 167 = .ok (.aload_n 0, 1) := by decide +kernel
theorem dX12_between_168 : decode cX12_between 168 = .ok (.iload 6, 2) := by decide +kernel
theorem dX12_between_170 : decode cX12_between 170 = .ok (.iconst 0, 1) := by decide +kernel
theorem dX12_between_171 : decode cX12_between 171 = .ok (.invokevirtual 266, 3) := by decide +kernel
theorem dX12_between_174 : decode cX12_between 174 = .ok (.iload_n 3, 1) := by decide +kernel
theorem dX12_between_175 : decode cX12_between 175 = .ok (.if_icmp .eq 14, 3) := by decide +kernel
theorem dX12_between_178 : decode cX12_between 178 = .ok (.aload_n 0, 1) := by decide +kernel
theorem dX12_between_179 : decode cX12_between 179 = .ok (.iload 6, 2) := by decide +kernel
theorem dX12_between_181 : decode cX12_between 181 = .ok (.iconst 5, 1) := by decide +kernel
theorem dX12_between_182 : decode cX12_between 182 = .ok (.invokevirtual 266, 3) := by decide +kernel
theorem dX12_between_185 : decode cX12_between 185 = .ok (.iconst 1, 1) := by decide +kernel
theorem dX12_between_186 : decode cX12_between 186 = .ok (.if_icmp .ne 7, 3) := by decide +kernel
theorem dX12_between_189 : decode cX12_between 189 = .ok (.iconst 1, 1) := by decide +kernel
theorem dX12_between_190 : decode cX12_between 190 = .ok (.goto 4, 3) := by decide +kernel
theorem dX12_between_193 : decode cX12_between 193 = .ok (.iconst 0, 1) := by decide +kernel
theorem dX12_between_194 : decode cX12_between 194 = .ok (.istore 8, 2) := by decide +kernel
theorem dX12_between_196 : decode cX12_between 196 = .ok (.aload_n 0, 1) := by decide +kernel
theorem dX12_between_197 : decode cX12_between 197 = .ok (.iload 6, 2) := by decide +kernel
theorem dX12_between_199 : decode cX12_between 199 = .ok (.iconst 1, 1) := by decide +kernel
theorem dX12_between_200 : decode cX12_between 200 = .ok (.invokevirtual 266, 3) := by decide +kernel
theorem dX12_between_203 : decode cX12_between 203 = .ok (.iload_n 3, 1) := by decide +kernel
theorem dX12_between_204 : decode cX12_between 204 = .ok (.if_icmp .eq 14, 3) := by decide +kernel
theorem dX12_between_207 : decode cX12_between 207 = .ok (.aload_n 0, 1) := by decide +kernel
theorem dX12_between_208 : decode cX12_between 208 = .ok (.iload 6, 2) := by decide +kernel
theorem dX12_between_210 : decode cX12_between 210 = .ok (.iconst 5, 1) := by decide +kernel
theorem dX12_between_211 : decode cX12_between 211 = .ok (.invokevirtual 266, 3) := by decide +kernel
theorem dX12_between_214 : decode cX12_between 214 = .ok (.iconst 1, 1) := by decide +kernel
theorem dX12_between_215 : decode cX12_between 215 = .ok (.if_icmp .ne 7, 3) := by decide +kernel
theorem dX12_between_218 : decode cX12_between 218 = .ok (.iconst 1, 1) := by decide +kernel
theorem dX12_between_219 : decode cX12_between 219 = .ok (.goto 4, 3) := by decide +kernel
theorem dX12_between_222 : decode cX12_between 222 = .ok (.iconst 0, 1) := by decide +kernel
theorem dX12_between_223 : decode cX12_between 223 = .ok (.istore 9, 2) := by decide +kernel
theorem dX12_between_225 : decode cX12_between 225 = .ok (.iload 9, 2) := by decide +kernel
theorem dX12_between_227 : decode cX12_between 227 = .ok (.ifCond .eq 23, 3) := by decide +kernel
theorem dX12_between_230 : decode cX12_between 230 = .ok (.aload_n 0, 1) := by decide +kernel
theorem dX12_between_231 : decode cX12_between 231 = .ok (.iload 7, 2) := by decide +kernel
theorem dX12_between_233 : decode cX12_between 233 = .ok (.iload_n 1, 1) := by decide +kernel
theorem dX12_between_234 : decode cX12_between 234 = .ok (.invokevirtual 283, 3) := by decide +kernel
theorem dX12_between_237 : decode cX12_between 237 = .ok (.iconst 2, 1) := by decide +kernel
theorem dX12_between_238 : decode cX12_between 238 = .ok (.if_icmp .eq 12, 3) := by decide +kernel
theorem dX12_between_241 : decode cX12_between 241 = .ok (.iload 4, 2) := by decide +kernel
theorem dX12_between_243 : decode cX12_between 243 = .ok (.iconst 1, 1) := by decide +kernel
theorem dX12_between_244 : decode cX12_between 244 = .ok (.iload 7, 2) := by decide +kernel
theorem dX12_between_246 : decode cX12_between 246 = .ok (.ishl, 1) := by decide +kernel
theorem dX12_between_247 : decode cX12_between 247 = .ok (.ior, 1) := by decide +kernel
theorem dX12_between_248 : decode cX12_between 248 = .ok (.istore 4, 2) := by decide +kernel
theorem dX12_between_250 : decode cX12_between 250 = .ok (.iload 8, 2) := by decide +kernel
theorem dX12_between_252 : decode cX12_between 252 = .ok (.ifCond .eq 23, 3) := by decide +kernel
theorem dX12_between_255 : decode cX12_between 255 = .ok (.aload_n 0, 1) := by decide +kernel
theorem dX12_between_256 : decode cX12_between 256 = .ok (.iload 7, 2) := by decide +kernel
theorem dX12_between_258 : decode cX12_between 258 = .ok (.iload_n 1, 1) := by decide +kernel
theorem dX12_between_259 : decode cX12_between 259 = .ok (.invokevirtual 283, 3) := by decide +kernel
theorem dX12_between_262 : decode cX12_between 262 = .ok (.iconst 1, 1) := by decide +kernel
theorem dX12_between_263 : decode cX12_between 263 = .ok (.if_icmp .eq 12, 3) := by decide +kernel
theorem dX12_between_266 : decode cX12_between 266 = .ok (.iload 5, 2) := by decide +kernel
theorem dX12_between_268 : decode cX12_between 268 = .ok (.iconst 1, 1) := by decide +kernel
theorem dX12_between_269 : decode cX12_between 269 = .ok (.iload 7, 2) := by decide +kernel
theorem dX12_between_271 : decode cX12_between 271 = .ok (.ishl, 1) := by decide +kernel
theorem dX12_between_272 : decode cX12_between 272 = .ok (.ior, 1) := by decide +kernel
theorem dX12_between_273 : decode cX12_between 273 = .ok (.istore 5, 2) := by decide +kernel
theorem dX12_between_275 : decode cX12_between 275 = .ok (.iinc 6 1, 3) := by decide +kernel
theorem dX12_between_278 : decode cX12_between 278 = .ok (.goto (-197), 3) := by decide +kernel
theorem dX12_between_281 : decode cX12_between 281 = .ok (.iload 4, 2) := by decide +kernel
theorem dX12_between_283 : decode cX12_between 283 = .ok (.ifCond .eq 26, 3) := by decide +kernel
theorem dX12_between_286 : decode cX12_between 286 = .ok (.iload 5, 2) := by decide +kernel
theorem dX12_between_288 : decode cX12_between 288 = .ok (.ifCond .eq 21, 3) := by decide +kernel
theorem dX12_between_291 : decode cX12_between 291 = .ok (.iload 4, 2) := by decide +kernel
theorem dX12_between_293 : decode cX12_between 293 = .ok (.iload 5, 2) := by decide +kernel
theorem dX12_between_295 : decode cX12_between 295 = .ok (.ior, 1) := by decide +kernel
theorem dX12_between_296 : decode cX12_between 296 = .ok (.invokestatic 383, 3) := by decide +kernel
theorem dX12_between_299 : decode cX12_between 299 = .ok (.iconst 1, 1) := by decide +kernel
theorem dX12_between_300 : decode cX12_between 300 = .ok (.if_icmp .le 9, 3) := by decide +kernel
theorem dX12_between_303 : decode cX12_between 303 = .ok (.iload_n 2, 1) := by decide +kernel
theorem dX12_between_304 : decode cX12_between 304 = .ok (.iconst 1, 1) := by decide +kernel
theorem dX12_between_305 : decode cX12_between 305 = .ok (.iload_n 3, 1) := by decide +kernel
theorem dX12_between_306 : decode cX12_between 306 = .ok (.ishl, 1) := by decide +kernel
theorem dX12_between_307 : decode cX12_between 307 = .ok (.ior, 1) := by decide +kernel
theorem dX12_between_308 : decode cX12_between 308 = .ok (.istore_n 2, 1) := by decide +kernel
theorem dX12_between_309 : decode cX12_between 309 = .ok (.iinc 3 1, 3) := by decide +kernel
theorem dX12_between_312 : decode cX12_between 312 = .ok (.goto (-286), 3) := by decide +kernel
theorem dX12_between_315 : decode cX12_between 315 = .ok (.iload_n 2, 1) := by decide +kernel
theorem dX12_between_316 : decode cX12_between 316 = .ok (.ireturn, 1) := by decide +kernel
theorem dX12_draw_0 : decode cX12_draw 0 = .ok (.aload_n 0, 1) := by decide +kernel
theorem dX12_draw_1 : decode cX12_draw 1 = .ok (.aload_n 0, 1) := by decide +kernel
theorem dX12_draw_2 : decode cX12_draw 2 = .ok (.getfield 404, 3) := by decide +kernel
theorem dX12_draw_5 : decode cX12_draw 5 = .ok (.ldc_w 407, 3) := by decide +kernel
theorem dX12_draw_8 : decode cX12_draw 8 = .ok (.imul, 1) := by decide +kernel
theorem dX12_draw_9 : decode cX12_draw 9 = .ok (.sipush 12345, 3) := by decide +kernel
theorem dX12_draw_12 : decode cX12_draw 12 = .ok (.iadd, 1) := by decide +kernel
theorem dX12_draw_13 : decode cX12_draw 13 = .ok (.putfield 404, 3) := by decide +kernel
theorem dX12_draw_16 : decode cX12_draw 16 = .ok (.aload_n 0, 1) := by decide +kernel
theorem dX12_draw_17 : decode cX12_draw 17 = .ok (.getfield 404, 3) := by decide +kernel
theorem dX12_draw_20 : decode cX12_draw 20 = .ok (.bipush 8, 2) := by decide +kernel
theorem dX12_draw_22 : decode cX12_draw 22 = .ok (.iushr, 1) := by decide +kernel
theorem dX12_draw_23 : decode cX12_draw 23 = .ok (.iload_n 1, 1) := by decide +kernel
theorem dX12_draw_24 : decode cX12_draw 24 = .ok (.irem, 1) := by decide +kernel
theorem dX12_draw_25 : decode cX12_draw 25 = .ok (.ireturn, 1) := by decide +kernel
theorem dX12_run_0 : decode cX12_run 0 = .ok (.aload_n 0, 1) := by decide +kernel
theorem dX12_run_1 : decode cX12_run 1 = .ok (.iconst 0, 1) := by decide +kernel
theorem dX12_run_2 : decode cX12_run 2 = .ok (.putfield 1, 3) := by decide +kernel
theorem dX12_run_5 : decode cX12_run 5 = .ok (.aload_n 0, 1) := by decide +kernel
theorem dX12_run_6 : decode cX12_run 6 = .ok (.getfield 33, 3) := by decide +kernel
theorem dX12_run_9 : decode cX12_run 9 = .ok (.iconst 1, 1) := by decide +kernel
theorem dX12_run_10 : decode cX12_run 10 = .ok (.iaload, 1) := by decide +kernel
theorem dX12_run_11 : decode cX12_run 11 = .ok (.ifCond .ne 5, 3) := by decide +kernel
theorem dX12_run_14 : decode cX12_run 14 = .ok (.iconst (-1), 1) := by decide +kernel
theorem dX12_run_15 : decode cX12_run 15 = .ok (.ireturn, 1) := by decide +kernel
theorem dX12_run_16 : decode cX12_run 16 = .ok (.aload_n 0, 1) := by decide +kernel
theorem dX12_run_17 : decode cX12_run 17 = .ok (.invokevirtual 374, 3) := by decide +kernel
theorem dX12_run_20 : decode cX12_run 20 = .ok (.aload_n 0, 1) := by decide +kernel
theorem dX12_run_21 : decode cX12_run 21 = .ok (.iload_n 1, 1) := by decide +kernel
theorem dX12_run_22 : decode cX12_run 22 = .ok (.putfield 404, 3) := by decide +kernel
theorem dX12_run_25 : decode cX12_run 25 = .ok (.aload_n 0, 1) := by decide +kernel
theorem dX12_run_26 : decode cX12_run 26 = .ok (.getfield 33, 3) := by decide +kernel
theorem dX12_run_29 : decode cX12_run 29 = .ok (.iconst 3, 1) := by decide +kernel
theorem dX12_run_30 : decode cX12_run 30 = .ok (.iconst 0, 1) := by decide +kernel
theorem dX12_run_31 : decode cX12_run 31 = .ok (.iastore, 1) := by decide +kernel
theorem dX12_run_32 : decode cX12_run 32 = .ok (.aload_n 0, 1) := by decide +kernel
theorem dX12_run_33 : decode cX12_run 33 = .ok (.iconst 0, 1) := by decide +kernel
theorem dX12_run_34 : decode cX12_run 34 = .ok (.putfield 117, 3) := by decide +kernel
theorem dX12_run_37 : decode cX12_run 37 = .ok (.iconst 0, 1) := by decide +kernel
theorem dX12_run_38 : decode cX12_run 38 = .ok (.istore_n 2, 1) := by decide +kernel
theorem dX12_run_39 : decode cX12_run 39 = .ok (.iload_n 2, 1) := by decide +kernel
theorem dX12_run_40 : decode cX12_run 40 = .ok (.aload_n 0, 1) := by decide +kernel
theorem dX12_run_41 : decode cX12_run 41 = .ok (.getfield 33, 3) := by decide +kernel
theorem dX12_run_44 : decode cX12_run 44 = .ok (.iconst 1, 1) := by decide +kernel
theorem dX12_run_45 : decode cX12_run 45 = .ok (.iaload, 1) := by decide +kernel
theorem dX12_run_46 : decode cX12_run 46 = .ok (.if_icmp .ge 84, 3) := by decide +kernel
theorem dX12_run_49 : decode cX12_run 49 = .ok (.aload_n 0, 1) := by decide +kernel
theorem dX12_run_50 : decode cX12_run 50 = .ok (.getfield 102, 3) := by decide +kernel
theorem dX12_run_53 : decode cX12_run 53 = .ok (.iload_n 2, 1) := by decide +kernel
theorem dX12_run_54 : decode cX12_run 54 = .ok (.iaload, 1) := by decide +kernel
theorem dX12_run_55 : decode cX12_run 55 = .ok (.istore_n 3, 1) := by decide +kernel
theorem dX12_run_56 : decode cX12_run 56 = .ok (.aload_n 0, 1) := by decide +kernel
theorem dX12_run_57 : decode cX12_run 57 = .ok (.iconst 4, 1) := by decide +kernel
theorem dX12_run_58 : decode cX12_run 58 = .ok (.invokevirtual 408, 3) := by decide +kernel
theorem dX12_run_61 : decode cX12_run 61 = .ok (.istore 4, 2) := by decide +kernel
theorem dX12_run_63 : decode cX12_run 63 = .ok (.iload 4, 2) := by decide +kernel
theorem dX12_run_65 : decode cX12_run 65 = .ok (.ifCond .ne 6, 3) := by decide +kernel
theorem dX12_run_68 : decode cX12_run 68 = .ok (.goto 56, 3) := by decide +kernel
theorem dX12_run_71 : decode cX12_run 71 = .ok (.iload 4, 2) := by decide +kernel
theorem dX12_run_73 : decode cX12_run 73 = .ok (.iconst 1, 1) := by decide +kernel
theorem dX12_run_74 : decode cX12_run 74 = .ok (.if_icmp .ne 17, 3) := by decide +kernel
theorem dX12_run_77 : decode cX12_run 77 = .ok (.aload_n 0, 1) := by decide +kernel
theorem dX12_run_78 : decode cX12_run 78 = .ok (.iload_n 3, 1) := by decide +kernel
theorem dX12_run_79 : decode cX12_run 79 = .ok (.iconst 5, 1) := by decide +kernel
theorem dX12_run_80 : decode cX12_run 80 = .ok (.invokevirtual 266, 3) := by decide +kernel
theorem dX12_run_83 : decode cX12_run 83 = .ok (.iconst 1, 1) := by decide +kernel
theorem dX12_run_84 : decode cX12_run 84 = .ok (.if_icmp .ne 7, 3) := by decide +kernel
theorem dX12_run_87 : decode cX12_run 87 = .ok (.iconst 1, 1) := by decide +kernel
theorem dX12_run_88 : decode cX12_run 88 = .ok (.goto 4, 3) := by decide +kernel
theorem dX12_run_91 : decode cX12_run 91 = .ok (.iconst 0, 1) := by decide +kernel
theorem dX12_run_92 : decode cX12_run 92 = .ok (.istore 5, 2) := by decide +kernel
theorem dX12_run_94 : decode cX12_run 94 = .ok (.aload_n 0, 1) := by decide +kernel
theorem dX12_run_95 : decode cX12_run 95 = .ok (.iload_n 3, 1) := by decide +kernel
theorem dX12_run_96 : decode cX12_run 96 = .ok (.iload 5, 2) := by decide +kernel
theorem dX12_run_98 : decode cX12_run 98 = .ok (.invokevirtual 292, 3) := by decide +kernel
theorem dX12_run_101 : decode cX12_run 101 = .ok (.ifCond .ne 13, 3) := by decide +kernel
theorem dX12_run_104 : decode cX12_run 104 = .ok (.aload_n 0, 1) := by decide +kernel
theorem dX12_run_105 : decode cX12_run 105 = .ok (.iload_n 3, 1) := by decide +kernel
theorem dX12_run_106 : decode cX12_run 106 = .ok (.iload 5, 2) := by decide +kernel
theorem dX12_run_108 : decode cX12_run 108 = .ok (.invokevirtual 295, 3) := by decide +kernel
theorem dX12_run_111 : decode cX12_run 111 = .ok (.goto 13, 3) := by decide +kernel
theorem dX12_run_114 : decode cX12_run 114 = .ok (.aload_n 0, 1) := by decide +kernel
theorem dX12_run_115 : decode cX12_run 115 = .ok (.dup, 1) := by decide +kernel
theorem dX12_run_116 : decode cX12_run 116 = .ok (.getfield 117, 3) := by decide +kernel
theorem dX12_run_119 : decode cX12_run 119 = .ok (.iconst 1, 1) := by decide +kernel
theorem dX12_run_120 : decode cX12_run 120 = .ok (.iadd, 1) := by decide +kernel
theorem dX12_run_121 : decode cX12_run 121 = .ok (.putfield 117, 3) := by decide +kernel
theorem dX12_run_124 : decode cX12_run 124 = .ok (.iinc 2 1, 3) := by decide +kernel
theorem dX12_run_127 : decode cX12_run 127 = .ok (.goto (-88), 3) := by decide +kernel
theorem dX12_run_130 : decode cX12_run 130 = .ok (.aload_n 0, 1) := by decide +kernel
theorem dX12_run_131 : decode cX12_run 131 = .ok (.getfield 33, 3) := by decide +kernel
theorem dX12_run_134 : decode cX12_run 134 = .ok (.iconst 3, 1) := by decide +kernel
theorem dX12_run_135 : decode cX12_run 135 = .ok (.iaload, 1) := by decide +kernel
theorem dX12_run_136 : decode cX12_run 136 = .ok (.ireturn, 1) := by decide +kernel
theorem dX12_refused_0 : decode cX12_refused 0 = .ok (.aload_n 0, 1) := by decide +kernel
theorem dX12_refused_1 : decode cX12_refused 1 = .ok (.iconst 0, 1) := by decide +kernel
theorem dX12_refused_2 : decode cX12_refused 2 = .ok (.putfield 1, 3) := by decide +kernel
theorem dX12_refused_5 : decode cX12_refused 5 = .ok (.aload_n 0, 1) := by decide +kernel
theorem dX12_refused_6 : decode cX12_refused 6 = .ok (.getfield 117, 3) := by decide +kernel
theorem dX12_refused_9 : decode cX12_refused 9 = .ok (.ireturn, 1) := by decide +kernel
theorem dX12_image_0 : decode cX12_image 0 = .ok (.aload_n 0, 1) := by decide +kernel
theorem dX12_image_1 : decode cX12_image 1 = .ok (.iconst 0, 1) := by decide +kernel
theorem dX12_image_2 : decode cX12_image 2 = .ok (.putfield 1, 3) := by decide +kernel
theorem dX12_image_5 : decode cX12_image 5 = .ok (.iload_n 1, 1) := by decide +kernel
theorem dX12_image_6 : decode cX12_image 6 = .ok (.iconst 0, 1) := by decide +kernel
theorem dX12_image_7 : decode cX12_image 7 = .ok (.iconst 1, 1) := by decide +kernel
theorem dX12_image_8 : decode cX12_image 8 = .ok (.invokestatic 197, 3) := by decide +kernel
theorem dX12_image_11 : decode cX12_image 11 = .ok (.ifCond .ne 5, 3) := by decide +kernel
theorem dX12_image_14 : decode cX12_image 14 = .ok (.iconst 0, 1) := by decide +kernel
theorem dX12_image_15 : decode cX12_image 15 = .ok (.ireturn, 1) := by decide +kernel
theorem dX12_image_16 : decode cX12_image 16 = .ok (.iconst 0, 1) := by decide +kernel
theorem dX12_image_17 : decode cX12_image 17 = .ok (.istore_n 2, 1) := by decide +kernel
theorem dX12_image_18 : decode cX12_image 18 = .ok (.iload_n 2, 1) := by decide +kernel
theorem dX12_image_19 : decode cX12_image 19 = .ok (.sipush 284, 3) := by decide +kernel
theorem dX12_image_22 : decode cX12_image 22 = .ok (.if_icmp .ge 27, 3) := by decide +kernel
theorem dX12_image_25 : decode cX12_image 25 = .ok (.aload_n 0, 1) := by decide +kernel
theorem dX12_image_26 : decode cX12_image 26 = .ok (.getfield 120, 3) := by decide +kernel
theorem dX12_image_29 : decode cX12_image 29 = .ok (.sipush 284, 3) := by decide +kernel
theorem dX12_image_32 : decode cX12_image 32 = .ok (.iload_n 1, 1) := by decide +kernel
theorem dX12_image_33 : decode cX12_image 33 = .ok (.imul, 1) := by decide +kernel
theorem dX12_image_34 : decode cX12_image 34 = .ok (.iload_n 2, 1) := by decide +kernel
theorem dX12_image_35 : decode cX12_image 35 = .ok (.iadd, 1) := by decide +kernel
theorem dX12_image_36 : decode cX12_image 36 = .ok (.aload_n 0, 1) := by decide +kernel
theorem dX12_image_37 : decode cX12_image 37 = .ok (.getfield 33, 3) := by decide +kernel
theorem dX12_image_40 : decode cX12_image 40 = .ok (.iload_n 2, 1) := by decide +kernel
theorem dX12_image_41 : decode cX12_image 41 = .ok (.iaload, 1) := by decide +kernel
theorem dX12_image_42 : decode cX12_image 42 = .ok (.iastore, 1) := by decide +kernel
theorem dX12_image_43 : decode cX12_image 43 = .ok (.iinc 2 1, 3) := by decide +kernel
theorem dX12_image_46 : decode cX12_image 46 = .ok (.goto (-28), 3) := by decide +kernel
theorem dX12_image_49 : decode cX12_image 49 = .ok (.iconst 0, 1) := by decide +kernel
theorem dX12_image_50 : decode cX12_image 50 = .ok (.istore_n 2, 1) := by decide +kernel
theorem dX12_image_51 : decode cX12_image 51 = .ok (.iload_n 2, 1) := by decide +kernel
theorem dX12_image_52 : decode cX12_image 52 = .ok (.bipush 40, 2) := by decide +kernel
theorem dX12_image_54 : decode cX12_image 54 = .ok (.if_icmp .ge 26, 3) := by decide +kernel
theorem dX12_image_57 : decode cX12_image 57 = .ok (.aload_n 0, 1) := by decide +kernel
theorem dX12_image_58 : decode cX12_image 58 = .ok (.getfield 123, 3) := by decide +kernel
theorem dX12_image_61 : decode cX12_image 61 = .ok (.bipush 40, 2) := by decide +kernel
theorem dX12_image_63 : decode cX12_image 63 = .ok (.iload_n 1, 1) := by decide +kernel
theorem dX12_image_64 : decode cX12_image 64 = .ok (.imul, 1) := by decide +kernel
theorem dX12_image_65 : decode cX12_image 65 = .ok (.iload_n 2, 1) := by decide +kernel
theorem dX12_image_66 : decode cX12_image 66 = .ok (.iadd, 1) := by decide +kernel
theorem dX12_image_67 : decode cX12_image 67 = .ok (.aload_n 0, 1) := by decide +kernel
theorem dX12_image_68 : decode cX12_image 68 = .ok (.getfield 46, 3) := by decide +kernel
theorem dX12_image_71 : decode cX12_image 71 = .ok (.iload_n 2, 1) := by decide +kernel
theorem dX12_image_72 : decode cX12_image 72 = .ok (.laload, 1) := by decide +kernel
theorem dX12_image_73 : decode cX12_image 73 = .ok (.lastore, 1) := by decide +kernel
theorem dX12_image_74 : decode cX12_image 74 = .ok (.iinc 2 1, 3) := by decide +kernel
theorem dX12_image_77 : decode cX12_image 77 = .ok (.goto (-26), 3) := by decide +kernel
theorem dX12_image_80 : decode cX12_image 80 = .ok (.aload_n 0, 1) := by decide +kernel
theorem dX12_image_81 : decode cX12_image 81 = .ok (.getfield 126, 3) := by decide +kernel
theorem dX12_image_84 : decode cX12_image 84 = .ok (.iload_n 1, 1) := by decide +kernel
theorem dX12_image_85 : decode cX12_image 85 = .ok (.iconst 1, 1) := by decide +kernel
theorem dX12_image_86 : decode cX12_image 86 = .ok (.bastore, 1) := by decide +kernel
theorem dX12_image_87 : decode cX12_image 87 = .ok (.iconst 1, 1) := by decide +kernel
theorem dX12_image_88 : decode cX12_image 88 = .ok (.ireturn, 1) := by decide +kernel
theorem dX12_restore_0 : decode cX12_restore 0 = .ok (.aload_n 0, 1) := by decide +kernel
theorem dX12_restore_1 : decode cX12_restore 1 = .ok (.iconst 0, 1) := by decide +kernel
theorem dX12_restore_2 : decode cX12_restore 2 = .ok (.putfield 1, 3) := by decide +kernel
theorem dX12_restore_5 : decode cX12_restore 5 = .ok (.iload_n 1, 1) := by decide +kernel
theorem dX12_restore_6 : decode cX12_restore 6 = .ok (.iconst 0, 1) := by decide +kernel
theorem dX12_restore_7 : decode cX12_restore 7 = .ok (.iconst 1, 1) := by decide +kernel
theorem dX12_restore_8 : decode cX12_restore 8 = .ok (.invokestatic 197, 3) := by decide +kernel
theorem dX12_restore_11 : decode cX12_restore 11 = .ok (.ifCond .eq 12, 3) := by decide +kernel
theorem dX12_restore_14 : decode cX12_restore 14 = .ok (.aload_n 0, 1) := by decide +kernel
theorem dX12_restore_15 : decode cX12_restore 15 = .ok (.getfield 126, 3) := by decide +kernel
theorem dX12_restore_18 : decode cX12_restore 18 = .ok (.iload_n 1, 1) := by decide +kernel
theorem dX12_restore_19 : decode cX12_restore 19 = .ok (.baload, 1) := by decide +kernel
theorem dX12_restore_20 : decode cX12_restore 20 = .ok (.ifCond .ne 5, 3) := by decide +kernel
theorem dX12_restore_23 : decode cX12_restore 23 = .ok (.iconst 0, 1) := by decide +kernel
theorem dX12_restore_24 : decode cX12_restore 24 = .ok (.ireturn, 1) := by decide +kernel
theorem dX12_restore_25 : decode cX12_restore 25 = .ok (.iconst 0, 1) := by decide +kernel
theorem dX12_restore_26 : decode cX12_restore 26 = .ok (.istore_n 2, 1) := by decide +kernel
theorem dX12_restore_27 : decode cX12_restore 27 = .ok (.iload_n 2, 1) := by decide +kernel
theorem dX12_restore_28 : decode cX12_restore 28 = .ok (.sipush 284, 3) := by decide +kernel
theorem dX12_restore_31 : decode cX12_restore 31 = .ok (.if_icmp .ge 27, 3) := by decide +kernel
theorem dX12_restore_34 : decode cX12_restore 34 = .ok (.aload_n 0, 1) := by decide +kernel
theorem dX12_restore_35 : decode cX12_restore 35 = .ok (.getfield 33, 3) := by decide +kernel
theorem dX12_restore_38 : decode cX12_restore 38 = .ok (.iload_n 2, 1) := by decide +kernel
theorem dX12_restore_39 : decode cX12_restore 39 = .ok (.aload_n 0, 1) := by decide +kernel
theorem dX12_restore_40 : decode cX12_restore 40 = .ok (.getfield 120, 3) := by decide +kernel
theorem dX12_restore_43 : decode cX12_restore 43 = .ok (.sipush 284, 3) := by decide +kernel
theorem dX12_restore_46 : decode cX12_restore 46 = .ok (.iload_n 1, 1) := by decide +kernel
theorem dX12_restore_47 : decode cX12_restore 47 = .ok (.imul, 1) := by decide +kernel
theorem dX12_restore_48 : decode cX12_restore 48 = .ok (.iload_n 2, 1) := by decide +kernel
theorem dX12_restore_49 : decode cX12_restore 49 = .ok (.iadd, 1) := by decide +kernel
theorem dX12_restore_50 : decode cX12_restore 50 = .ok (.iaload, 1) := by decide +kernel
theorem dX12_restore_51 : decode cX12_restore 51 = .ok (.iastore, 1) := by decide +kernel
theorem dX12_restore_52 : decode cX12_restore 52 = .ok (.iinc 2 1, 3) := by decide +kernel
theorem dX12_restore_55 : decode cX12_restore 55 = .ok (.goto (-28), 3) := by decide +kernel
theorem dX12_restore_58 : decode cX12_restore 58 = .ok (.iconst 0, 1) := by decide +kernel
theorem dX12_restore_59 : decode cX12_restore 59 = .ok (.istore_n 2, 1) := by decide +kernel
theorem dX12_restore_60 : decode cX12_restore 60 = .ok (.iload_n 2, 1) := by decide +kernel
theorem dX12_restore_61 : decode cX12_restore 61 = .ok (.bipush 40, 2) := by decide +kernel
theorem dX12_restore_63 : decode cX12_restore 63 = .ok (.if_icmp .ge 26, 3) := by decide +kernel
theorem dX12_restore_66 : decode cX12_restore 66 = .ok (.aload_n 0, 1) := by decide +kernel
theorem dX12_restore_67 : decode cX12_restore 67 = .ok (.getfield 46, 3) := by decide +kernel
theorem dX12_restore_70 : decode cX12_restore 70 = .ok (.iload_n 2, 1) := by decide +kernel
theorem dX12_restore_71 : decode cX12_restore 71 = .ok (.aload_n 0, 1) := by decide +kernel
theorem dX12_restore_72 : decode cX12_restore 72 = .ok (.getfield 123, 3) := by decide +kernel
theorem dX12_restore_75 : decode cX12_restore 75 = .ok (.bipush 40, 2) := by decide +kernel
theorem dX12_restore_77 : decode cX12_restore 77 = .ok (.iload_n 1, 1) := by decide +kernel
theorem dX12_restore_78 : decode cX12_restore 78 = .ok (.imul, 1) := by decide +kernel
theorem dX12_restore_79 : decode cX12_restore 79 = .ok (.iload_n 2, 1) := by decide +kernel
theorem dX12_restore_80 : decode cX12_restore 80 = .ok (.iadd, 1) := by decide +kernel
theorem dX12_restore_81 : decode cX12_restore 81 = .ok (.laload, 1) := by decide +kernel
theorem dX12_restore_82 : decode cX12_restore 82 = .ok (.lastore, 1) := by decide +kernel
theorem dX12_restore_83 : decode cX12_restore 83 = .ok (.iinc 2 1, 3) := by decide +kernel
theorem dX12_restore_86 : decode cX12_restore 86 = .ok (.goto (-26), 3) := by decide +kernel
theorem dX12_restore_89 : decode cX12_restore 89 = .ok (.aload_n 0, 1) := by decide +kernel
theorem dX12_restore_90 : decode cX12_restore 90 = .ok (.iconst 1, 1) := by decide +kernel
theorem dX12_restore_91 : decode cX12_restore 91 = .ok (.putfield 151, 3) := by decide +kernel
theorem dX12_restore_94 : decode cX12_restore 94 = .ok (.iconst 1, 1) := by decide +kernel
theorem dX12_restore_95 : decode cX12_restore 95 = .ok (.ireturn, 1) := by decide +kernel
theorem dX12_count_0 : decode cX12_count 0 = .ok (.aload_n 0, 1) := by decide +kernel
theorem dX12_count_1 : decode cX12_count 1 = .ok (.iconst 0, 1) := by decide +kernel
theorem dX12_count_2 : decode cX12_count 2 = .ok (.putfield 1, 3) := by decide +kernel
theorem dX12_count_5 : decode cX12_count 5 = .ok (.iload_n 1, 1) := by decide +kernel
theorem dX12_count_6 : decode cX12_count 6 = .ok (.iconst 0, 1) := by decide +kernel
theorem dX12_count_7 : decode cX12_count 7 = .ok (.iconst 3, 1) := by decide +kernel
theorem dX12_count_8 : decode cX12_count 8 = .ok (.invokestatic 197, 3) := by decide +kernel
theorem dX12_count_11 : decode cX12_count 11 = .ok (.ifCond .eq 12, 3) := by decide +kernel
theorem dX12_count_14 : decode cX12_count 14 = .ok (.aload_n 0, 1) := by decide +kernel
theorem dX12_count_15 : decode cX12_count 15 = .ok (.getfield 33, 3) := by decide +kernel
theorem dX12_count_18 : decode cX12_count 18 = .ok (.iload_n 1, 1) := by decide +kernel
theorem dX12_count_19 : decode cX12_count 19 = .ok (.iaload, 1) := by decide +kernel
theorem dX12_count_20 : decode cX12_count 20 = .ok (.goto 16, 3) := by decide +kernel
theorem dX12_count_23 : decode cX12_count 23 = .ok (.iload_n 1, 1) := by decide +kernel
theorem dX12_count_24 : decode cX12_count 24 = .ok (.iconst 4, 1) := by decide +kernel
theorem dX12_count_25 : decode cX12_count 25 = .ok (.if_icmp .ne 10, 3) := by decide +kernel
theorem dX12_count_28 : decode cX12_count 28 = .ok (.aload_n 0, 1) := by decide +kernel
theorem dX12_count_29 : decode cX12_count 29 = .ok (.getfield 7, 3) := by decide +kernel
theorem dX12_count_32 : decode cX12_count 32 = .ok (.goto 4, 3) := by decide +kernel
theorem dX12_count_35 : decode cX12_count 35 = .ok (.iconst (-1), 1) := by decide +kernel
theorem dX12_count_36 : decode cX12_count 36 = .ok (.ireturn, 1) := by decide +kernel
theorem dJ6_bitCount_0f7a4_0 : decode cJ6_bitCount_0f7a4 0 = .ok (.iload_n 0, 1) := by decide +kernel
theorem dJ6_bitCount_0f7a4_1 : decode cJ6_bitCount_0f7a4 1 = .ok (.iload_n 0, 1) := by decide +kernel
theorem dJ6_bitCount_0f7a4_2 : decode cJ6_bitCount_0f7a4 2 = .ok (.iconst 1, 1) := by decide +kernel
theorem dJ6_bitCount_0f7a4_3 : decode cJ6_bitCount_0f7a4 3 = .ok (.iushr, 1) := by decide +kernel
theorem dJ6_bitCount_0f7a4_4 : decode cJ6_bitCount_0f7a4 4 = .ok (.ldc_w 265, 3) := by decide +kernel
theorem dJ6_bitCount_0f7a4_7 : decode cJ6_bitCount_0f7a4 7 = .ok (.iand, 1) := by decide +kernel
theorem dJ6_bitCount_0f7a4_8 : decode cJ6_bitCount_0f7a4 8 = .ok (.isub, 1) := by decide +kernel
theorem dJ6_bitCount_0f7a4_9 : decode cJ6_bitCount_0f7a4 9 = .ok (.istore_n 0, 1) := by decide +kernel
theorem dJ6_bitCount_0f7a4_10 : decode cJ6_bitCount_0f7a4 10 = .ok (.iload_n 0, 1) := by decide +kernel
theorem dJ6_bitCount_0f7a4_11 : decode cJ6_bitCount_0f7a4 11 = .ok (.ldc_w 266, 3) := by decide +kernel
theorem dJ6_bitCount_0f7a4_14 : decode cJ6_bitCount_0f7a4 14 = .ok (.iand, 1) := by decide +kernel
theorem dJ6_bitCount_0f7a4_15 : decode cJ6_bitCount_0f7a4 15 = .ok (.iload_n 0, 1) := by decide +kernel
theorem dJ6_bitCount_0f7a4_16 : decode cJ6_bitCount_0f7a4 16 = .ok (.iconst 2, 1) := by decide +kernel
theorem dJ6_bitCount_0f7a4_17 : decode cJ6_bitCount_0f7a4 17 = .ok (.iushr, 1) := by decide +kernel
theorem dJ6_bitCount_0f7a4_18 : decode cJ6_bitCount_0f7a4 18 = .ok (.ldc_w 266, 3) := by decide +kernel
theorem dJ6_bitCount_0f7a4_21 : decode cJ6_bitCount_0f7a4 21 = .ok (.iand, 1) := by decide +kernel
theorem dJ6_bitCount_0f7a4_22 : decode cJ6_bitCount_0f7a4 22 = .ok (.iadd, 1) := by decide +kernel
theorem dJ6_bitCount_0f7a4_23 : decode cJ6_bitCount_0f7a4 23 = .ok (.istore_n 0, 1) := by decide +kernel
theorem dJ6_bitCount_0f7a4_24 : decode cJ6_bitCount_0f7a4 24 = .ok (.iload_n 0, 1) := by decide +kernel
theorem dJ6_bitCount_0f7a4_25 : decode cJ6_bitCount_0f7a4 25 = .ok (.iload_n 0, 1) := by decide +kernel
theorem dJ6_bitCount_0f7a4_26 : decode cJ6_bitCount_0f7a4 26 = .ok (.iconst 4, 1) := by decide +kernel
theorem dJ6_bitCount_0f7a4_27 : decode cJ6_bitCount_0f7a4 27 = .ok (.iushr, 1) := by decide +kernel
theorem dJ6_bitCount_0f7a4_28 : decode cJ6_bitCount_0f7a4 28 = .ok (.iadd, 1) := by decide +kernel
theorem dJ6_bitCount_0f7a4_29 : decode cJ6_bitCount_0f7a4 29 = .ok (.ldc_w 267, 3) := by decide +kernel
theorem dJ6_bitCount_0f7a4_32 : decode cJ6_bitCount_0f7a4 32 = .ok (.iand, 1) := by decide +kernel
theorem dJ6_bitCount_0f7a4_33 : decode cJ6_bitCount_0f7a4 33 = .ok (.istore_n 0, 1) := by decide +kernel
theorem dJ6_bitCount_0f7a4_34 : decode cJ6_bitCount_0f7a4 34 = .ok (.iload_n 0, 1) := by decide +kernel
theorem dJ6_bitCount_0f7a4_35 : decode cJ6_bitCount_0f7a4 35 = .ok (.iload_n 0, 1) := by decide +kernel
theorem dJ6_bitCount_0f7a4_36 : decode cJ6_bitCount_0f7a4 36 = .ok (.bipush 8, 2) := by decide +kernel
theorem dJ6_bitCount_0f7a4_38 : decode cJ6_bitCount_0f7a4 38 = .ok (.iushr, 1) := by decide +kernel
theorem dJ6_bitCount_0f7a4_39 : decode cJ6_bitCount_0f7a4 39 = .ok (.iadd, 1) := by decide +kernel
theorem dJ6_bitCount_0f7a4_40 : decode cJ6_bitCount_0f7a4 40 = .ok (.istore_n 0, 1) := by decide +kernel
theorem dJ6_bitCount_0f7a4_41 : decode cJ6_bitCount_0f7a4 41 = .ok (.iload_n 0, 1) := by decide +kernel
theorem dJ6_bitCount_0f7a4_42 : decode cJ6_bitCount_0f7a4 42 = .ok (.iload_n 0, 1) := by decide +kernel
theorem dJ6_bitCount_0f7a4_43 : decode cJ6_bitCount_0f7a4 43 = .ok (.bipush 16, 2) := by decide +kernel
theorem dJ6_bitCount_0f7a4_45 : decode cJ6_bitCount_0f7a4 45 = .ok (.iushr, 1) := by decide +kernel
theorem dJ6_bitCount_0f7a4_46 : decode cJ6_bitCount_0f7a4 46 = .ok (.iadd, 1) := by decide +kernel
theorem dJ6_bitCount_0f7a4_47 : decode cJ6_bitCount_0f7a4 47 = .ok (.istore_n 0, 1) := by decide +kernel
theorem dJ6_bitCount_0f7a4_48 : decode cJ6_bitCount_0f7a4 48 = .ok (.iload_n 0, 1) := by decide +kernel
theorem dJ6_bitCount_0f7a4_49 : decode cJ6_bitCount_0f7a4 49 = .ok (.bipush 63, 2) := by decide +kernel
theorem dJ6_bitCount_0f7a4_51 : decode cJ6_bitCount_0f7a4 51 = .ok (.iand, 1) := by decide +kernel
theorem dJ6_bitCount_0f7a4_52 : decode cJ6_bitCount_0f7a4 52 = .ok (.ireturn, 1) := by decide +kernel
theorem dJ9_max_7cf53_0 : decode cJ9_max_7cf53 0 = .ok (.iload_n 0, 1) := by decide +kernel
theorem dJ9_max_7cf53_1 : decode cJ9_max_7cf53 1 = .ok (.iload_n 1, 1) := by decide +kernel
theorem dJ9_max_7cf53_2 : decode cJ9_max_7cf53 2 = .ok (.if_icmp .lt 7, 3) := by decide +kernel
theorem dJ9_max_7cf53_5 : decode cJ9_max_7cf53 5 = .ok (.iload_n 0, 1) := by decide +kernel
theorem dJ9_max_7cf53_6 : decode cJ9_max_7cf53 6 = .ok (.goto 4, 3) := by decide +kernel
theorem dJ9_max_7cf53_9 : decode cJ9_max_7cf53 9 = .ok (.iload_n 1, 1) := by decide +kernel
theorem dJ9_max_7cf53_10 : decode cJ9_max_7cf53 10 = .ok (.ireturn, 1) := by decide +kernel
theorem dJ9_min_7cf53_0 : decode cJ9_min_7cf53 0 = .ok (.iload_n 0, 1) := by decide +kernel
theorem dJ9_min_7cf53_1 : decode cJ9_min_7cf53 1 = .ok (.iload_n 1, 1) := by decide +kernel
theorem dJ9_min_7cf53_2 : decode cJ9_min_7cf53 2 = .ok (.if_icmp .gt 7, 3) := by decide +kernel
theorem dJ9_min_7cf53_5 : decode cJ9_min_7cf53 5 = .ok (.iload_n 0, 1) := by decide +kernel
theorem dJ9_min_7cf53_6 : decode cJ9_min_7cf53 6 = .ok (.goto 4, 3) := by decide +kernel
theorem dJ9_min_7cf53_9 : decode cJ9_min_7cf53 9 = .ok (.iload_n 1, 1) := by decide +kernel
theorem dJ9_min_7cf53_10 : decode cJ9_min_7cf53 10 = .ok (.ireturn, 1) := by decide +kernel
theorem dJ0_length_8abf5_0 : decode cJ0_length_8abf5 0 = .ok (.aload_n 0, 1) := by decide +kernel
theorem dJ0_length_8abf5_1 : decode cJ0_length_8abf5 1 = .ok (.getfield 9, 3) := by decide +kernel
theorem dJ0_length_8abf5_4 : decode cJ0_length_8abf5 4 = .ok (.arraylength, 1) := by decide +kernel
theorem dJ0_length_8abf5_5 : decode cJ0_length_8abf5 5 = .ok (.aload_n 0, 1) := by decide +kernel
theorem dJ0_length_8abf5_6 : decode cJ0_length_8abf5 6 = .ok (.invokevirtual 335, 3) := by decide +kernel
theorem dJ0_length_8abf5_9 : decode cJ0_length_8abf5 9 = .ok (.ishr, 1) := by decide +kernel
theorem dJ0_length_8abf5_10 : decode cJ0_length_8abf5 10 = .ok (.ireturn, 1) := by decide +kernel
theorem dJ0_charAt_5068e_0 : decode cJ0_charAt_5068e 0 = .ok (.aload_n 0, 1) := by decide +kernel
theorem dJ0_charAt_5068e_1 : decode cJ0_charAt_5068e 1 = .ok (.invokevirtual 492, 3) := by decide +kernel
theorem dJ0_charAt_5068e_4 : decode cJ0_charAt_5068e 4 = .ok (.ifCond .eq 12, 3) := by decide +kernel
theorem dJ0_charAt_5068e_7 : decode cJ0_charAt_5068e 7 = .ok (.aload_n 0, 1) := by decide +kernel
theorem dJ0_charAt_5068e_8 : decode cJ0_charAt_5068e 8 = .ok (.getfield 9, 3) := by decide +kernel
theorem dJ0_charAt_5068e_11 : decode cJ0_charAt_5068e 11 = .ok (.iload_n 1, 1) := by decide +kernel
theorem dJ0_charAt_5068e_12 : decode cJ0_charAt_5068e 12 = .ok (.invokestatic 495, 3) := by decide +kernel
theorem dJ0_charAt_5068e_15 : decode cJ0_charAt_5068e 15 = .ok (.ireturn, 1) := by decide +kernel
theorem dJ0_charAt_5068e_16 : decode cJ0_charAt_5068e 16 = .ok (.aload_n 0, 1) := by decide +kernel
theorem dJ0_charAt_5068e_17 : decode cJ0_charAt_5068e 17 = .ok (.getfield 9, 3) := by decide +kernel
theorem dJ0_charAt_5068e_20 : decode cJ0_charAt_5068e 20 = .ok (.iload_n 1, 1) := by decide +kernel
theorem dJ0_charAt_5068e_21 : decode cJ0_charAt_5068e 21 = .ok (.invokestatic 498, 3) := by decide +kernel
theorem dJ0_charAt_5068e_24 : decode cJ0_charAt_5068e 24 = .ok (.ireturn, 1) := by decide +kernel
theorem dJ0_coder_7d493_0 : decode cJ0_coder_7d493 0 = .ok (.getstatic 38, 3) := by decide +kernel
theorem dJ0_coder_7d493_3 : decode cJ0_coder_7d493 3 = .ok (.ifCond .eq 10, 3) := by decide +kernel
theorem dJ0_coder_7d493_6 : decode cJ0_coder_7d493 6 = .ok (.aload_n 0, 1) := by decide +kernel
theorem dJ0_coder_7d493_7 : decode cJ0_coder_7d493 7 = .ok (.getfield 15, 3) := by decide +kernel
theorem dJ0_coder_7d493_10 : decode cJ0_coder_7d493 10 = .ok (.goto 4, 3) := by decide +kernel
theorem dJ0_coder_7d493_13 : decode cJ0_coder_7d493 13 = .ok (.iconst 1, 1) := by decide +kernel
theorem dJ0_coder_7d493_14 : decode cJ0_coder_7d493 14 = .ok (.ireturn, 1) := by decide +kernel
theorem dJ0_isLatin1_aae02_0 : decode cJ0_isLatin1_aae02 0 = .ok (.getstatic 38, 3) := by decide +kernel
theorem dJ0_isLatin1_aae02_3 : decode cJ0_isLatin1_aae02 3 = .ok (.ifCond .eq 14, 3) := by decide +kernel
theorem dJ0_isLatin1_aae02_6 : decode cJ0_isLatin1_aae02 6 = .ok (.aload_n 0, 1) := by decide +kernel
theorem dJ0_isLatin1_aae02_7 : decode cJ0_isLatin1_aae02 7 = .ok (.getfield 15, 3) := by decide +kernel
theorem dJ0_isLatin1_aae02_10 : decode cJ0_isLatin1_aae02 10 = .ok (.ifCond .ne 7, 3) := by decide +kernel
theorem dJ0_isLatin1_aae02_13 : decode cJ0_isLatin1_aae02 13 = .ok (.iconst 1, 1) := by decide +kernel
theorem dJ0_isLatin1_aae02_14 : decode cJ0_isLatin1_aae02 14 = .ok (.goto 4, 3) := by decide +kernel
theorem dJ0_isLatin1_aae02_17 : decode cJ0_isLatin1_aae02 17 = .ok (.iconst 0, 1) := by decide +kernel
theorem dJ0_isLatin1_aae02_18 : decode cJ0_isLatin1_aae02 18 = .ok (.ireturn, 1) := by decide +kernel
theorem dJ0_checkIndex_df160_0 : decode cJ0_checkIndex_df160 0 = .ok (.iload_n 0, 1) := by decide +kernel
theorem dJ0_checkIndex_df160_1 : decode cJ0_checkIndex_df160 1 = .ok (.iload_n 1, 1) := by decide +kernel
theorem dJ0_checkIndex_df160_2 : decode cJ0_checkIndex_df160 2 = .ok (.getstatic 1053, 3) := by decide +kernel
theorem dJ0_checkIndex_df160_5 : decode cJ0_checkIndex_df160 5 = .ok (.invokestatic 1059, 3) := by decide +kernel
theorem dJ0_checkIndex_df160_8 : decode cJ0_checkIndex_df160 8 = .ok (.pop, 1) := by decide +kernel
theorem dJ0_checkIndex_df160_9 : decode cJ0_checkIndex_df160 9 = .ok (.return_, 1) := by decide +kernel
theorem dJ1_charAt_3b067_0 : decode cJ1_charAt_3b067 0 = .ok (.iload_n 1, 1) := by decide +kernel
theorem dJ1_charAt_3b067_1 : decode cJ1_charAt_3b067 1 = .ok (.aload_n 0, 1) := by decide +kernel
theorem dJ1_charAt_3b067_2 : decode cJ1_charAt_3b067 2 = .ok (.arraylength, 1) := by decide +kernel
theorem dJ1_charAt_3b067_3 : decode cJ1_charAt_3b067 3 = .ok (.invokestatic 9, 3) := by decide +kernel
theorem dJ1_charAt_3b067_6 : decode cJ1_charAt_3b067 6 = .ok (.aload_n 0, 1) := by decide +kernel
theorem dJ1_charAt_3b067_7 : decode cJ1_charAt_3b067 7 = .ok (.iload_n 1, 1) := by decide +kernel
theorem dJ1_charAt_3b067_8 : decode cJ1_charAt_3b067 8 = .ok (.baload, 1) := by decide +kernel
theorem dJ1_charAt_3b067_9 : decode cJ1_charAt_3b067 9 = .ok (.sipush 255, 3) := by decide +kernel
theorem dJ1_charAt_3b067_12 : decode cJ1_charAt_3b067 12 = .ok (.iand, 1) := by decide +kernel
theorem dJ1_charAt_3b067_13 : decode cJ1_charAt_3b067 13 = .ok (.i2c, 1) := by decide +kernel
theorem dJ1_charAt_3b067_14 : decode cJ1_charAt_3b067 14 = .ok (.ireturn, 1) := by decide +kernel
theorem dJ2_getChar_3b067_0 : decode cJ2_getChar_3b067 0 = .ok (.getstatic 44, 3) := by decide +kernel
theorem dJ2_getChar_3b067_3 : decode cJ2_getChar_3b067 3 = .ok (.ifCond .ne 25, 3) := by decide +kernel
theorem dJ2_getChar_3b067_6 : decode cJ2_getChar_3b067 6 = .ok (.iload_n 1, 1) := by decide +kernel
theorem dJ2_getChar_3b067_7 : decode cJ2_getChar_3b067 7 = .ok (.ifCond .lt 11, 3) := by decide +kernel
theorem dJ2_getChar_3b067_10 : decode cJ2_getChar_3b067 10 = .ok (.iload_n 1, 1) := by decide +kernel
theorem dJ2_getChar_3b067_11 : decode cJ2_getChar_3b067 11 = .ok (.aload_n 0, 1) := by decide +kernel
theorem dJ2_getChar_3b067_12 : decode cJ2_getChar_3b067 12 = .ok (.invokestatic 48, 3) := by decide +kernel
theorem dJ2_getChar_3b067_15 : decode cJ2_getChar_3b067 15 = .ok (.if_icmp .lt 13, 3) := by decide +kernel
theorem dJ2_getChar_3b067_18 : decode cJ2_getChar_3b067 18 = .ok (.new 52, 3) := by decide +kernel
theorem dJ2_getChar_3b067_21 : decode cJ2_getChar_3b067 21 = .ok (.dup, 1) := by decide +kernel
theorem dJ2_getChar_3b067_22 : decode cJ2_getChar_3b067 22 = .ok (.ldc 54, 2) := by decide +kernel
theorem dJ2_getChar_3b067_24 : decode cJ2_getChar_3b067 24 = .ok (.invokespecial 56, 3) := by decide +kernel
theorem dJ2_getChar_3b067_27 : decode cJ2_getChar_3b067 27 = .ok (.athrow, 1) := by decide +kernel
theorem dJ2_getChar_3b067_28 : decode cJ2_getChar_3b067 28 = .ok (.iload_n 1, 1) := by decide +kernel
theorem dJ2_getChar_3b067_29 : decode cJ2_getChar_3b067 29 = .ok (.iconst 1, 1) := by decide +kernel
theorem dJ2_getChar_3b067_30 : decode cJ2_getChar_3b067 30 = .ok (.ishl, 1) := by decide +kernel
theorem dJ2_getChar_3b067_31 : decode cJ2_getChar_3b067 31 = .ok (.istore_n 1, 1) := by decide +kernel
theorem dJ2_getChar_3b067_32 : decode cJ2_getChar_3b067 32 = .ok (.aload_n 0, 1) := by decide +kernel
theorem dJ2_getChar_3b067_33 : decode cJ2_getChar_3b067 33 = .ok (.iload_n 1, 1) := by decide +kernel
theorem dJ2_getChar_3b067_34 : decode cJ2_getChar_3b067 34 = .ok (.iinc 1 1, 3) := by decide +kernel
theorem dJ2_getChar_3b067_37 : decode cJ2_getChar_3b067 37 = .ok (.baload, 1) := by decide +kernel
theorem dJ2_getChar_3b067_38 : decode cJ2_getChar_3b067 38 = .ok (.sipush 255, 3) := by decide +kernel
theorem dJ2_getChar_3b067_41 : decode cJ2_getChar_3b067 41 = .ok (.iand, 1) := by decide +kernel
theorem dJ2_getChar_3b067_42 : decode cJ2_getChar_3b067 42 = .ok (.getstatic 59, 3) := by decide +kernel
theorem dJ2_getChar_3b067_45 : decode cJ2_getChar_3b067 45 = .ok (.ishl, 1) := by decide +kernel
theorem dJ2_getChar_3b067_46 : decode cJ2_getChar_3b067 46 = .ok (.aload_n 0, 1) := by decide +kernel
theorem dJ2_getChar_3b067_47 : decode cJ2_getChar_3b067 47 = .ok (.iload_n 1, 1) := by decide +kernel
theorem dJ2_getChar_3b067_48 : decode cJ2_getChar_3b067 48 = .ok (.baload, 1) := by decide +kernel
theorem dJ2_getChar_3b067_49 : decode cJ2_getChar_3b067 49 = .ok (.sipush 255, 3) := by decide +kernel
theorem dJ2_getChar_3b067_52 : decode cJ2_getChar_3b067 52 = .ok (.iand, 1) := by decide +kernel
theorem dJ2_getChar_3b067_53 : decode cJ2_getChar_3b067 53 = .ok (.getstatic 63, 3) := by decide +kernel
theorem dJ2_getChar_3b067_56 : decode cJ2_getChar_3b067 56 = .ok (.ishl, 1) := by decide +kernel
theorem dJ2_getChar_3b067_57 : decode cJ2_getChar_3b067 57 = .ok (.ior, 1) := by decide +kernel
theorem dJ2_getChar_3b067_58 : decode cJ2_getChar_3b067 58 = .ok (.i2c, 1) := by decide +kernel
theorem dJ2_getChar_3b067_59 : decode cJ2_getChar_3b067 59 = .ok (.ireturn, 1) := by decide +kernel
theorem dJ2_length_9d52b_0 : decode cJ2_length_9d52b 0 = .ok (.aload_n 0, 1) := by decide +kernel
theorem dJ2_length_9d52b_1 : decode cJ2_length_9d52b 1 = .ok (.arraylength, 1) := by decide +kernel
theorem dJ2_length_9d52b_2 : decode cJ2_length_9d52b 2 = .ok (.iconst 1, 1) := by decide +kernel
theorem dJ2_length_9d52b_3 : decode cJ2_length_9d52b 3 = .ok (.ishr, 1) := by decide +kernel
theorem dJ2_length_9d52b_4 : decode cJ2_length_9d52b 4 = .ok (.ireturn, 1) := by decide +kernel
theorem dJ2_charAt_3b067_0 : decode cJ2_charAt_3b067 0 = .ok (.iload_n 1, 1) := by decide +kernel
theorem dJ2_charAt_3b067_1 : decode cJ2_charAt_3b067 1 = .ok (.aload_n 0, 1) := by decide +kernel
theorem dJ2_charAt_3b067_2 : decode cJ2_charAt_3b067 2 = .ok (.invokestatic 67, 3) := by decide +kernel
theorem dJ2_charAt_3b067_5 : decode cJ2_charAt_3b067 5 = .ok (.aload_n 0, 1) := by decide +kernel
theorem dJ2_charAt_3b067_6 : decode cJ2_charAt_3b067 6 = .ok (.iload_n 1, 1) := by decide +kernel
theorem dJ2_charAt_3b067_7 : decode cJ2_charAt_3b067 7 = .ok (.invokestatic 71, 3) := by decide +kernel
theorem dJ2_charAt_3b067_10 : decode cJ2_charAt_3b067 10 = .ok (.ireturn, 1) := by decide +kernel
theorem dJ2_checkIndex_2214a_0 : decode cJ2_checkIndex_2214a 0 = .ok (.iload_n 0, 1) := by decide +kernel
theorem dJ2_checkIndex_2214a_1 : decode cJ2_checkIndex_2214a 1 = .ok (.aload_n 1, 1) := by decide +kernel
theorem dJ2_checkIndex_2214a_2 : decode cJ2_checkIndex_2214a 2 = .ok (.invokestatic 48, 3) := by decide +kernel
theorem dJ2_checkIndex_2214a_5 : decode cJ2_checkIndex_2214a 5 = .ok (.invokestatic 414, 3) := by decide +kernel
theorem dJ2_checkIndex_2214a_8 : decode cJ2_checkIndex_2214a 8 = .ok (.return_, 1) := by decide +kernel
theorem dJ7_fill_53178_0 : decode cJ7_fill_53178 0 = .ok (.iconst 0, 1) := by decide +kernel
theorem dJ7_fill_53178_1 : decode cJ7_fill_53178 1 = .ok (.istore_n 2, 1) := by decide +kernel
theorem dJ7_fill_53178_2 : decode cJ7_fill_53178 2 = .ok (.aload_n 0, 1) := by decide +kernel
theorem dJ7_fill_53178_3 : decode cJ7_fill_53178 3 = .ok (.arraylength, 1) := by decide +kernel
theorem dJ7_fill_53178_4 : decode cJ7_fill_53178 4 = .ok (.istore_n 3, 1) := by decide +kernel
theorem dJ7_fill_53178_5 : decode cJ7_fill_53178 5 = .ok (.iload_n 2, 1) := by decide +kernel
theorem dJ7_fill_53178_6 : decode cJ7_fill_53178 6 = .ok (.iload_n 3, 1) := by decide +kernel
theorem dJ7_fill_53178_7 : decode cJ7_fill_53178 7 = .ok (.if_icmp .ge 13, 3) := by decide +kernel
theorem dJ7_fill_53178_10 : decode cJ7_fill_53178 10 = .ok (.aload_n 0, 1) := by decide +kernel
theorem dJ7_fill_53178_11 : decode cJ7_fill_53178 11 = .ok (.iload_n 2, 1) := by decide +kernel
theorem dJ7_fill_53178_12 : decode cJ7_fill_53178 12 = .ok (.iload_n 1, 1) := by decide +kernel
theorem dJ7_fill_53178_13 : decode cJ7_fill_53178 13 = .ok (.iastore, 1) := by decide +kernel
theorem dJ7_fill_53178_14 : decode cJ7_fill_53178 14 = .ok (.iinc 2 1, 3) := by decide +kernel
theorem dJ7_fill_53178_17 : decode cJ7_fill_53178 17 = .ok (.goto (-12), 3) := by decide +kernel
theorem dJ7_fill_53178_20 : decode cJ7_fill_53178 20 = .ok (.return_, 1) := by decide +kernel
theorem dJ3_checkIndex_8e157_0 : decode cJ3_checkIndex_8e157 0 = .ok (.iload_n 0, 1) := by decide +kernel
theorem dJ3_checkIndex_8e157_1 : decode cJ3_checkIndex_8e157 1 = .ok (.ifCond .lt 8, 3) := by decide +kernel
theorem dJ3_checkIndex_8e157_4 : decode cJ3_checkIndex_8e157 4 = .ok (.iload_n 0, 1) := by decide +kernel
theorem dJ3_checkIndex_8e157_5 : decode cJ3_checkIndex_8e157 5 = .ok (.iload_n 1, 1) := by decide +kernel
theorem dJ3_checkIndex_8e157_6 : decode cJ3_checkIndex_8e157 6 = .ok (.if_icmp .lt 10, 3) := by decide +kernel
theorem dJ3_checkIndex_8e157_9 : decode cJ3_checkIndex_8e157 9 = .ok (.aload_n 2, 1) := by decide +kernel
theorem dJ3_checkIndex_8e157_10 : decode cJ3_checkIndex_8e157 10 = .ok (.iload_n 0, 1) := by decide +kernel
theorem dJ3_checkIndex_8e157_11 : decode cJ3_checkIndex_8e157 11 = .ok (.iload_n 1, 1) := by decide +kernel
theorem dJ3_checkIndex_8e157_12 : decode cJ3_checkIndex_8e157 12 = .ok (.invokestatic 95, 3) := by decide +kernel
theorem dJ3_checkIndex_8e157_15 : decode cJ3_checkIndex_8e157 15 = .ok (.athrow, 1) := by decide +kernel
theorem dJ3_checkIndex_8e157_16 : decode cJ3_checkIndex_8e157 16 = .ok (.iload_n 0, 1) := by decide +kernel
theorem dJ3_checkIndex_8e157_17 : decode cJ3_checkIndex_8e157 17 = .ok (.ireturn, 1) := by decide +kernel
theorem dL_person_0 : decode cL_person 0 = .ok (.aload_n 3, 1) := by decide +kernel
theorem dL_person_1 : decode cL_person 1 = .ok (.iconst 0, 1) := by decide +kernel
theorem dL_person_2 : decode cL_person 2 = .ok (.aload_n 0, 1) := by decide +kernel
theorem dL_person_3 : decode cL_person 3 = .ok (.iload_n 1, 1) := by decide +kernel
theorem dL_person_4 : decode cL_person 4 = .ok (.iload_n 2, 1) := by decide +kernel
theorem dL_person_5 : decode cL_person 5 = .ok (.invokevirtual 7, 3) := by decide +kernel
theorem dL_person_8 : decode cL_person 8 = .ok (.i2l, 1) := by decide +kernel
theorem dL_person_9 : decode cL_person 9 = .ok (.lastore, 1) := by decide +kernel
theorem dL_person_10 : decode cL_person 10 = .ok (.goto 7, 3) := by decide +kernel
theorem dL_person_13 : decode cL_person 13 = .ok (.astore 4, 2) := by decide +kernel
theorem dL_person_15 : decode cL_person 15 = .ok (.iconst 1, 1) := by decide +kernel
theorem dL_person_16 : decode cL_person 16 = .ok (.ireturn, 1) := by decide +kernel
theorem dL_person_17 : decode cL_person 17 = .ok (.iconst 0, 1) := by decide +kernel
theorem dL_person_18 : decode cL_person 18 = .ok (.ireturn, 1) := by decide +kernel
theorem dL_deal_0 : decode cL_deal 0 = .ok (.aload_n 3, 1) := by decide +kernel
theorem dL_deal_1 : decode cL_deal 1 = .ok (.iconst 0, 1) := by decide +kernel
theorem dL_deal_2 : decode cL_deal 2 = .ok (.aload_n 0, 1) := by decide +kernel
theorem dL_deal_3 : decode cL_deal 3 = .ok (.iload_n 1, 1) := by decide +kernel
theorem dL_deal_4 : decode cL_deal 4 = .ok (.iload_n 2, 1) := by decide +kernel
theorem dL_deal_5 : decode cL_deal 5 = .ok (.invokevirtual 15, 3) := by decide +kernel
theorem dL_deal_8 : decode cL_deal 8 = .ok (.i2l, 1) := by decide +kernel
theorem dL_deal_9 : decode cL_deal 9 = .ok (.lastore, 1) := by decide +kernel
theorem dL_deal_10 : decode cL_deal 10 = .ok (.goto 7, 3) := by decide +kernel
theorem dL_deal_13 : decode cL_deal 13 = .ok (.astore 4, 2) := by decide +kernel
theorem dL_deal_15 : decode cL_deal 15 = .ok (.iconst 1, 1) := by decide +kernel
theorem dL_deal_16 : decode cL_deal 16 = .ok (.ireturn, 1) := by decide +kernel
theorem dL_deal_17 : decode cL_deal 17 = .ok (.iconst 0, 1) := by decide +kernel
theorem dL_deal_18 : decode cL_deal 18 = .ok (.ireturn, 1) := by decide +kernel
theorem dL_law_0 : decode cL_law 0 = .ok (.new 8, 3) := by decide +kernel
theorem dL_law_3 : decode cL_law 3 = .ok (.dup, 1) := by decide +kernel
theorem dL_law_4 : decode cL_law 4 = .ok (.invokespecial 18, 3) := by decide +kernel
theorem dL_law_7 : decode cL_law 7 = .ok (.astore_n 1, 1) := by decide +kernel
theorem dL_law_8 : decode cL_law 8 = .ok (.new 19, 3) := by decide +kernel
theorem dL_law_11 : decode cL_law 11 = .ok (.dup, 1) := by decide +kernel
theorem dL_law_12 : decode cL_law 12 = .ok (.invokespecial 21, 3) := by decide +kernel
theorem dL_law_15 : decode cL_law 15 = .ok (.astore_n 2, 1) := by decide +kernel
theorem dL_law_16 : decode cL_law 16 = .ok (.iconst 1, 1) := by decide +kernel
theorem dL_law_17 : decode cL_law 17 = .ok (.newarray .long, 2) := by decide +kernel
theorem dL_law_19 : decode cL_law 19 = .ok (.astore_n 3, 1) := by decide +kernel
theorem dL_law_20 : decode cL_law 20 = .ok (.iconst 0, 1) := by decide +kernel
theorem dL_law_21 : decode cL_law 21 = .ok (.istore 4, 2) := by decide +kernel
theorem dL_law_23 : decode cL_law 23 = .ok (.iload 4, 2) := by decide +kernel
theorem dL_law_25 : decode cL_law 25 = .ok (.aload_n 0, 1) := by decide +kernel
theorem dL_law_26 : decode cL_law 26 = .ok (.arraylength, 1) := by decide +kernel
theorem dL_law_27 : decode cL_law 27 = .ok (.bipush 6, 2) := by decide +kernel
theorem dL_law_29 : decode cL_law 29 = .ok (.isub, 1) := by decide +kernel
theorem dL_law_30 : decode cL_law 30 = .ok (.if_icmp .gt 1312, 3) := by decide +kernel
theorem dL_law_33 : decode cL_law 33 = .ok (.aload_n 0, 1) := by decide +kernel
theorem dL_law_34 : decode cL_law 34 = .ok (.iload 4, 2) := by decide +kernel
theorem dL_law_36 : decode cL_law 36 = .ok (.iaload, 1) := by decide +kernel
theorem dL_law_37 : decode cL_law 37 = .ok (.bipush 63, 2) := by decide +kernel
theorem dL_law_39 : decode cL_law 39 = .ok (.iand, 1) := by decide +kernel
theorem dL_law_40 : decode cL_law 40 = .ok (.tableswitch 1296 0 41 #[184, 257, 282, 295, 308, 376, 444, 481, 494, 507, 520, 557, 582, 607, 632, 645, 658, 683, 708, 745, 782, 807, 820, 833, 870, 895, 920, 945, 982, 1031, 1044, 1069, 1094, 1107, 1120, 1145, 1158, 1183, 1208, 1221, 1246, 1271], 184) := by decide +kernel
theorem dL_law_224 : decode cL_law 224 = .ok (.aload_n 1, 1) := by decide +kernel
theorem dL_law_225 : decode cL_law 225 = .ok (.aload_n 0, 1) := by decide +kernel
theorem dL_law_226 : decode cL_law 226 = .ok (.iload 4, 2) := by decide +kernel
theorem dL_law_228 : decode cL_law 228 = .ok (.iconst 1, 1) := by decide +kernel
theorem dL_law_229 : decode cL_law 229 = .ok (.iadd, 1) := by decide +kernel
theorem dL_law_230 : decode cL_law 230 = .ok (.iaload, 1) := by decide +kernel
theorem dL_law_231 : decode cL_law 231 = .ok (.aload_n 0, 1) := by decide +kernel
theorem dL_law_232 : decode cL_law 232 = .ok (.iload 4, 2) := by decide +kernel
theorem dL_law_234 : decode cL_law 234 = .ok (.iconst 2, 1) := by decide +kernel
theorem dL_law_235 : decode cL_law 235 = .ok (.iadd, 1) := by decide +kernel
theorem dL_law_236 : decode cL_law 236 = .ok (.iaload, 1) := by decide +kernel
theorem dL_law_237 : decode cL_law 237 = .ok (.aload_n 0, 1) := by decide +kernel
theorem dL_law_238 : decode cL_law 238 = .ok (.iload 4, 2) := by decide +kernel
theorem dL_law_240 : decode cL_law 240 = .ok (.iconst 3, 1) := by decide +kernel
theorem dL_law_241 : decode cL_law 241 = .ok (.iadd, 1) := by decide +kernel
theorem dL_law_242 : decode cL_law 242 = .ok (.iaload, 1) := by decide +kernel
theorem dL_law_243 : decode cL_law 243 = .ok (.aload_n 0, 1) := by decide +kernel
theorem dL_law_244 : decode cL_law 244 = .ok (.iload 4, 2) := by decide +kernel
theorem dL_law_246 : decode cL_law 246 = .ok (.iconst 4, 1) := by decide +kernel
theorem dL_law_247 : decode cL_law 247 = .ok (.iadd, 1) := by decide +kernel
theorem dL_law_248 : decode cL_law 248 = .ok (.iaload, 1) := by decide +kernel
theorem dL_law_249 : decode cL_law 249 = .ok (.aload_n 0, 1) := by decide +kernel
theorem dL_law_250 : decode cL_law 250 = .ok (.iload 4, 2) := by decide +kernel
theorem dL_law_252 : decode cL_law 252 = .ok (.iconst 5, 1) := by decide +kernel
theorem dL_law_253 : decode cL_law 253 = .ok (.iadd, 1) := by decide +kernel
theorem dL_law_254 : decode cL_law 254 = .ok (.iaload, 1) := by decide +kernel
theorem dL_law_255 : decode cL_law 255 = .ok (.invokevirtual 22, 3) := by decide +kernel
theorem dL_law_258 : decode cL_law 258 = .ok (.aload_n 2, 1) := by decide +kernel
theorem dL_law_259 : decode cL_law 259 = .ok (.aload_n 0, 1) := by decide +kernel
theorem dL_law_260 : decode cL_law 260 = .ok (.iload 4, 2) := by decide +kernel
theorem dL_law_262 : decode cL_law 262 = .ok (.iconst 1, 1) := by decide +kernel
theorem dL_law_263 : decode cL_law 263 = .ok (.iadd, 1) := by decide +kernel
theorem dL_law_264 : decode cL_law 264 = .ok (.iaload, 1) := by decide +kernel
theorem dL_law_265 : decode cL_law 265 = .ok (.aload_n 0, 1) := by decide +kernel
theorem dL_law_266 : decode cL_law 266 = .ok (.iload 4, 2) := by decide +kernel
theorem dL_law_268 : decode cL_law 268 = .ok (.iconst 2, 1) := by decide +kernel
theorem dL_law_269 : decode cL_law 269 = .ok (.iadd, 1) := by decide +kernel
theorem dL_law_270 : decode cL_law 270 = .ok (.iaload, 1) := by decide +kernel
theorem dL_law_271 : decode cL_law 271 = .ok (.aload_n 0, 1) := by decide +kernel
theorem dL_law_272 : decode cL_law 272 = .ok (.iload 4, 2) := by decide +kernel
theorem dL_law_274 : decode cL_law 274 = .ok (.iconst 3, 1) := by decide +kernel
theorem dL_law_275 : decode cL_law 275 = .ok (.iadd, 1) := by decide +kernel
theorem dL_law_276 : decode cL_law 276 = .ok (.iaload, 1) := by decide +kernel
theorem dL_law_277 : decode cL_law 277 = .ok (.aload_n 0, 1) := by decide +kernel
theorem dL_law_278 : decode cL_law 278 = .ok (.iload 4, 2) := by decide +kernel
theorem dL_law_280 : decode cL_law 280 = .ok (.iconst 4, 1) := by decide +kernel
theorem dL_law_281 : decode cL_law 281 = .ok (.iadd, 1) := by decide +kernel
theorem dL_law_282 : decode cL_law 282 = .ok (.iaload, 1) := by decide +kernel
theorem dL_law_283 : decode cL_law 283 = .ok (.aload_n 0, 1) := by decide +kernel
theorem dL_law_284 : decode cL_law 284 = .ok (.iload 4, 2) := by decide +kernel
theorem dL_law_286 : decode cL_law 286 = .ok (.iconst 5, 1) := by decide +kernel
theorem dL_law_287 : decode cL_law 287 = .ok (.iadd, 1) := by decide +kernel
theorem dL_law_288 : decode cL_law 288 = .ok (.iaload, 1) := by decide +kernel
theorem dL_law_289 : decode cL_law 289 = .ok (.invokevirtual 26, 3) := by decide +kernel
theorem dL_law_292 : decode cL_law 292 = .ok (.if_icmp .eq 1044, 3) := by decide +kernel
theorem dL_law_295 : decode cL_law 295 = .ok (.iconst 0, 1) := by decide +kernel
theorem dL_law_296 : decode cL_law 296 = .ok (.ireturn, 1) := by decide +kernel
theorem dL_law_297 : decode cL_law 297 = .ok (.aload_n 1, 1) := by decide +kernel
theorem dL_law_298 : decode cL_law 298 = .ok (.aload_n 0, 1) := by decide +kernel
theorem dL_law_299 : decode cL_law 299 = .ok (.iload 4, 2) := by decide +kernel
theorem dL_law_301 : decode cL_law 301 = .ok (.iconst 1, 1) := by decide +kernel
theorem dL_law_302 : decode cL_law 302 = .ok (.iadd, 1) := by decide +kernel
theorem dL_law_303 : decode cL_law 303 = .ok (.iaload, 1) := by decide +kernel
theorem dL_law_304 : decode cL_law 304 = .ok (.invokevirtual 27, 3) := by decide +kernel
theorem dL_law_307 : decode cL_law 307 = .ok (.aload_n 2, 1) := by decide +kernel
theorem dL_law_308 : decode cL_law 308 = .ok (.aload_n 0, 1) := by decide +kernel
theorem dL_law_309 : decode cL_law 309 = .ok (.iload 4, 2) := by decide +kernel
theorem dL_law_311 : decode cL_law 311 = .ok (.iconst 1, 1) := by decide +kernel
theorem dL_law_312 : decode cL_law 312 = .ok (.iadd, 1) := by decide +kernel
theorem dL_law_313 : decode cL_law 313 = .ok (.iaload, 1) := by decide +kernel
theorem dL_law_314 : decode cL_law 314 = .ok (.invokevirtual 31, 3) := by decide +kernel
theorem dL_law_317 : decode cL_law 317 = .ok (.if_icmp .eq 1019, 3) := by decide +kernel
theorem dL_law_320 : decode cL_law 320 = .ok (.iconst 0, 1) := by decide +kernel
theorem dL_law_321 : decode cL_law 321 = .ok (.ireturn, 1) := by decide +kernel
theorem dL_law_322 : decode cL_law 322 = .ok (.aload_n 1, 1) := by decide +kernel
theorem dL_law_323 : decode cL_law 323 = .ok (.invokevirtual 32, 3) := by decide +kernel
theorem dL_law_326 : decode cL_law 326 = .ok (.aload_n 2, 1) := by decide +kernel
theorem dL_law_327 : decode cL_law 327 = .ok (.invokevirtual 36, 3) := by decide +kernel
theorem dL_law_330 : decode cL_law 330 = .ok (.if_icmp .eq 1006, 3) := by decide +kernel
theorem dL_law_333 : decode cL_law 333 = .ok (.iconst 0, 1) := by decide +kernel
theorem dL_law_334 : decode cL_law 334 = .ok (.ireturn, 1) := by decide +kernel
theorem dL_law_335 : decode cL_law 335 = .ok (.aload_n 1, 1) := by decide +kernel
theorem dL_law_336 : decode cL_law 336 = .ok (.invokevirtual 37, 3) := by decide +kernel
theorem dL_law_339 : decode cL_law 339 = .ok (.aload_n 2, 1) := by decide +kernel
theorem dL_law_340 : decode cL_law 340 = .ok (.invokevirtual 40, 3) := by decide +kernel
theorem dL_law_343 : decode cL_law 343 = .ok (.if_icmp .eq 993, 3) := by decide +kernel
theorem dL_law_346 : decode cL_law 346 = .ok (.iconst 0, 1) := by decide +kernel
theorem dL_law_347 : decode cL_law 347 = .ok (.ireturn, 1) := by decide +kernel
theorem dL_law_348 : decode cL_law 348 = .ok (.aload_n 1, 1) := by decide +kernel
theorem dL_law_349 : decode cL_law 349 = .ok (.aload_n 0, 1) := by decide +kernel
theorem dL_law_350 : decode cL_law 350 = .ok (.iload 4, 2) := by decide +kernel
theorem dL_law_352 : decode cL_law 352 = .ok (.iconst 1, 1) := by decide +kernel
theorem dL_law_353 : decode cL_law 353 = .ok (.iadd, 1) := by decide +kernel
theorem dL_law_354 : decode cL_law 354 = .ok (.iaload, 1) := by decide +kernel
theorem dL_law_355 : decode cL_law 355 = .ok (.aload_n 0, 1) := by decide +kernel
theorem dL_law_356 : decode cL_law 356 = .ok (.iload 4, 2) := by decide +kernel
theorem dL_law_358 : decode cL_law 358 = .ok (.iconst 2, 1) := by decide +kernel
theorem dL_law_359 : decode cL_law 359 = .ok (.iadd, 1) := by decide +kernel
theorem dL_law_360 : decode cL_law 360 = .ok (.iaload, 1) := by decide +kernel
theorem dL_law_361 : decode cL_law 361 = .ok (.aload_n 3, 1) := by decide +kernel
theorem dL_law_362 : decode cL_law 362 = .ok (.invokestatic 41, 3) := by decide +kernel
theorem dL_law_365 : decode cL_law 365 = .ok (.istore 5, 2) := by decide +kernel
theorem dL_law_367 : decode cL_law 367 = .ok (.aload_n 2, 1) := by decide +kernel
theorem dL_law_368 : decode cL_law 368 = .ok (.aload_n 0, 1) := by decide +kernel
theorem dL_law_369 : decode cL_law 369 = .ok (.iload 4, 2) := by decide +kernel
theorem dL_law_371 : decode cL_law 371 = .ok (.iconst 1, 1) := by decide +kernel
theorem dL_law_372 : decode cL_law 372 = .ok (.iadd, 1) := by decide +kernel
theorem dL_law_373 : decode cL_law 373 = .ok (.iaload, 1) := by decide +kernel
theorem dL_law_374 : decode cL_law 374 = .ok (.aload_n 0, 1) := by decide +kernel
theorem dL_law_375 : decode cL_law 375 = .ok (.iload 4, 2) := by decide +kernel
theorem dL_law_377 : decode cL_law 377 = .ok (.iconst 2, 1) := by decide +kernel
theorem dL_law_378 : decode cL_law 378 = .ok (.iadd, 1) := by decide +kernel
theorem dL_law_379 : decode cL_law 379 = .ok (.iaload, 1) := by decide +kernel
theorem dL_law_380 : decode cL_law 380 = .ok (.invokevirtual 46, 3) := by decide +kernel
theorem dL_law_383 : decode cL_law 383 = .ok (.istore 6, 2) := by decide +kernel
theorem dL_law_385 : decode cL_law 385 = .ok (.aload_n 2, 1) := by decide +kernel
theorem dL_law_386 : decode cL_law 386 = .ok (.invokevirtual 47, 3) := by decide +kernel
theorem dL_law_389 : decode cL_law 389 = .ok (.iload 5, 2) := by decide +kernel
theorem dL_law_391 : decode cL_law 391 = .ok (.if_icmp .eq 5, 3) := by decide +kernel
theorem dL_law_394 : decode cL_law 394 = .ok (.iconst 0, 1) := by decide +kernel
theorem dL_law_395 : decode cL_law 395 = .ok (.ireturn, 1) := by decide +kernel
theorem dL_law_396 : decode cL_law 396 = .ok (.iload 5, 2) := by decide +kernel
theorem dL_law_398 : decode cL_law 398 = .ok (.ifCond .ne 15, 3) := by decide +kernel
theorem dL_law_401 : decode cL_law 401 = .ok (.aload_n 3, 1) := by decide +kernel
theorem dL_law_402 : decode cL_law 402 = .ok (.iconst 0, 1) := by decide +kernel
theorem dL_law_403 : decode cL_law 403 = .ok (.laload, 1) := by decide +kernel
theorem dL_law_404 : decode cL_law 404 = .ok (.iload 6, 2) := by decide +kernel
theorem dL_law_406 : decode cL_law 406 = .ok (.i2l, 1) := by decide +kernel
theorem dL_law_407 : decode cL_law 407 = .ok (.lcmp, 1) := by decide +kernel
theorem dL_law_408 : decode cL_law 408 = .ok (.ifCond .eq 5, 3) := by decide +kernel
theorem dL_law_411 : decode cL_law 411 = .ok (.iconst 0, 1) := by decide +kernel
theorem dL_law_412 : decode cL_law 412 = .ok (.ireturn, 1) := by decide +kernel
theorem dL_law_413 : decode cL_law 413 = .ok (.goto 923, 3) := by decide +kernel
theorem dL_law_416 : decode cL_law 416 = .ok (.aload_n 1, 1) := by decide +kernel
theorem dL_law_417 : decode cL_law 417 = .ok (.aload_n 0, 1) := by decide +kernel
theorem dL_law_418 : decode cL_law 418 = .ok (.iload 4, 2) := by decide +kernel
theorem dL_law_420 : decode cL_law 420 = .ok (.iconst 1, 1) := by decide +kernel
theorem dL_law_421 : decode cL_law 421 = .ok (.iadd, 1) := by decide +kernel
theorem dL_law_422 : decode cL_law 422 = .ok (.iaload, 1) := by decide +kernel
theorem dL_law_423 : decode cL_law 423 = .ok (.aload_n 0, 1) := by decide +kernel
theorem dL_law_424 : decode cL_law 424 = .ok (.iload 4, 2) := by decide +kernel
theorem dL_law_426 : decode cL_law 426 = .ok (.iconst 2, 1) := by decide +kernel
theorem dL_law_427 : decode cL_law 427 = .ok (.iadd, 1) := by decide +kernel
theorem dL_law_428 : decode cL_law 428 = .ok (.iaload, 1) := by decide +kernel
theorem dL_law_429 : decode cL_law 429 = .ok (.aload_n 3, 1) := by decide +kernel
theorem dL_law_430 : decode cL_law 430 = .ok (.invokestatic 50, 3) := by decide +kernel
theorem dL_law_433 : decode cL_law 433 = .ok (.istore 5, 2) := by decide +kernel
theorem dL_law_435 : decode cL_law 435 = .ok (.aload_n 2, 1) := by decide +kernel
theorem dL_law_436 : decode cL_law 436 = .ok (.aload_n 0, 1) := by decide +kernel
theorem dL_law_437 : decode cL_law 437 = .ok (.iload 4, 2) := by decide +kernel
theorem dL_law_439 : decode cL_law 439 = .ok (.iconst 1, 1) := by decide +kernel
theorem dL_law_440 : decode cL_law 440 = .ok (.iadd, 1) := by decide +kernel
theorem dL_law_441 : decode cL_law 441 = .ok (.iaload, 1) := by decide +kernel
theorem dL_law_442 : decode cL_law 442 = .ok (.aload_n 0, 1) := by decide +kernel
theorem dL_law_443 : decode cL_law 443 = .ok (.iload 4, 2) := by decide +kernel
theorem dL_law_445 : decode cL_law 445 = .ok (.iconst 2, 1) := by decide +kernel
theorem dL_law_446 : decode cL_law 446 = .ok (.iadd, 1) := by decide +kernel
theorem dL_law_447 : decode cL_law 447 = .ok (.iaload, 1) := by decide +kernel
theorem dL_law_448 : decode cL_law 448 = .ok (.invokevirtual 52, 3) := by decide +kernel
theorem dL_law_451 : decode cL_law 451 = .ok (.istore 6, 2) := by decide +kernel
theorem dL_law_453 : decode cL_law 453 = .ok (.aload_n 2, 1) := by decide +kernel
theorem dL_law_454 : decode cL_law 454 = .ok (.invokevirtual 47, 3) := by decide +kernel
theorem dL_law_457 : decode cL_law 457 = .ok (.iload 5, 2) := by decide +kernel
theorem dL_law_459 : decode cL_law 459 = .ok (.if_icmp .eq 5, 3) := by decide +kernel
theorem dL_law_462 : decode cL_law 462 = .ok (.iconst 0, 1) := by decide +kernel
theorem dL_law_463 : decode cL_law 463 = .ok (.ireturn, 1) := by decide +kernel
theorem dL_law_464 : decode cL_law 464 = .ok (.iload 5, 2) := by decide +kernel
theorem dL_law_466 : decode cL_law 466 = .ok (.ifCond .ne 15, 3) := by decide +kernel
theorem dL_law_469 : decode cL_law 469 = .ok (.aload_n 3, 1) := by decide +kernel
theorem dL_law_470 : decode cL_law 470 = .ok (.iconst 0, 1) := by decide +kernel
theorem dL_law_471 : decode cL_law 471 = .ok (.laload, 1) := by decide +kernel
theorem dL_law_472 : decode cL_law 472 = .ok (.iload 6, 2) := by decide +kernel
theorem dL_law_474 : decode cL_law 474 = .ok (.i2l, 1) := by decide +kernel
theorem dL_law_475 : decode cL_law 475 = .ok (.lcmp, 1) := by decide +kernel
theorem dL_law_476 : decode cL_law 476 = .ok (.ifCond .eq 5, 3) := by decide +kernel
theorem dL_law_479 : decode cL_law 479 = .ok (.iconst 0, 1) := by decide +kernel
theorem dL_law_480 : decode cL_law 480 = .ok (.ireturn, 1) := by decide +kernel
theorem dL_law_481 : decode cL_law 481 = .ok (.goto 855, 3) := by decide +kernel
theorem dL_law_484 : decode cL_law 484 = .ok (.aload_n 1, 1) := by decide +kernel
theorem dL_law_485 : decode cL_law 485 = .ok (.aload_n 0, 1) := by decide +kernel
theorem dL_law_486 : decode cL_law 486 = .ok (.iload 4, 2) := by decide +kernel
theorem dL_law_488 : decode cL_law 488 = .ok (.iconst 1, 1) := by decide +kernel
theorem dL_law_489 : decode cL_law 489 = .ok (.iadd, 1) := by decide +kernel
theorem dL_law_490 : decode cL_law 490 = .ok (.iaload, 1) := by decide +kernel
theorem dL_law_491 : decode cL_law 491 = .ok (.aload_n 0, 1) := by decide +kernel
theorem dL_law_492 : decode cL_law 492 = .ok (.iload 4, 2) := by decide +kernel
theorem dL_law_494 : decode cL_law 494 = .ok (.iconst 2, 1) := by decide +kernel
theorem dL_law_495 : decode cL_law 495 = .ok (.iadd, 1) := by decide +kernel
theorem dL_law_496 : decode cL_law 496 = .ok (.iaload, 1) := by decide +kernel
theorem dL_law_497 : decode cL_law 497 = .ok (.invokevirtual 53, 3) := by decide +kernel
theorem dL_law_500 : decode cL_law 500 = .ok (.aload_n 2, 1) := by decide +kernel
theorem dL_law_501 : decode cL_law 501 = .ok (.aload_n 0, 1) := by decide +kernel
theorem dL_law_502 : decode cL_law 502 = .ok (.iload 4, 2) := by decide +kernel
theorem dL_law_504 : decode cL_law 504 = .ok (.iconst 1, 1) := by decide +kernel
theorem dL_law_505 : decode cL_law 505 = .ok (.iadd, 1) := by decide +kernel
theorem dL_law_506 : decode cL_law 506 = .ok (.iaload, 1) := by decide +kernel
theorem dL_law_507 : decode cL_law 507 = .ok (.aload_n 0, 1) := by decide +kernel
theorem dL_law_508 : decode cL_law 508 = .ok (.iload 4, 2) := by decide +kernel
theorem dL_law_510 : decode cL_law 510 = .ok (.iconst 2, 1) := by decide +kernel
theorem dL_law_511 : decode cL_law 511 = .ok (.iadd, 1) := by decide +kernel
theorem dL_law_512 : decode cL_law 512 = .ok (.iaload, 1) := by decide +kernel
theorem dL_law_513 : decode cL_law 513 = .ok (.invokevirtual 56, 3) := by decide +kernel
theorem dL_law_516 : decode cL_law 516 = .ok (.if_icmp .eq 820, 3) := by decide +kernel
theorem dL_law_519 : decode cL_law 519 = .ok (.iconst 0, 1) := by decide +kernel
theorem dL_law_520 : decode cL_law 520 = .ok (.ireturn, 1) := by decide +kernel
theorem dL_law_521 : decode cL_law 521 = .ok (.aload_n 1, 1) := by decide +kernel
theorem dL_law_522 : decode cL_law 522 = .ok (.invokevirtual 57, 3) := by decide +kernel
theorem dL_law_525 : decode cL_law 525 = .ok (.aload_n 2, 1) := by decide +kernel
theorem dL_law_526 : decode cL_law 526 = .ok (.invokevirtual 60, 3) := by decide +kernel
theorem dL_law_529 : decode cL_law 529 = .ok (.if_icmp .eq 807, 3) := by decide +kernel
theorem dL_law_532 : decode cL_law 532 = .ok (.iconst 0, 1) := by decide +kernel
theorem dL_law_533 : decode cL_law 533 = .ok (.ireturn, 1) := by decide +kernel
theorem dL_law_534 : decode cL_law 534 = .ok (.aload_n 1, 1) := by decide +kernel
theorem dL_law_535 : decode cL_law 535 = .ok (.invokevirtual 61, 3) := by decide +kernel
theorem dL_law_538 : decode cL_law 538 = .ok (.aload_n 2, 1) := by decide +kernel
theorem dL_law_539 : decode cL_law 539 = .ok (.invokevirtual 64, 3) := by decide +kernel
theorem dL_law_542 : decode cL_law 542 = .ok (.if_icmp .eq 794, 3) := by decide +kernel
theorem dL_law_545 : decode cL_law 545 = .ok (.iconst 0, 1) := by decide +kernel
theorem dL_law_546 : decode cL_law 546 = .ok (.ireturn, 1) := by decide +kernel
theorem dL_law_547 : decode cL_law 547 = .ok (.aload_n 1, 1) := by decide +kernel
theorem dL_law_548 : decode cL_law 548 = .ok (.invokevirtual 65, 3) := by decide +kernel
theorem dL_law_551 : decode cL_law 551 = .ok (.aload_n 2, 1) := by decide +kernel
theorem dL_law_552 : decode cL_law 552 = .ok (.invokevirtual 68, 3) := by decide +kernel
theorem dL_law_555 : decode cL_law 555 = .ok (.if_icmp .eq 781, 3) := by decide +kernel
theorem dL_law_558 : decode cL_law 558 = .ok (.iconst 0, 1) := by decide +kernel
theorem dL_law_559 : decode cL_law 559 = .ok (.ireturn, 1) := by decide +kernel
theorem dL_law_560 : decode cL_law 560 = .ok (.aload_n 1, 1) := by decide +kernel
theorem dL_law_561 : decode cL_law 561 = .ok (.aload_n 0, 1) := by decide +kernel
theorem dL_law_562 : decode cL_law 562 = .ok (.iload 4, 2) := by decide +kernel
theorem dL_law_564 : decode cL_law 564 = .ok (.iconst 1, 1) := by decide +kernel
theorem dL_law_565 : decode cL_law 565 = .ok (.iadd, 1) := by decide +kernel
theorem dL_law_566 : decode cL_law 566 = .ok (.iaload, 1) := by decide +kernel
theorem dL_law_567 : decode cL_law 567 = .ok (.aload_n 0, 1) := by decide +kernel
theorem dL_law_568 : decode cL_law 568 = .ok (.iload 4, 2) := by decide +kernel
theorem dL_law_570 : decode cL_law 570 = .ok (.iconst 2, 1) := by decide +kernel
theorem dL_law_571 : decode cL_law 571 = .ok (.iadd, 1) := by decide +kernel
theorem dL_law_572 : decode cL_law 572 = .ok (.iaload, 1) := by decide +kernel
theorem dL_law_573 : decode cL_law 573 = .ok (.invokevirtual 69, 3) := by decide +kernel
theorem dL_law_576 : decode cL_law 576 = .ok (.aload_n 2, 1) := by decide +kernel
theorem dL_law_577 : decode cL_law 577 = .ok (.aload_n 0, 1) := by decide +kernel
theorem dL_law_578 : decode cL_law 578 = .ok (.iload 4, 2) := by decide +kernel
theorem dL_law_580 : decode cL_law 580 = .ok (.iconst 1, 1) := by decide +kernel
theorem dL_law_581 : decode cL_law 581 = .ok (.iadd, 1) := by decide +kernel
theorem dL_law_582 : decode cL_law 582 = .ok (.iaload, 1) := by decide +kernel
theorem dL_law_583 : decode cL_law 583 = .ok (.aload_n 0, 1) := by decide +kernel
theorem dL_law_584 : decode cL_law 584 = .ok (.iload 4, 2) := by decide +kernel
theorem dL_law_586 : decode cL_law 586 = .ok (.iconst 2, 1) := by decide +kernel
theorem dL_law_587 : decode cL_law 587 = .ok (.iadd, 1) := by decide +kernel
theorem dL_law_588 : decode cL_law 588 = .ok (.iaload, 1) := by decide +kernel
theorem dL_law_589 : decode cL_law 589 = .ok (.invokevirtual 72, 3) := by decide +kernel
theorem dL_law_592 : decode cL_law 592 = .ok (.if_icmp .eq 744, 3) := by decide +kernel
theorem dL_law_595 : decode cL_law 595 = .ok (.iconst 0, 1) := by decide +kernel
theorem dL_law_596 : decode cL_law 596 = .ok (.ireturn, 1) := by decide +kernel
theorem dL_law_597 : decode cL_law 597 = .ok (.aload_n 1, 1) := by decide +kernel
theorem dL_law_598 : decode cL_law 598 = .ok (.aload_n 0, 1) := by decide +kernel
theorem dL_law_599 : decode cL_law 599 = .ok (.iload 4, 2) := by decide +kernel
theorem dL_law_601 : decode cL_law 601 = .ok (.iconst 1, 1) := by decide +kernel
theorem dL_law_602 : decode cL_law 602 = .ok (.iadd, 1) := by decide +kernel
theorem dL_law_603 : decode cL_law 603 = .ok (.iaload, 1) := by decide +kernel
theorem dL_law_604 : decode cL_law 604 = .ok (.invokevirtual 73, 3) := by decide +kernel
theorem dL_law_607 : decode cL_law 607 = .ok (.aload_n 2, 1) := by decide +kernel
theorem dL_law_608 : decode cL_law 608 = .ok (.aload_n 0, 1) := by decide +kernel
theorem dL_law_609 : decode cL_law 609 = .ok (.iload 4, 2) := by decide +kernel
theorem dL_law_611 : decode cL_law 611 = .ok (.iconst 1, 1) := by decide +kernel
theorem dL_law_612 : decode cL_law 612 = .ok (.iadd, 1) := by decide +kernel
theorem dL_law_613 : decode cL_law 613 = .ok (.iaload, 1) := by decide +kernel
theorem dL_law_614 : decode cL_law 614 = .ok (.invokevirtual 77, 3) := by decide +kernel
theorem dL_law_617 : decode cL_law 617 = .ok (.if_icmp .eq 719, 3) := by decide +kernel
theorem dL_law_620 : decode cL_law 620 = .ok (.iconst 0, 1) := by decide +kernel
theorem dL_law_621 : decode cL_law 621 = .ok (.ireturn, 1) := by decide +kernel
theorem dL_law_622 : decode cL_law 622 = .ok (.aload_n 1, 1) := by decide +kernel
theorem dL_law_623 : decode cL_law 623 = .ok (.aload_n 0, 1) := by decide +kernel
theorem dL_law_624 : decode cL_law 624 = .ok (.iload 4, 2) := by decide +kernel
theorem dL_law_626 : decode cL_law 626 = .ok (.iconst 1, 1) := by decide +kernel
theorem dL_law_627 : decode cL_law 627 = .ok (.iadd, 1) := by decide +kernel
theorem dL_law_628 : decode cL_law 628 = .ok (.iaload, 1) := by decide +kernel
theorem dL_law_629 : decode cL_law 629 = .ok (.invokevirtual 78, 3) := by decide +kernel
theorem dL_law_632 : decode cL_law 632 = .ok (.aload_n 2, 1) := by decide +kernel
theorem dL_law_633 : decode cL_law 633 = .ok (.aload_n 0, 1) := by decide +kernel
theorem dL_law_634 : decode cL_law 634 = .ok (.iload 4, 2) := by decide +kernel
theorem dL_law_636 : decode cL_law 636 = .ok (.iconst 1, 1) := by decide +kernel
theorem dL_law_637 : decode cL_law 637 = .ok (.iadd, 1) := by decide +kernel
theorem dL_law_638 : decode cL_law 638 = .ok (.iaload, 1) := by decide +kernel
theorem dL_law_639 : decode cL_law 639 = .ok (.invokevirtual 81, 3) := by decide +kernel
theorem dL_law_642 : decode cL_law 642 = .ok (.if_icmp .eq 694, 3) := by decide +kernel
theorem dL_law_645 : decode cL_law 645 = .ok (.iconst 0, 1) := by decide +kernel
theorem dL_law_646 : decode cL_law 646 = .ok (.ireturn, 1) := by decide +kernel
theorem dL_law_647 : decode cL_law 647 = .ok (.aload_n 1, 1) := by decide +kernel
theorem dL_law_648 : decode cL_law 648 = .ok (.aload_n 0, 1) := by decide +kernel
theorem dL_law_649 : decode cL_law 649 = .ok (.iload 4, 2) := by decide +kernel
theorem dL_law_651 : decode cL_law 651 = .ok (.iconst 1, 1) := by decide +kernel
theorem dL_law_652 : decode cL_law 652 = .ok (.iadd, 1) := by decide +kernel
theorem dL_law_653 : decode cL_law 653 = .ok (.iaload, 1) := by decide +kernel
theorem dL_law_654 : decode cL_law 654 = .ok (.invokevirtual 82, 3) := by decide +kernel
theorem dL_law_657 : decode cL_law 657 = .ok (.aload_n 2, 1) := by decide +kernel
theorem dL_law_658 : decode cL_law 658 = .ok (.aload_n 0, 1) := by decide +kernel
theorem dL_law_659 : decode cL_law 659 = .ok (.iload 4, 2) := by decide +kernel
theorem dL_law_661 : decode cL_law 661 = .ok (.iconst 1, 1) := by decide +kernel
theorem dL_law_662 : decode cL_law 662 = .ok (.iadd, 1) := by decide +kernel
theorem dL_law_663 : decode cL_law 663 = .ok (.iaload, 1) := by decide +kernel
theorem dL_law_664 : decode cL_law 664 = .ok (.invokevirtual 85, 3) := by decide +kernel
theorem dL_law_667 : decode cL_law 667 = .ok (.if_icmp .eq 669, 3) := by decide +kernel
theorem dL_law_670 : decode cL_law 670 = .ok (.iconst 0, 1) := by decide +kernel
theorem dL_law_671 : decode cL_law 671 = .ok (.ireturn, 1) := by decide +kernel
theorem dL_law_672 : decode cL_law 672 = .ok (.aload_n 1, 1) := by decide +kernel
theorem dL_law_673 : decode cL_law 673 = .ok (.invokevirtual 86, 3) := by decide +kernel
theorem dL_law_676 : decode cL_law 676 = .ok (.aload_n 2, 1) := by decide +kernel
theorem dL_law_677 : decode cL_law 677 = .ok (.invokevirtual 89, 3) := by decide +kernel
theorem dL_law_680 : decode cL_law 680 = .ok (.if_icmp .eq 656, 3) := by decide +kernel
theorem dL_law_683 : decode cL_law 683 = .ok (.iconst 0, 1) := by decide +kernel
theorem dL_law_684 : decode cL_law 684 = .ok (.ireturn, 1) := by decide +kernel
theorem dL_law_685 : decode cL_law 685 = .ok (.aload_n 1, 1) := by decide +kernel
theorem dL_law_686 : decode cL_law 686 = .ok (.invokevirtual 90, 3) := by decide +kernel
theorem dL_law_689 : decode cL_law 689 = .ok (.aload_n 2, 1) := by decide +kernel
theorem dL_law_690 : decode cL_law 690 = .ok (.invokevirtual 93, 3) := by decide +kernel
theorem dL_law_693 : decode cL_law 693 = .ok (.if_icmp .eq 643, 3) := by decide +kernel
theorem dL_law_696 : decode cL_law 696 = .ok (.iconst 0, 1) := by decide +kernel
theorem dL_law_697 : decode cL_law 697 = .ok (.ireturn, 1) := by decide +kernel
theorem dL_law_698 : decode cL_law 698 = .ok (.aload_n 1, 1) := by decide +kernel
theorem dL_law_699 : decode cL_law 699 = .ok (.aload_n 0, 1) := by decide +kernel
theorem dL_law_700 : decode cL_law 700 = .ok (.iload 4, 2) := by decide +kernel
theorem dL_law_702 : decode cL_law 702 = .ok (.iconst 1, 1) := by decide +kernel
theorem dL_law_703 : decode cL_law 703 = .ok (.iadd, 1) := by decide +kernel
theorem dL_law_704 : decode cL_law 704 = .ok (.iaload, 1) := by decide +kernel
theorem dL_law_705 : decode cL_law 705 = .ok (.invokevirtual 94, 3) := by decide +kernel
theorem dL_law_708 : decode cL_law 708 = .ok (.aload_n 2, 1) := by decide +kernel
theorem dL_law_709 : decode cL_law 709 = .ok (.aload_n 0, 1) := by decide +kernel
theorem dL_law_710 : decode cL_law 710 = .ok (.iload 4, 2) := by decide +kernel
theorem dL_law_712 : decode cL_law 712 = .ok (.iconst 1, 1) := by decide +kernel
theorem dL_law_713 : decode cL_law 713 = .ok (.iadd, 1) := by decide +kernel
theorem dL_law_714 : decode cL_law 714 = .ok (.iaload, 1) := by decide +kernel
theorem dL_law_715 : decode cL_law 715 = .ok (.invokevirtual 97, 3) := by decide +kernel
theorem dL_law_718 : decode cL_law 718 = .ok (.if_icmp .eq 618, 3) := by decide +kernel
theorem dL_law_721 : decode cL_law 721 = .ok (.iconst 0, 1) := by decide +kernel
theorem dL_law_722 : decode cL_law 722 = .ok (.ireturn, 1) := by decide +kernel
theorem dL_law_723 : decode cL_law 723 = .ok (.aload_n 1, 1) := by decide +kernel
theorem dL_law_724 : decode cL_law 724 = .ok (.aload_n 0, 1) := by decide +kernel
theorem dL_law_725 : decode cL_law 725 = .ok (.iload 4, 2) := by decide +kernel
theorem dL_law_727 : decode cL_law 727 = .ok (.iconst 1, 1) := by decide +kernel
theorem dL_law_728 : decode cL_law 728 = .ok (.iadd, 1) := by decide +kernel
theorem dL_law_729 : decode cL_law 729 = .ok (.iaload, 1) := by decide +kernel
theorem dL_law_730 : decode cL_law 730 = .ok (.invokevirtual 98, 3) := by decide +kernel
theorem dL_law_733 : decode cL_law 733 = .ok (.aload_n 2, 1) := by decide +kernel
theorem dL_law_734 : decode cL_law 734 = .ok (.aload_n 0, 1) := by decide +kernel
theorem dL_law_735 : decode cL_law 735 = .ok (.iload 4, 2) := by decide +kernel
theorem dL_law_737 : decode cL_law 737 = .ok (.iconst 1, 1) := by decide +kernel
theorem dL_law_738 : decode cL_law 738 = .ok (.iadd, 1) := by decide +kernel
theorem dL_law_739 : decode cL_law 739 = .ok (.iaload, 1) := by decide +kernel
theorem dL_law_740 : decode cL_law 740 = .ok (.invokevirtual 101, 3) := by decide +kernel
theorem dL_law_743 : decode cL_law 743 = .ok (.if_icmp .eq 593, 3) := by decide +kernel
theorem dL_law_746 : decode cL_law 746 = .ok (.iconst 0, 1) := by decide +kernel
theorem dL_law_747 : decode cL_law 747 = .ok (.ireturn, 1) := by decide +kernel
theorem dL_law_748 : decode cL_law 748 = .ok (.aload_n 1, 1) := by decide +kernel
theorem dL_law_749 : decode cL_law 749 = .ok (.aload_n 0, 1) := by decide +kernel
theorem dL_law_750 : decode cL_law 750 = .ok (.iload 4, 2) := by decide +kernel
theorem dL_law_752 : decode cL_law 752 = .ok (.iconst 1, 1) := by decide +kernel
theorem dL_law_753 : decode cL_law 753 = .ok (.iadd, 1) := by decide +kernel
theorem dL_law_754 : decode cL_law 754 = .ok (.iaload, 1) := by decide +kernel
theorem dL_law_755 : decode cL_law 755 = .ok (.aload_n 0, 1) := by decide +kernel
theorem dL_law_756 : decode cL_law 756 = .ok (.iload 4, 2) := by decide +kernel
theorem dL_law_758 : decode cL_law 758 = .ok (.iconst 2, 1) := by decide +kernel
theorem dL_law_759 : decode cL_law 759 = .ok (.iadd, 1) := by decide +kernel
theorem dL_law_760 : decode cL_law 760 = .ok (.iaload, 1) := by decide +kernel
theorem dL_law_761 : decode cL_law 761 = .ok (.invokevirtual 102, 3) := by decide +kernel
theorem dL_law_764 : decode cL_law 764 = .ok (.aload_n 2, 1) := by decide +kernel
theorem dL_law_765 : decode cL_law 765 = .ok (.aload_n 0, 1) := by decide +kernel
theorem dL_law_766 : decode cL_law 766 = .ok (.iload 4, 2) := by decide +kernel
theorem dL_law_768 : decode cL_law 768 = .ok (.iconst 1, 1) := by decide +kernel
theorem dL_law_769 : decode cL_law 769 = .ok (.iadd, 1) := by decide +kernel
theorem dL_law_770 : decode cL_law 770 = .ok (.iaload, 1) := by decide +kernel
theorem dL_law_771 : decode cL_law 771 = .ok (.aload_n 0, 1) := by decide +kernel
theorem dL_law_772 : decode cL_law 772 = .ok (.iload 4, 2) := by decide +kernel
theorem dL_law_774 : decode cL_law 774 = .ok (.iconst 2, 1) := by decide +kernel
theorem dL_law_775 : decode cL_law 775 = .ok (.iadd, 1) := by decide +kernel
theorem dL_law_776 : decode cL_law 776 = .ok (.iaload, 1) := by decide +kernel
theorem dL_law_777 : decode cL_law 777 = .ok (.invokevirtual 105, 3) := by decide +kernel
theorem dL_law_780 : decode cL_law 780 = .ok (.if_icmp .eq 556, 3) := by decide +kernel
theorem dL_law_783 : decode cL_law 783 = .ok (.iconst 0, 1) := by decide +kernel
theorem dL_law_784 : decode cL_law 784 = .ok (.ireturn, 1) := by decide +kernel
theorem dL_law_785 : decode cL_law 785 = .ok (.aload_n 1, 1) := by decide +kernel
theorem dL_law_786 : decode cL_law 786 = .ok (.aload_n 0, 1) := by decide +kernel
theorem dL_law_787 : decode cL_law 787 = .ok (.iload 4, 2) := by decide +kernel
theorem dL_law_789 : decode cL_law 789 = .ok (.iconst 1, 1) := by decide +kernel
theorem dL_law_790 : decode cL_law 790 = .ok (.iadd, 1) := by decide +kernel
theorem dL_law_791 : decode cL_law 791 = .ok (.iaload, 1) := by decide +kernel
theorem dL_law_792 : decode cL_law 792 = .ok (.aload_n 0, 1) := by decide +kernel
theorem dL_law_793 : decode cL_law 793 = .ok (.iload 4, 2) := by decide +kernel
theorem dL_law_795 : decode cL_law 795 = .ok (.iconst 2, 1) := by decide +kernel
theorem dL_law_796 : decode cL_law 796 = .ok (.iadd, 1) := by decide +kernel
theorem dL_law_797 : decode cL_law 797 = .ok (.iaload, 1) := by decide +kernel
theorem dL_law_798 : decode cL_law 798 = .ok (.invokevirtual 106, 3) := by decide +kernel
theorem dL_law_801 : decode cL_law 801 = .ok (.aload_n 2, 1) := by decide +kernel
theorem dL_law_802 : decode cL_law 802 = .ok (.aload_n 0, 1) := by decide +kernel
theorem dL_law_803 : decode cL_law 803 = .ok (.iload 4, 2) := by decide +kernel
theorem dL_law_805 : decode cL_law 805 = .ok (.iconst 1, 1) := by decide +kernel
theorem dL_law_806 : decode cL_law 806 = .ok (.iadd, 1) := by decide +kernel
theorem dL_law_807 : decode cL_law 807 = .ok (.iaload, 1) := by decide +kernel
theorem dL_law_808 : decode cL_law 808 = .ok (.aload_n 0, 1) := by decide +kernel
theorem dL_law_809 : decode cL_law 809 = .ok (.iload 4, 2) := by decide +kernel
theorem dL_law_811 : decode cL_law 811 = .ok (.iconst 2, 1) := by decide +kernel
theorem dL_law_812 : decode cL_law 812 = .ok (.iadd, 1) := by decide +kernel
theorem dL_law_813 : decode cL_law 813 = .ok (.iaload, 1) := by decide +kernel
theorem dL_law_814 : decode cL_law 814 = .ok (.invokevirtual 109, 3) := by decide +kernel
theorem dL_law_817 : decode cL_law 817 = .ok (.if_icmp .eq 519, 3) := by decide +kernel
theorem dL_law_820 : decode cL_law 820 = .ok (.iconst 0, 1) := by decide +kernel
theorem dL_law_821 : decode cL_law 821 = .ok (.ireturn, 1) := by decide +kernel
theorem dL_law_822 : decode cL_law 822 = .ok (.aload_n 1, 1) := by decide +kernel
theorem dL_law_823 : decode cL_law 823 = .ok (.aload_n 0, 1) := by decide +kernel
theorem dL_law_824 : decode cL_law 824 = .ok (.iload 4, 2) := by decide +kernel
theorem dL_law_826 : decode cL_law 826 = .ok (.iconst 1, 1) := by decide +kernel
theorem dL_law_827 : decode cL_law 827 = .ok (.iadd, 1) := by decide +kernel
theorem dL_law_828 : decode cL_law 828 = .ok (.iaload, 1) := by decide +kernel
theorem dL_law_829 : decode cL_law 829 = .ok (.invokevirtual 110, 3) := by decide +kernel
theorem dL_law_832 : decode cL_law 832 = .ok (.aload_n 2, 1) := by decide +kernel
theorem dL_law_833 : decode cL_law 833 = .ok (.aload_n 0, 1) := by decide +kernel
theorem dL_law_834 : decode cL_law 834 = .ok (.iload 4, 2) := by decide +kernel
theorem dL_law_836 : decode cL_law 836 = .ok (.iconst 1, 1) := by decide +kernel
theorem dL_law_837 : decode cL_law 837 = .ok (.iadd, 1) := by decide +kernel
theorem dL_law_838 : decode cL_law 838 = .ok (.iaload, 1) := by decide +kernel
theorem dL_law_839 : decode cL_law 839 = .ok (.invokevirtual 113, 3) := by decide +kernel
theorem dL_law_842 : decode cL_law 842 = .ok (.if_icmp .eq 494, 3) := by decide +kernel
theorem dL_law_845 : decode cL_law 845 = .ok (.iconst 0, 1) := by decide +kernel
theorem dL_law_846 : decode cL_law 846 = .ok (.ireturn, 1) := by decide +kernel
theorem dL_law_847 : decode cL_law 847 = .ok (.aload_n 1, 1) := by decide +kernel
theorem dL_law_848 : decode cL_law 848 = .ok (.invokevirtual 114, 3) := by decide +kernel
theorem dL_law_851 : decode cL_law 851 = .ok (.aload_n 2, 1) := by decide +kernel
theorem dL_law_852 : decode cL_law 852 = .ok (.invokevirtual 117, 3) := by decide +kernel
theorem dL_law_855 : decode cL_law 855 = .ok (.if_icmp .eq 481, 3) := by decide +kernel
theorem dL_law_858 : decode cL_law 858 = .ok (.iconst 0, 1) := by decide +kernel
theorem dL_law_859 : decode cL_law 859 = .ok (.ireturn, 1) := by decide +kernel
theorem dL_law_860 : decode cL_law 860 = .ok (.aload_n 1, 1) := by decide +kernel
theorem dL_law_861 : decode cL_law 861 = .ok (.invokevirtual 118, 3) := by decide +kernel
theorem dL_law_864 : decode cL_law 864 = .ok (.aload_n 2, 1) := by decide +kernel
theorem dL_law_865 : decode cL_law 865 = .ok (.invokevirtual 121, 3) := by decide +kernel
theorem dL_law_868 : decode cL_law 868 = .ok (.if_icmp .eq 468, 3) := by decide +kernel
theorem dL_law_871 : decode cL_law 871 = .ok (.iconst 0, 1) := by decide +kernel
theorem dL_law_872 : decode cL_law 872 = .ok (.ireturn, 1) := by decide +kernel
theorem dL_law_873 : decode cL_law 873 = .ok (.aload_n 1, 1) := by decide +kernel
theorem dL_law_874 : decode cL_law 874 = .ok (.aload_n 0, 1) := by decide +kernel
theorem dL_law_875 : decode cL_law 875 = .ok (.iload 4, 2) := by decide +kernel
theorem dL_law_877 : decode cL_law 877 = .ok (.iconst 1, 1) := by decide +kernel
theorem dL_law_878 : decode cL_law 878 = .ok (.iadd, 1) := by decide +kernel
theorem dL_law_879 : decode cL_law 879 = .ok (.iaload, 1) := by decide +kernel
theorem dL_law_880 : decode cL_law 880 = .ok (.aload_n 0, 1) := by decide +kernel
theorem dL_law_881 : decode cL_law 881 = .ok (.iload 4, 2) := by decide +kernel
theorem dL_law_883 : decode cL_law 883 = .ok (.iconst 2, 1) := by decide +kernel
theorem dL_law_884 : decode cL_law 884 = .ok (.iadd, 1) := by decide +kernel
theorem dL_law_885 : decode cL_law 885 = .ok (.iaload, 1) := by decide +kernel
theorem dL_law_886 : decode cL_law 886 = .ok (.invokevirtual 122, 3) := by decide +kernel
theorem dL_law_889 : decode cL_law 889 = .ok (.aload_n 2, 1) := by decide +kernel
theorem dL_law_890 : decode cL_law 890 = .ok (.aload_n 0, 1) := by decide +kernel
theorem dL_law_891 : decode cL_law 891 = .ok (.iload 4, 2) := by decide +kernel
theorem dL_law_893 : decode cL_law 893 = .ok (.iconst 1, 1) := by decide +kernel
theorem dL_law_894 : decode cL_law 894 = .ok (.iadd, 1) := by decide +kernel
theorem dL_law_895 : decode cL_law 895 = .ok (.iaload, 1) := by decide +kernel
theorem dL_law_896 : decode cL_law 896 = .ok (.aload_n 0, 1) := by decide +kernel
theorem dL_law_897 : decode cL_law 897 = .ok (.iload 4, 2) := by decide +kernel
theorem dL_law_899 : decode cL_law 899 = .ok (.iconst 2, 1) := by decide +kernel
theorem dL_law_900 : decode cL_law 900 = .ok (.iadd, 1) := by decide +kernel
theorem dL_law_901 : decode cL_law 901 = .ok (.iaload, 1) := by decide +kernel
theorem dL_law_902 : decode cL_law 902 = .ok (.invokevirtual 125, 3) := by decide +kernel
theorem dL_law_905 : decode cL_law 905 = .ok (.if_icmp .eq 431, 3) := by decide +kernel
theorem dL_law_908 : decode cL_law 908 = .ok (.iconst 0, 1) := by decide +kernel
theorem dL_law_909 : decode cL_law 909 = .ok (.ireturn, 1) := by decide +kernel
theorem dL_law_910 : decode cL_law 910 = .ok (.aload_n 1, 1) := by decide +kernel
theorem dL_law_911 : decode cL_law 911 = .ok (.aload_n 0, 1) := by decide +kernel
theorem dL_law_912 : decode cL_law 912 = .ok (.iload 4, 2) := by decide +kernel
theorem dL_law_914 : decode cL_law 914 = .ok (.iconst 1, 1) := by decide +kernel
theorem dL_law_915 : decode cL_law 915 = .ok (.iadd, 1) := by decide +kernel
theorem dL_law_916 : decode cL_law 916 = .ok (.iaload, 1) := by decide +kernel
theorem dL_law_917 : decode cL_law 917 = .ok (.invokevirtual 126, 3) := by decide +kernel
theorem dL_law_920 : decode cL_law 920 = .ok (.aload_n 2, 1) := by decide +kernel
theorem dL_law_921 : decode cL_law 921 = .ok (.aload_n 0, 1) := by decide +kernel
theorem dL_law_922 : decode cL_law 922 = .ok (.iload 4, 2) := by decide +kernel
theorem dL_law_924 : decode cL_law 924 = .ok (.iconst 1, 1) := by decide +kernel
theorem dL_law_925 : decode cL_law 925 = .ok (.iadd, 1) := by decide +kernel
theorem dL_law_926 : decode cL_law 926 = .ok (.iaload, 1) := by decide +kernel
theorem dL_law_927 : decode cL_law 927 = .ok (.invokevirtual 129, 3) := by decide +kernel
theorem dL_law_930 : decode cL_law 930 = .ok (.if_icmp .eq 406, 3) := by decide +kernel
theorem dL_law_933 : decode cL_law 933 = .ok (.iconst 0, 1) := by decide +kernel
theorem dL_law_934 : decode cL_law 934 = .ok (.ireturn, 1) := by decide +kernel
theorem dL_law_935 : decode cL_law 935 = .ok (.aload_n 1, 1) := by decide +kernel
theorem dL_law_936 : decode cL_law 936 = .ok (.aload_n 0, 1) := by decide +kernel
theorem dL_law_937 : decode cL_law 937 = .ok (.iload 4, 2) := by decide +kernel
theorem dL_law_939 : decode cL_law 939 = .ok (.iconst 1, 1) := by decide +kernel
theorem dL_law_940 : decode cL_law 940 = .ok (.iadd, 1) := by decide +kernel
theorem dL_law_941 : decode cL_law 941 = .ok (.iaload, 1) := by decide +kernel
theorem dL_law_942 : decode cL_law 942 = .ok (.invokevirtual 130, 3) := by decide +kernel
theorem dL_law_945 : decode cL_law 945 = .ok (.aload_n 2, 1) := by decide +kernel
theorem dL_law_946 : decode cL_law 946 = .ok (.aload_n 0, 1) := by decide +kernel
theorem dL_law_947 : decode cL_law 947 = .ok (.iload 4, 2) := by decide +kernel
theorem dL_law_949 : decode cL_law 949 = .ok (.iconst 1, 1) := by decide +kernel
theorem dL_law_950 : decode cL_law 950 = .ok (.iadd, 1) := by decide +kernel
theorem dL_law_951 : decode cL_law 951 = .ok (.iaload, 1) := by decide +kernel
theorem dL_law_952 : decode cL_law 952 = .ok (.invokevirtual 133, 3) := by decide +kernel
theorem dL_law_955 : decode cL_law 955 = .ok (.if_icmp .eq 381, 3) := by decide +kernel
theorem dL_law_958 : decode cL_law 958 = .ok (.iconst 0, 1) := by decide +kernel
theorem dL_law_959 : decode cL_law 959 = .ok (.ireturn, 1) := by decide +kernel
theorem dL_law_960 : decode cL_law 960 = .ok (.aload_n 1, 1) := by decide +kernel
theorem dL_law_961 : decode cL_law 961 = .ok (.aload_n 0, 1) := by decide +kernel
theorem dL_law_962 : decode cL_law 962 = .ok (.iload 4, 2) := by decide +kernel
theorem dL_law_964 : decode cL_law 964 = .ok (.iconst 1, 1) := by decide +kernel
theorem dL_law_965 : decode cL_law 965 = .ok (.iadd, 1) := by decide +kernel
theorem dL_law_966 : decode cL_law 966 = .ok (.iaload, 1) := by decide +kernel
theorem dL_law_967 : decode cL_law 967 = .ok (.invokevirtual 134, 3) := by decide +kernel
theorem dL_law_970 : decode cL_law 970 = .ok (.aload_n 2, 1) := by decide +kernel
theorem dL_law_971 : decode cL_law 971 = .ok (.aload_n 0, 1) := by decide +kernel
theorem dL_law_972 : decode cL_law 972 = .ok (.iload 4, 2) := by decide +kernel
theorem dL_law_974 : decode cL_law 974 = .ok (.iconst 1, 1) := by decide +kernel
theorem dL_law_975 : decode cL_law 975 = .ok (.iadd, 1) := by decide +kernel
theorem dL_law_976 : decode cL_law 976 = .ok (.iaload, 1) := by decide +kernel
theorem dL_law_977 : decode cL_law 977 = .ok (.invokevirtual 137, 3) := by decide +kernel
theorem dL_law_980 : decode cL_law 980 = .ok (.if_icmp .eq 356, 3) := by decide +kernel
theorem dL_law_983 : decode cL_law 983 = .ok (.iconst 0, 1) := by decide +kernel
theorem dL_law_984 : decode cL_law 984 = .ok (.ireturn, 1) := by decide +kernel
theorem dL_law_985 : decode cL_law 985 = .ok (.aload_n 1, 1) := by decide +kernel
theorem dL_law_986 : decode cL_law 986 = .ok (.aload_n 0, 1) := by decide +kernel
theorem dL_law_987 : decode cL_law 987 = .ok (.iload 4, 2) := by decide +kernel
theorem dL_law_989 : decode cL_law 989 = .ok (.iconst 1, 1) := by decide +kernel
theorem dL_law_990 : decode cL_law 990 = .ok (.iadd, 1) := by decide +kernel
theorem dL_law_991 : decode cL_law 991 = .ok (.iaload, 1) := by decide +kernel
theorem dL_law_992 : decode cL_law 992 = .ok (.aload_n 0, 1) := by decide +kernel
theorem dL_law_993 : decode cL_law 993 = .ok (.iload 4, 2) := by decide +kernel
theorem dL_law_995 : decode cL_law 995 = .ok (.iconst 2, 1) := by decide +kernel
theorem dL_law_996 : decode cL_law 996 = .ok (.iadd, 1) := by decide +kernel
theorem dL_law_997 : decode cL_law 997 = .ok (.iaload, 1) := by decide +kernel
theorem dL_law_998 : decode cL_law 998 = .ok (.invokevirtual 138, 3) := by decide +kernel
theorem dL_law_1001 : decode cL_law 1001 = .ok (.aload_n 2, 1) := by decide +kernel
theorem dL_law_1002 : decode cL_law 1002 = .ok (.aload_n 0, 1) := by decide +kernel
theorem dL_law_1003 : decode cL_law 1003 = .ok (.iload 4, 2) := by decide +kernel
theorem dL_law_1005 : decode cL_law 1005 = .ok (.iconst 1, 1) := by decide +kernel
theorem dL_law_1006 : decode cL_law 1006 = .ok (.iadd, 1) := by decide +kernel
theorem dL_law_1007 : decode cL_law 1007 = .ok (.iaload, 1) := by decide +kernel
theorem dL_law_1008 : decode cL_law 1008 = .ok (.aload_n 0, 1) := by decide +kernel
theorem dL_law_1009 : decode cL_law 1009 = .ok (.iload 4, 2) := by decide +kernel
theorem dL_law_1011 : decode cL_law 1011 = .ok (.iconst 2, 1) := by decide +kernel
theorem dL_law_1012 : decode cL_law 1012 = .ok (.iadd, 1) := by decide +kernel
theorem dL_law_1013 : decode cL_law 1013 = .ok (.iaload, 1) := by decide +kernel
theorem dL_law_1014 : decode cL_law 1014 = .ok (.invokevirtual 141, 3) := by decide +kernel
theorem dL_law_1017 : decode cL_law 1017 = .ok (.if_icmp .eq 319, 3) := by decide +kernel
theorem dL_law_1020 : decode cL_law 1020 = .ok (.iconst 0, 1) := by decide +kernel
theorem dL_law_1021 : decode cL_law 1021 = .ok (.ireturn, 1) := by decide +kernel
theorem dL_law_1022 : decode cL_law 1022 = .ok (.aload_n 1, 1) := by decide +kernel
theorem dL_law_1023 : decode cL_law 1023 = .ok (.aload_n 0, 1) := by decide +kernel
theorem dL_law_1024 : decode cL_law 1024 = .ok (.iload 4, 2) := by decide +kernel
theorem dL_law_1026 : decode cL_law 1026 = .ok (.iconst 1, 1) := by decide +kernel
theorem dL_law_1027 : decode cL_law 1027 = .ok (.iadd, 1) := by decide +kernel
theorem dL_law_1028 : decode cL_law 1028 = .ok (.iaload, 1) := by decide +kernel
theorem dL_law_1029 : decode cL_law 1029 = .ok (.aload_n 0, 1) := by decide +kernel
theorem dL_law_1030 : decode cL_law 1030 = .ok (.iload 4, 2) := by decide +kernel
theorem dL_law_1032 : decode cL_law 1032 = .ok (.iconst 2, 1) := by decide +kernel
theorem dL_law_1033 : decode cL_law 1033 = .ok (.iadd, 1) := by decide +kernel
theorem dL_law_1034 : decode cL_law 1034 = .ok (.iaload, 1) := by decide +kernel
theorem dL_law_1035 : decode cL_law 1035 = .ok (.aload_n 0, 1) := by decide +kernel
theorem dL_law_1036 : decode cL_law 1036 = .ok (.iload 4, 2) := by decide +kernel
theorem dL_law_1038 : decode cL_law 1038 = .ok (.iconst 3, 1) := by decide +kernel
theorem dL_law_1039 : decode cL_law 1039 = .ok (.iadd, 1) := by decide +kernel
theorem dL_law_1040 : decode cL_law 1040 = .ok (.iaload, 1) := by decide +kernel
theorem dL_law_1041 : decode cL_law 1041 = .ok (.invokevirtual 142, 3) := by decide +kernel
theorem dL_law_1044 : decode cL_law 1044 = .ok (.aload_n 2, 1) := by decide +kernel
theorem dL_law_1045 : decode cL_law 1045 = .ok (.aload_n 0, 1) := by decide +kernel
theorem dL_law_1046 : decode cL_law 1046 = .ok (.iload 4, 2) := by decide +kernel
theorem dL_law_1048 : decode cL_law 1048 = .ok (.iconst 1, 1) := by decide +kernel
theorem dL_law_1049 : decode cL_law 1049 = .ok (.iadd, 1) := by decide +kernel
theorem dL_law_1050 : decode cL_law 1050 = .ok (.iaload, 1) := by decide +kernel
theorem dL_law_1051 : decode cL_law 1051 = .ok (.aload_n 0, 1) := by decide +kernel
theorem dL_law_1052 : decode cL_law 1052 = .ok (.iload 4, 2) := by decide +kernel
theorem dL_law_1054 : decode cL_law 1054 = .ok (.iconst 2, 1) := by decide +kernel
theorem dL_law_1055 : decode cL_law 1055 = .ok (.iadd, 1) := by decide +kernel
theorem dL_law_1056 : decode cL_law 1056 = .ok (.iaload, 1) := by decide +kernel
theorem dL_law_1057 : decode cL_law 1057 = .ok (.aload_n 0, 1) := by decide +kernel
theorem dL_law_1058 : decode cL_law 1058 = .ok (.iload 4, 2) := by decide +kernel
theorem dL_law_1060 : decode cL_law 1060 = .ok (.iconst 3, 1) := by decide +kernel
theorem dL_law_1061 : decode cL_law 1061 = .ok (.iadd, 1) := by decide +kernel
theorem dL_law_1062 : decode cL_law 1062 = .ok (.iaload, 1) := by decide +kernel
theorem dL_law_1063 : decode cL_law 1063 = .ok (.invokevirtual 146, 3) := by decide +kernel
theorem dL_law_1066 : decode cL_law 1066 = .ok (.if_icmp .eq 270, 3) := by decide +kernel
theorem dL_law_1069 : decode cL_law 1069 = .ok (.iconst 0, 1) := by decide +kernel
theorem dL_law_1070 : decode cL_law 1070 = .ok (.ireturn, 1) := by decide +kernel
theorem dL_law_1071 : decode cL_law 1071 = .ok (.aload_n 1, 1) := by decide +kernel
theorem dL_law_1072 : decode cL_law 1072 = .ok (.invokevirtual 147, 3) := by decide +kernel
theorem dL_law_1075 : decode cL_law 1075 = .ok (.aload_n 2, 1) := by decide +kernel
theorem dL_law_1076 : decode cL_law 1076 = .ok (.invokevirtual 150, 3) := by decide +kernel
theorem dL_law_1079 : decode cL_law 1079 = .ok (.if_icmp .eq 257, 3) := by decide +kernel
theorem dL_law_1082 : decode cL_law 1082 = .ok (.iconst 0, 1) := by decide +kernel
theorem dL_law_1083 : decode cL_law 1083 = .ok (.ireturn, 1) := by decide +kernel
theorem dL_law_1084 : decode cL_law 1084 = .ok (.aload_n 1, 1) := by decide +kernel
theorem dL_law_1085 : decode cL_law 1085 = .ok (.aload_n 0, 1) := by decide +kernel
theorem dL_law_1086 : decode cL_law 1086 = .ok (.iload 4, 2) := by decide +kernel
theorem dL_law_1088 : decode cL_law 1088 = .ok (.iconst 1, 1) := by decide +kernel
theorem dL_law_1089 : decode cL_law 1089 = .ok (.iadd, 1) := by decide +kernel
theorem dL_law_1090 : decode cL_law 1090 = .ok (.iaload, 1) := by decide +kernel
theorem dL_law_1091 : decode cL_law 1091 = .ok (.invokevirtual 151, 3) := by decide +kernel
theorem dL_law_1094 : decode cL_law 1094 = .ok (.aload_n 2, 1) := by decide +kernel
theorem dL_law_1095 : decode cL_law 1095 = .ok (.aload_n 0, 1) := by decide +kernel
theorem dL_law_1096 : decode cL_law 1096 = .ok (.iload 4, 2) := by decide +kernel
theorem dL_law_1098 : decode cL_law 1098 = .ok (.iconst 1, 1) := by decide +kernel
theorem dL_law_1099 : decode cL_law 1099 = .ok (.iadd, 1) := by decide +kernel
theorem dL_law_1100 : decode cL_law 1100 = .ok (.iaload, 1) := by decide +kernel
theorem dL_law_1101 : decode cL_law 1101 = .ok (.invokevirtual 154, 3) := by decide +kernel
theorem dL_law_1104 : decode cL_law 1104 = .ok (.if_icmp .eq 232, 3) := by decide +kernel
theorem dL_law_1107 : decode cL_law 1107 = .ok (.iconst 0, 1) := by decide +kernel
theorem dL_law_1108 : decode cL_law 1108 = .ok (.ireturn, 1) := by decide +kernel
theorem dL_law_1109 : decode cL_law 1109 = .ok (.aload_n 1, 1) := by decide +kernel
theorem dL_law_1110 : decode cL_law 1110 = .ok (.aload_n 0, 1) := by decide +kernel
theorem dL_law_1111 : decode cL_law 1111 = .ok (.iload 4, 2) := by decide +kernel
theorem dL_law_1113 : decode cL_law 1113 = .ok (.iconst 1, 1) := by decide +kernel
theorem dL_law_1114 : decode cL_law 1114 = .ok (.iadd, 1) := by decide +kernel
theorem dL_law_1115 : decode cL_law 1115 = .ok (.iaload, 1) := by decide +kernel
theorem dL_law_1116 : decode cL_law 1116 = .ok (.invokevirtual 155, 3) := by decide +kernel
theorem dL_law_1119 : decode cL_law 1119 = .ok (.aload_n 2, 1) := by decide +kernel
theorem dL_law_1120 : decode cL_law 1120 = .ok (.aload_n 0, 1) := by decide +kernel
theorem dL_law_1121 : decode cL_law 1121 = .ok (.iload 4, 2) := by decide +kernel
theorem dL_law_1123 : decode cL_law 1123 = .ok (.iconst 1, 1) := by decide +kernel
theorem dL_law_1124 : decode cL_law 1124 = .ok (.iadd, 1) := by decide +kernel
theorem dL_law_1125 : decode cL_law 1125 = .ok (.iaload, 1) := by decide +kernel
theorem dL_law_1126 : decode cL_law 1126 = .ok (.invokevirtual 158, 3) := by decide +kernel
theorem dL_law_1129 : decode cL_law 1129 = .ok (.if_icmp .eq 207, 3) := by decide +kernel
theorem dL_law_1132 : decode cL_law 1132 = .ok (.iconst 0, 1) := by decide +kernel
theorem dL_law_1133 : decode cL_law 1133 = .ok (.ireturn, 1) := by decide +kernel
theorem dL_law_1134 : decode cL_law 1134 = .ok (.aload_n 1, 1) := by decide +kernel
theorem dL_law_1135 : decode cL_law 1135 = .ok (.invokevirtual 159, 3) := by decide +kernel
theorem dL_law_1138 : decode cL_law 1138 = .ok (.aload_n 2, 1) := by decide +kernel
theorem dL_law_1139 : decode cL_law 1139 = .ok (.invokevirtual 162, 3) := by decide +kernel
theorem dL_law_1142 : decode cL_law 1142 = .ok (.if_icmp .eq 194, 3) := by decide +kernel
theorem dL_law_1145 : decode cL_law 1145 = .ok (.iconst 0, 1) := by decide +kernel
theorem dL_law_1146 : decode cL_law 1146 = .ok (.ireturn, 1) := by decide +kernel
theorem dL_law_1147 : decode cL_law 1147 = .ok (.aload_n 1, 1) := by decide +kernel
theorem dL_law_1148 : decode cL_law 1148 = .ok (.invokevirtual 163, 3) := by decide +kernel
theorem dL_law_1151 : decode cL_law 1151 = .ok (.aload_n 2, 1) := by decide +kernel
theorem dL_law_1152 : decode cL_law 1152 = .ok (.invokevirtual 166, 3) := by decide +kernel
theorem dL_law_1155 : decode cL_law 1155 = .ok (.if_icmp .eq 181, 3) := by decide +kernel
theorem dL_law_1158 : decode cL_law 1158 = .ok (.iconst 0, 1) := by decide +kernel
theorem dL_law_1159 : decode cL_law 1159 = .ok (.ireturn, 1) := by decide +kernel
theorem dL_law_1160 : decode cL_law 1160 = .ok (.aload_n 1, 1) := by decide +kernel
theorem dL_law_1161 : decode cL_law 1161 = .ok (.aload_n 0, 1) := by decide +kernel
theorem dL_law_1162 : decode cL_law 1162 = .ok (.iload 4, 2) := by decide +kernel
theorem dL_law_1164 : decode cL_law 1164 = .ok (.iconst 1, 1) := by decide +kernel
theorem dL_law_1165 : decode cL_law 1165 = .ok (.iadd, 1) := by decide +kernel
theorem dL_law_1166 : decode cL_law 1166 = .ok (.iaload, 1) := by decide +kernel
theorem dL_law_1167 : decode cL_law 1167 = .ok (.invokevirtual 167, 3) := by decide +kernel
theorem dL_law_1170 : decode cL_law 1170 = .ok (.aload_n 2, 1) := by decide +kernel
theorem dL_law_1171 : decode cL_law 1171 = .ok (.aload_n 0, 1) := by decide +kernel
theorem dL_law_1172 : decode cL_law 1172 = .ok (.iload 4, 2) := by decide +kernel
theorem dL_law_1174 : decode cL_law 1174 = .ok (.iconst 1, 1) := by decide +kernel
theorem dL_law_1175 : decode cL_law 1175 = .ok (.iadd, 1) := by decide +kernel
theorem dL_law_1176 : decode cL_law 1176 = .ok (.iaload, 1) := by decide +kernel
theorem dL_law_1177 : decode cL_law 1177 = .ok (.invokevirtual 170, 3) := by decide +kernel
theorem dL_law_1180 : decode cL_law 1180 = .ok (.if_icmp .eq 156, 3) := by decide +kernel
theorem dL_law_1183 : decode cL_law 1183 = .ok (.iconst 0, 1) := by decide +kernel
theorem dL_law_1184 : decode cL_law 1184 = .ok (.ireturn, 1) := by decide +kernel
theorem dL_law_1185 : decode cL_law 1185 = .ok (.aload_n 1, 1) := by decide +kernel
theorem dL_law_1186 : decode cL_law 1186 = .ok (.invokevirtual 171, 3) := by decide +kernel
theorem dL_law_1189 : decode cL_law 1189 = .ok (.aload_n 2, 1) := by decide +kernel
theorem dL_law_1190 : decode cL_law 1190 = .ok (.invokevirtual 174, 3) := by decide +kernel
theorem dL_law_1193 : decode cL_law 1193 = .ok (.if_icmp .eq 143, 3) := by decide +kernel
theorem dL_law_1196 : decode cL_law 1196 = .ok (.iconst 0, 1) := by decide +kernel
theorem dL_law_1197 : decode cL_law 1197 = .ok (.ireturn, 1) := by decide +kernel
theorem dL_law_1198 : decode cL_law 1198 = .ok (.aload_n 1, 1) := by decide +kernel
theorem dL_law_1199 : decode cL_law 1199 = .ok (.aload_n 0, 1) := by decide +kernel
theorem dL_law_1200 : decode cL_law 1200 = .ok (.iload 4, 2) := by decide +kernel
theorem dL_law_1202 : decode cL_law 1202 = .ok (.iconst 1, 1) := by decide +kernel
theorem dL_law_1203 : decode cL_law 1203 = .ok (.iadd, 1) := by decide +kernel
theorem dL_law_1204 : decode cL_law 1204 = .ok (.iaload, 1) := by decide +kernel
theorem dL_law_1205 : decode cL_law 1205 = .ok (.invokevirtual 175, 3) := by decide +kernel
theorem dL_law_1208 : decode cL_law 1208 = .ok (.aload_n 2, 1) := by decide +kernel
theorem dL_law_1209 : decode cL_law 1209 = .ok (.aload_n 0, 1) := by decide +kernel
theorem dL_law_1210 : decode cL_law 1210 = .ok (.iload 4, 2) := by decide +kernel
theorem dL_law_1212 : decode cL_law 1212 = .ok (.iconst 1, 1) := by decide +kernel
theorem dL_law_1213 : decode cL_law 1213 = .ok (.iadd, 1) := by decide +kernel
theorem dL_law_1214 : decode cL_law 1214 = .ok (.iaload, 1) := by decide +kernel
theorem dL_law_1215 : decode cL_law 1215 = .ok (.invokevirtual 178, 3) := by decide +kernel
theorem dL_law_1218 : decode cL_law 1218 = .ok (.if_icmp .eq 118, 3) := by decide +kernel
theorem dL_law_1221 : decode cL_law 1221 = .ok (.iconst 0, 1) := by decide +kernel
theorem dL_law_1222 : decode cL_law 1222 = .ok (.ireturn, 1) := by decide +kernel
theorem dL_law_1223 : decode cL_law 1223 = .ok (.aload_n 1, 1) := by decide +kernel
theorem dL_law_1224 : decode cL_law 1224 = .ok (.aload_n 0, 1) := by decide +kernel
theorem dL_law_1225 : decode cL_law 1225 = .ok (.iload 4, 2) := by decide +kernel
theorem dL_law_1227 : decode cL_law 1227 = .ok (.iconst 1, 1) := by decide +kernel
theorem dL_law_1228 : decode cL_law 1228 = .ok (.iadd, 1) := by decide +kernel
theorem dL_law_1229 : decode cL_law 1229 = .ok (.iaload, 1) := by decide +kernel
theorem dL_law_1230 : decode cL_law 1230 = .ok (.invokevirtual 179, 3) := by decide +kernel
theorem dL_law_1233 : decode cL_law 1233 = .ok (.aload_n 2, 1) := by decide +kernel
theorem dL_law_1234 : decode cL_law 1234 = .ok (.aload_n 0, 1) := by decide +kernel
theorem dL_law_1235 : decode cL_law 1235 = .ok (.iload 4, 2) := by decide +kernel
theorem dL_law_1237 : decode cL_law 1237 = .ok (.iconst 1, 1) := by decide +kernel
theorem dL_law_1238 : decode cL_law 1238 = .ok (.iadd, 1) := by decide +kernel
theorem dL_law_1239 : decode cL_law 1239 = .ok (.iaload, 1) := by decide +kernel
theorem dL_law_1240 : decode cL_law 1240 = .ok (.invokevirtual 182, 3) := by decide +kernel
theorem dL_law_1243 : decode cL_law 1243 = .ok (.if_icmp .eq 93, 3) := by decide +kernel
theorem dL_law_1246 : decode cL_law 1246 = .ok (.iconst 0, 1) := by decide +kernel
theorem dL_law_1247 : decode cL_law 1247 = .ok (.ireturn, 1) := by decide +kernel
theorem dL_law_1248 : decode cL_law 1248 = .ok (.aload_n 1, 1) := by decide +kernel
theorem dL_law_1249 : decode cL_law 1249 = .ok (.invokevirtual 183, 3) := by decide +kernel
theorem dL_law_1252 : decode cL_law 1252 = .ok (.aload_n 2, 1) := by decide +kernel
theorem dL_law_1253 : decode cL_law 1253 = .ok (.invokevirtual 186, 3) := by decide +kernel
theorem dL_law_1256 : decode cL_law 1256 = .ok (.if_icmp .eq 80, 3) := by decide +kernel
theorem dL_law_1259 : decode cL_law 1259 = .ok (.iconst 0, 1) := by decide +kernel
theorem dL_law_1260 : decode cL_law 1260 = .ok (.ireturn, 1) := by decide +kernel
theorem dL_law_1261 : decode cL_law 1261 = .ok (.aload_n 1, 1) := by decide +kernel
theorem dL_law_1262 : decode cL_law 1262 = .ok (.aload_n 0, 1) := by decide +kernel
theorem dL_law_1263 : decode cL_law 1263 = .ok (.iload 4, 2) := by decide +kernel
theorem dL_law_1265 : decode cL_law 1265 = .ok (.iconst 1, 1) := by decide +kernel
theorem dL_law_1266 : decode cL_law 1266 = .ok (.iadd, 1) := by decide +kernel
theorem dL_law_1267 : decode cL_law 1267 = .ok (.iaload, 1) := by decide +kernel
theorem dL_law_1268 : decode cL_law 1268 = .ok (.invokevirtual 187, 3) := by decide +kernel
theorem dL_law_1271 : decode cL_law 1271 = .ok (.aload_n 2, 1) := by decide +kernel
theorem dL_law_1272 : decode cL_law 1272 = .ok (.aload_n 0, 1) := by decide +kernel
theorem dL_law_1273 : decode cL_law 1273 = .ok (.iload 4, 2) := by decide +kernel
theorem dL_law_1275 : decode cL_law 1275 = .ok (.iconst 1, 1) := by decide +kernel
theorem dL_law_1276 : decode cL_law 1276 = .ok (.iadd, 1) := by decide +kernel
theorem dL_law_1277 : decode cL_law 1277 = .ok (.iaload, 1) := by decide +kernel
theorem dL_law_1278 : decode cL_law 1278 = .ok (.invokevirtual 190, 3) := by decide +kernel
theorem dL_law_1281 : decode cL_law 1281 = .ok (.if_icmp .eq 55, 3) := by decide +kernel
theorem dL_law_1284 : decode cL_law 1284 = .ok (.iconst 0, 1) := by decide +kernel
theorem dL_law_1285 : decode cL_law 1285 = .ok (.ireturn, 1) := by decide +kernel
theorem dL_law_1286 : decode cL_law 1286 = .ok (.aload_n 1, 1) := by decide +kernel
theorem dL_law_1287 : decode cL_law 1287 = .ok (.aload_n 0, 1) := by decide +kernel
theorem dL_law_1288 : decode cL_law 1288 = .ok (.iload 4, 2) := by decide +kernel
theorem dL_law_1290 : decode cL_law 1290 = .ok (.iconst 1, 1) := by decide +kernel
theorem dL_law_1291 : decode cL_law 1291 = .ok (.iadd, 1) := by decide +kernel
theorem dL_law_1292 : decode cL_law 1292 = .ok (.iaload, 1) := by decide +kernel
theorem dL_law_1293 : decode cL_law 1293 = .ok (.invokevirtual 191, 3) := by decide +kernel
theorem dL_law_1296 : decode cL_law 1296 = .ok (.aload_n 2, 1) := by decide +kernel
theorem dL_law_1297 : decode cL_law 1297 = .ok (.aload_n 0, 1) := by decide +kernel
theorem dL_law_1298 : decode cL_law 1298 = .ok (.iload 4, 2) := by decide +kernel
theorem dL_law_1300 : decode cL_law 1300 = .ok (.iconst 1, 1) := by decide +kernel
theorem dL_law_1301 : decode cL_law 1301 = .ok (.iadd, 1) := by decide +kernel
theorem dL_law_1302 : decode cL_law 1302 = .ok (.iaload, 1) := by decide +kernel
theorem dL_law_1303 : decode cL_law 1303 = .ok (.invokevirtual 194, 3) := by decide +kernel
theorem dL_law_1306 : decode cL_law 1306 = .ok (.if_icmp .eq 30, 3) := by decide +kernel
theorem dL_law_1309 : decode cL_law 1309 = .ok (.iconst 0, 1) := by decide +kernel
theorem dL_law_1310 : decode cL_law 1310 = .ok (.ireturn, 1) := by decide +kernel
theorem dL_law_1311 : decode cL_law 1311 = .ok (.aload_n 1, 1) := by decide +kernel
theorem dL_law_1312 : decode cL_law 1312 = .ok (.aload_n 0, 1) := by decide +kernel
theorem dL_law_1313 : decode cL_law 1313 = .ok (.iload 4, 2) := by decide +kernel
theorem dL_law_1315 : decode cL_law 1315 = .ok (.iconst 1, 1) := by decide +kernel
theorem dL_law_1316 : decode cL_law 1316 = .ok (.iadd, 1) := by decide +kernel
theorem dL_law_1317 : decode cL_law 1317 = .ok (.iaload, 1) := by decide +kernel
theorem dL_law_1318 : decode cL_law 1318 = .ok (.invokevirtual 195, 3) := by decide +kernel
theorem dL_law_1321 : decode cL_law 1321 = .ok (.aload_n 2, 1) := by decide +kernel
theorem dL_law_1322 : decode cL_law 1322 = .ok (.aload_n 0, 1) := by decide +kernel
theorem dL_law_1323 : decode cL_law 1323 = .ok (.iload 4, 2) := by decide +kernel
theorem dL_law_1325 : decode cL_law 1325 = .ok (.iconst 1, 1) := by decide +kernel
theorem dL_law_1326 : decode cL_law 1326 = .ok (.iadd, 1) := by decide +kernel
theorem dL_law_1327 : decode cL_law 1327 = .ok (.iaload, 1) := by decide +kernel
theorem dL_law_1328 : decode cL_law 1328 = .ok (.invokevirtual 198, 3) := by decide +kernel
theorem dL_law_1331 : decode cL_law 1331 = .ok (.if_icmp .eq 5, 3) := by decide +kernel
theorem dL_law_1334 : decode cL_law 1334 = .ok (.iconst 0, 1) := by decide +kernel
theorem dL_law_1335 : decode cL_law 1335 = .ok (.ireturn, 1) := by decide +kernel
theorem dL_law_1336 : decode cL_law 1336 = .ok (.iinc 4 6, 3) := by decide +kernel
theorem dL_law_1339 : decode cL_law 1339 = .ok (.goto (-1316), 3) := by decide +kernel
theorem dL_law_1342 : decode cL_law 1342 = .ok (.iconst 1, 1) := by decide +kernel
theorem dL_law_1343 : decode cL_law 1343 = .ok (.ireturn, 1) := by decide +kernel
