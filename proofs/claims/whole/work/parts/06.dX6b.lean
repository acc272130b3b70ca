theorem dX6_darn_60 : decode cX6_darn 60 = .ok (.iload_n 2, 1) := by decide +kernel
theorem dX6_darn_61 : decode cX6_darn 61 = .ok (.iadd, 1) := by decide +kernel
theorem dX6_darn_62 : decode cX6_darn 62 = .ok (.iload_n 3, 1) := by decide +kernel
theorem dX6_darn_63 : decode cX6_darn 63 = .ok (.iastore, 1) := by decide +kernel
theorem dX6_darn_64 : decode cX6_darn 64 = .ok (.iload 4, 2) := by decide +kernel
theorem dX6_darn_66 : decode cX6_darn 66 = .ok (.ireturn, 1) := by decide +kernel
theorem dX6_thatWay_0 : decode cX6_thatWay 0 = .ok (.iload_n 1, 1) := by decide +kernel
theorem dX6_thatWay_1 : decode cX6_thatWay 1 = .ok (.tableswitch 74 0 2 #[27, 44, 59], 27) := by decide +kernel
theorem dX6_thatWay_28 : decode cX6_thatWay 28 = .ok (.iload_n 0, 1) := by decide +kernel
theorem dX6_thatWay_29 : decode cX6_thatWay 29 = .ok (.bipush 8, 2) := by decide +kernel
theorem dX6_thatWay_31 : decode cX6_thatWay 31 = .ok (.irem, 1) := by decide +kernel
theorem dX6_thatWay_32 : decode cX6_thatWay 32 = .ok (.bipush 7, 2) := by decide +kernel
theorem dX6_thatWay_34 : decode cX6_thatWay 34 = .ok (.if_icmp .ge 9, 3) := by decide +kernel
theorem dX6_thatWay_37 : decode cX6_thatWay 37 = .ok (.iload_n 0, 1) := by decide +kernel
theorem dX6_thatWay_38 : decode cX6_thatWay 38 = .ok (.iconst 1, 1) := by decide +kernel
theorem dX6_thatWay_39 : decode cX6_thatWay 39 = .ok (.iadd, 1) := by decide +kernel
theorem dX6_thatWay_40 : decode cX6_thatWay 40 = .ok (.goto 4, 3) := by decide +kernel
theorem dX6_thatWay_43 : decode cX6_thatWay 43 = .ok (.iconst (-1), 1) := by decide +kernel
theorem dX6_thatWay_44 : decode cX6_thatWay 44 = .ok (.ireturn, 1) := by decide +kernel
theorem dX6_thatWay_45 : decode cX6_thatWay 45 = .ok (.iload_n 0, 1) := by decide +kernel
theorem dX6_thatWay_46 : decode cX6_thatWay 46 = .ok (.bipush 56, 2) := by decide +kernel
theorem dX6_thatWay_48 : decode cX6_thatWay 48 = .ok (.if_icmp .ge 10, 3) := by decide +kernel
theorem dX6_thatWay_51 : decode cX6_thatWay 51 = .ok (.iload_n 0, 1) := by decide +kernel
theorem dX6_thatWay_52 : decode cX6_thatWay 52 = .ok (.bipush 8, 2) := by decide +kernel
theorem dX6_thatWay_54 : decode cX6_thatWay 54 = .ok (.iadd, 1) := by decide +kernel
theorem dX6_thatWay_55 : decode cX6_thatWay 55 = .ok (.goto 4, 3) := by decide +kernel
theorem dX6_thatWay_58 : decode cX6_thatWay 58 = .ok (.iconst (-1), 1) := by decide +kernel
theorem dX6_thatWay_59 : decode cX6_thatWay 59 = .ok (.ireturn, 1) := by decide +kernel
theorem dX6_thatWay_60 : decode cX6_thatWay 60 = .ok (.iload_n 0, 1) := by decide +kernel
theorem dX6_thatWay_61 : decode cX6_thatWay 61 = .ok (.bipush 8, 2) := by decide +kernel
theorem dX6_thatWay_63 : decode cX6_thatWay 63 = .ok (.irem, 1) := by decide +kernel
theorem dX6_thatWay_64 : decode cX6_thatWay 64 = .ok (.ifCond .le 9, 3) := by decide +kernel
theorem dX6_thatWay_67 : decode cX6_thatWay 67 = .ok (.iload_n 0, 1) := by decide +kernel
theorem dX6_thatWay_68 : decode cX6_thatWay 68 = .ok (.iconst 1, 1) := by decide +kernel
theorem dX6_thatWay_69 : decode cX6_thatWay 69 = .ok (.isub, 1) := by decide +kernel
theorem dX6_thatWay_70 : decode cX6_thatWay 70 = .ok (.goto 4, 3) := by decide +kernel
theorem dX6_thatWay_73 : decode cX6_thatWay 73 = .ok (.iconst (-1), 1) := by decide +kernel
theorem dX6_thatWay_74 : decode cX6_thatWay 74 = .ok (.ireturn, 1) := by decide +kernel
theorem dX6_thatWay_75 : decode cX6_thatWay 75 = .ok (.iload_n 0, 1) := by decide +kernel
theorem dX6_thatWay_76 : decode cX6_thatWay 76 = .ok (.bipush 7, 2) := by decide +kernel
theorem dX6_thatWay_78 : decode cX6_thatWay 78 = .ok (.if_icmp .le 10, 3) := by decide +kernel
theorem dX6_thatWay_81 : decode cX6_thatWay 81 = .ok (.iload_n 0, 1) := by decide +kernel
theorem dX6_thatWay_82 : decode cX6_thatWay 82 = .ok (.bipush 8, 2) := by decide +kernel
theorem dX6_thatWay_84 : decode cX6_thatWay 84 = .ok (.isub, 1) := by decide +kernel
theorem dX6_thatWay_85 : decode cX6_thatWay 85 = .ok (.goto 4, 3) := by decide +kernel
theorem dX6_thatWay_88 : decode cX6_thatWay 88 = .ok (.iconst (-1), 1) := by decide +kernel
theorem dX6_thatWay_89 : decode cX6_thatWay 89 = .ok (.ireturn, 1) := by decide +kernel
theorem dX6_stitches_0 : decode cX6_stitches 0 = .ok (.aload_n 0, 1) := by decide +kernel
theorem dX6_stitches_1 : decode cX6_stitches 1 = .ok (.getfield 19, 3) := by decide +kernel
theorem dX6_stitches_4 : decode cX6_stitches 4 = .ok (.bipush 16, 2) := by decide +kernel
theorem dX6_stitches_6 : decode cX6_stitches 6 = .ok (.iload_n 1, 1) := by decide +kernel
theorem dX6_stitches_7 : decode cX6_stitches 7 = .ok (.imul, 1) := by decide +kernel
theorem dX6_stitches_8 : decode cX6_stitches 8 = .ok (.aload_n 0, 1) := by decide +kernel
theorem dX6_stitches_9 : decode cX6_stitches 9 = .ok (.getfield 16, 3) := by decide +kernel
theorem dX6_stitches_12 : decode cX6_stitches 12 = .ok (.iconst 5, 1) := by decide +kernel
theorem dX6_stitches_13 : decode cX6_stitches 13 = .ok (.iload_n 1, 1) := by decide +kernel
theorem dX6_stitches_14 : decode cX6_stitches 14 = .ok (.imul, 1) := by decide +kernel
theorem dX6_stitches_15 : decode cX6_stitches 15 = .ok (.iconst 2, 1) := by decide +kernel
theorem dX6_stitches_16 : decode cX6_stitches 16 = .ok (.iadd, 1) := by decide +kernel
theorem dX6_stitches_17 : decode cX6_stitches 17 = .ok (.iaload, 1) := by decide +kernel
theorem dX6_stitches_18 : decode cX6_stitches 18 = .ok (.iadd, 1) := by decide +kernel
theorem dX6_stitches_19 : decode cX6_stitches 19 = .ok (.iaload, 1) := by decide +kernel
theorem dX6_stitches_20 : decode cX6_stitches 20 = .ok (.istore_n 2, 1) := by decide +kernel
theorem dX6_stitches_21 : decode cX6_stitches 21 = .ok (.aload_n 0, 1) := by decide +kernel
theorem dX6_stitches_22 : decode cX6_stitches 22 = .ok (.getfield 16, 3) := by decide +kernel
theorem dX6_stitches_25 : decode cX6_stitches 25 = .ok (.iconst 5, 1) := by decide +kernel
theorem dX6_stitches_26 : decode cX6_stitches 26 = .ok (.iload_n 1, 1) := by decide +kernel
theorem dX6_stitches_27 : decode cX6_stitches 27 = .ok (.imul, 1) := by decide +kernel
theorem dX6_stitches_28 : decode cX6_stitches 28 = .ok (.iconst 2, 1) := by decide +kernel
theorem dX6_stitches_29 : decode cX6_stitches 29 = .ok (.iadd, 1) := by decide +kernel
theorem dX6_stitches_30 : decode cX6_stitches 30 = .ok (.aload_n 0, 1) := by decide +kernel
theorem dX6_stitches_31 : decode cX6_stitches 31 = .ok (.getfield 16, 3) := by decide +kernel
theorem dX6_stitches_34 : decode cX6_stitches 34 = .ok (.iconst 5, 1) := by decide +kernel
theorem dX6_stitches_35 : decode cX6_stitches 35 = .ok (.iload_n 1, 1) := by decide +kernel
theorem dX6_stitches_36 : decode cX6_stitches 36 = .ok (.imul, 1) := by decide +kernel
theorem dX6_stitches_37 : decode cX6_stitches 37 = .ok (.iconst 2, 1) := by decide +kernel
theorem dX6_stitches_38 : decode cX6_stitches 38 = .ok (.iadd, 1) := by decide +kernel
theorem dX6_stitches_39 : decode cX6_stitches 39 = .ok (.iaload, 1) := by decide +kernel
theorem dX6_stitches_40 : decode cX6_stitches 40 = .ok (.iconst 1, 1) := by decide +kernel
theorem dX6_stitches_41 : decode cX6_stitches 41 = .ok (.iadd, 1) := by decide +kernel
theorem dX6_stitches_42 : decode cX6_stitches 42 = .ok (.aload_n 0, 1) := by decide +kernel
theorem dX6_stitches_43 : decode cX6_stitches 43 = .ok (.getfield 22, 3) := by decide +kernel
theorem dX6_stitches_46 : decode cX6_stitches 46 = .ok (.iload_n 1, 1) := by decide +kernel
theorem dX6_stitches_47 : decode cX6_stitches 47 = .ok (.iaload, 1) := by decide +kernel
theorem dX6_stitches_48 : decode cX6_stitches 48 = .ok (.if_icmp .ne 7, 3) := by decide +kernel
theorem dX6_stitches_51 : decode cX6_stitches 51 = .ok (.iconst 0, 1) := by decide +kernel
theorem dX6_stitches_52 : decode cX6_stitches 52 = .ok (.goto 15, 3) := by decide +kernel
theorem dX6_stitches_55 : decode cX6_stitches 55 = .ok (.aload_n 0, 1) := by decide +kernel
theorem dX6_stitches_56 : decode cX6_stitches 56 = .ok (.getfield 16, 3) := by decide +kernel
theorem dX6_stitches_59 : decode cX6_stitches 59 = .ok (.iconst 5, 1) := by decide +kernel
theorem dX6_stitches_60 : decode cX6_stitches 60 = .ok (.iload_n 1, 1) := by decide +kernel
theorem dX6_stitches_61 : decode cX6_stitches 61 = .ok (.imul, 1) := by decide +kernel
theorem dX6_stitches_62 : decode cX6_stitches 62 = .ok (.iconst 2, 1) := by decide +kernel
theorem dX6_stitches_63 : decode cX6_stitches 63 = .ok (.iadd, 1) := by decide +kernel
theorem dX6_stitches_64 : decode cX6_stitches 64 = .ok (.iaload, 1) := by decide +kernel
theorem dX6_stitches_65 : decode cX6_stitches 65 = .ok (.iconst 1, 1) := by decide +kernel
theorem dX6_stitches_66 : decode cX6_stitches 66 = .ok (.iadd, 1) := by decide +kernel
theorem dX6_stitches_67 : decode cX6_stitches 67 = .ok (.iastore, 1) := by decide +kernel
theorem dX6_stitches_68 : decode cX6_stitches 68 = .ok (.iload_n 2, 1) := by decide +kernel
theorem dX6_stitches_69 : decode cX6_stitches 69 = .ok (.iconst 3, 1) := by decide +kernel
theorem dX6_stitches_70 : decode cX6_stitches 70 = .ok (.if_icmp .ne 5, 3) := by decide +kernel
theorem dX6_stitches_73 : decode cX6_stitches 73 = .ok (.iconst 0, 1) := by decide +kernel
theorem dX6_stitches_74 : decode cX6_stitches 74 = .ok (.ireturn, 1) := by decide +kernel
theorem dX6_stitches_75 : decode cX6_stitches 75 = .ok (.iload_n 2, 1) := by decide +kernel
theorem dX6_stitches_76 : decode cX6_stitches 76 = .ok (.iconst 1, 1) := by decide +kernel
theorem dX6_stitches_77 : decode cX6_stitches 77 = .ok (.if_icmp .ne 7, 3) := by decide +kernel
theorem dX6_stitches_80 : decode cX6_stitches 80 = .ok (.iconst 3, 1) := by decide +kernel
theorem dX6_stitches_81 : decode cX6_stitches 81 = .ok (.goto 13, 3) := by decide +kernel
theorem dX6_stitches_84 : decode cX6_stitches 84 = .ok (.iload_n 2, 1) := by decide +kernel
theorem dX6_stitches_85 : decode cX6_stitches 85 = .ok (.iconst 2, 1) := by decide +kernel
theorem dX6_stitches_86 : decode cX6_stitches 86 = .ok (.if_icmp .ne 7, 3) := by decide +kernel
theorem dX6_stitches_89 : decode cX6_stitches 89 = .ok (.iconst 1, 1) := by decide +kernel
theorem dX6_stitches_90 : decode cX6_stitches 90 = .ok (.goto 4, 3) := by decide +kernel
theorem dX6_stitches_93 : decode cX6_stitches 93 = .ok (.iconst 0, 1) := by decide +kernel
theorem dX6_stitches_94 : decode cX6_stitches 94 = .ok (.istore_n 3, 1) := by decide +kernel
theorem dX6_stitches_95 : decode cX6_stitches 95 = .ok (.aload_n 0, 1) := by decide +kernel
theorem dX6_stitches_96 : decode cX6_stitches 96 = .ok (.getfield 16, 3) := by decide +kernel
theorem dX6_stitches_99 : decode cX6_stitches 99 = .ok (.iconst 5, 1) := by decide +kernel
theorem dX6_stitches_100 : decode cX6_stitches 100 = .ok (.iload_n 1, 1) := by decide +kernel
theorem dX6_stitches_101 : decode cX6_stitches 101 = .ok (.imul, 1) := by decide +kernel
theorem dX6_stitches_102 : decode cX6_stitches 102 = .ok (.iconst 1, 1) := by decide +kernel
theorem dX6_stitches_103 : decode cX6_stitches 103 = .ok (.iadd, 1) := by decide +kernel
theorem dX6_stitches_104 : decode cX6_stitches 104 = .ok (.aload_n 0, 1) := by decide +kernel
theorem dX6_stitches_105 : decode cX6_stitches 105 = .ok (.getfield 16, 3) := by decide +kernel
theorem dX6_stitches_108 : decode cX6_stitches 108 = .ok (.iconst 5, 1) := by decide +kernel
theorem dX6_stitches_109 : decode cX6_stitches 109 = .ok (.iload_n 1, 1) := by decide +kernel
theorem dX6_stitches_110 : decode cX6_stitches 110 = .ok (.imul, 1) := by decide +kernel
theorem dX6_stitches_111 : decode cX6_stitches 111 = .ok (.iconst 1, 1) := by decide +kernel
theorem dX6_stitches_112 : decode cX6_stitches 112 = .ok (.iadd, 1) := by decide +kernel
theorem dX6_stitches_113 : decode cX6_stitches 113 = .ok (.iaload, 1) := by decide +kernel
theorem dX6_stitches_114 : decode cX6_stitches 114 = .ok (.iload_n 3, 1) := by decide +kernel
theorem dX6_stitches_115 : decode cX6_stitches 115 = .ok (.iadd, 1) := by decide +kernel
theorem dX6_stitches_116 : decode cX6_stitches 116 = .ok (.iconst 4, 1) := by decide +kernel
theorem dX6_stitches_117 : decode cX6_stitches 117 = .ok (.irem, 1) := by decide +kernel
theorem dX6_stitches_118 : decode cX6_stitches 118 = .ok (.iastore, 1) := by decide +kernel
theorem dX6_stitches_119 : decode cX6_stitches 119 = .ok (.aload_n 0, 1) := by decide +kernel
theorem dX6_stitches_120 : decode cX6_stitches 120 = .ok (.getfield 16, 3) := by decide +kernel
theorem dX6_stitches_123 : decode cX6_stitches 123 = .ok (.iconst 5, 1) := by decide +kernel
theorem dX6_stitches_124 : decode cX6_stitches 124 = .ok (.iload_n 1, 1) := by decide +kernel
theorem dX6_stitches_125 : decode cX6_stitches 125 = .ok (.imul, 1) := by decide +kernel
theorem dX6_stitches_126 : decode cX6_stitches 126 = .ok (.iaload, 1) := by decide +kernel
theorem dX6_stitches_127 : decode cX6_stitches 127 = .ok (.aload_n 0, 1) := by decide +kernel
theorem dX6_stitches_128 : decode cX6_stitches 128 = .ok (.getfield 16, 3) := by decide +kernel
theorem dX6_stitches_131 : decode cX6_stitches 131 = .ok (.iconst 5, 1) := by decide +kernel
theorem dX6_stitches_132 : decode cX6_stitches 132 = .ok (.iload_n 1, 1) := by decide +kernel
theorem dX6_stitches_133 : decode cX6_stitches 133 = .ok (.imul, 1) := by decide +kernel
theorem dX6_stitches_134 : decode cX6_stitches 134 = .ok (.iconst 1, 1) := by decide +kernel
theorem dX6_stitches_135 : decode cX6_stitches 135 = .ok (.iadd, 1) := by decide +kernel
theorem dX6_stitches_136 : decode cX6_stitches 136 = .ok (.iaload, 1) := by decide +kernel
theorem dX6_stitches_137 : decode cX6_stitches 137 = .ok (.invokestatic 196, 3) := by decide +kernel
theorem dX6_stitches_140 : decode cX6_stitches 140 = .ok (.istore 4, 2) := by decide +kernel
theorem dX6_stitches_142 : decode cX6_stitches 142 = .ok (.iload 4, 2) := by decide +kernel
theorem dX6_stitches_144 : decode cX6_stitches 144 = .ok (.iconst (-1), 1) := by decide +kernel
theorem dX6_stitches_145 : decode cX6_stitches 145 = .ok (.if_icmp .ne 5, 3) := by decide +kernel
theorem dX6_stitches_148 : decode cX6_stitches 148 = .ok (.iconst 0, 1) := by decide +kernel
theorem dX6_stitches_149 : decode cX6_stitches 149 = .ok (.ireturn, 1) := by decide +kernel
theorem dX6_stitches_150 : decode cX6_stitches 150 = .ok (.aload_n 0, 1) := by decide +kernel
theorem dX6_stitches_151 : decode cX6_stitches 151 = .ok (.iload 4, 2) := by decide +kernel
theorem dX6_stitches_153 : decode cX6_stitches 153 = .ok (.invokevirtual 107, 3) := by decide +kernel
theorem dX6_stitches_156 : decode cX6_stitches 156 = .ok (.ifCond .eq 38, 3) := by decide +kernel
theorem dX6_stitches_159 : decode cX6_stitches 159 = .ok (.iload_n 2, 1) := by decide +kernel
theorem dX6_stitches_160 : decode cX6_stitches 160 = .ok (.iconst 4, 1) := by decide +kernel
theorem dX6_stitches_161 : decode cX6_stitches 161 = .ok (.if_icmp .eq 33, 3) := by decide +kernel
theorem dX6_stitches_164 : decode cX6_stitches 164 = .ok (.aload_n 0, 1) := by decide +kernel
theorem dX6_stitches_165 : decode cX6_stitches 165 = .ok (.getfield 16, 3) := by decide +kernel
theorem dX6_stitches_168 : decode cX6_stitches 168 = .ok (.iconst 5, 1) := by decide +kernel
theorem dX6_stitches_169 : decode cX6_stitches 169 = .ok (.iload_n 1, 1) := by decide +kernel
theorem dX6_stitches_170 : decode cX6_stitches 170 = .ok (.imul, 1) := by decide +kernel
theorem dX6_stitches_171 : decode cX6_stitches 171 = .ok (.iconst 3, 1) := by decide +kernel
theorem dX6_stitches_172 : decode cX6_stitches 172 = .ok (.iadd, 1) := by decide +kernel
theorem dX6_stitches_173 : decode cX6_stitches 173 = .ok (.aload_n 0, 1) := by decide +kernel
theorem dX6_stitches_174 : decode cX6_stitches 174 = .ok (.getfield 16, 3) := by decide +kernel
theorem dX6_stitches_177 : decode cX6_stitches 177 = .ok (.iconst 5, 1) := by decide +kernel
theorem dX6_stitches_178 : decode cX6_stitches 178 = .ok (.iload_n 1, 1) := by decide +kernel
theorem dX6_stitches_179 : decode cX6_stitches 179 = .ok (.imul, 1) := by decide +kernel
theorem dX6_stitches_180 : decode cX6_stitches 180 = .ok (.iconst 3, 1) := by decide +kernel
theorem dX6_stitches_181 : decode cX6_stitches 181 = .ok (.iadd, 1) := by decide +kernel
theorem dX6_stitches_182 : decode cX6_stitches 182 = .ok (.iaload, 1) := by decide +kernel
theorem dX6_stitches_183 : decode cX6_stitches 183 = .ok (.iconst 1, 1) := by decide +kernel
theorem dX6_stitches_184 : decode cX6_stitches 184 = .ok (.iadd, 1) := by decide +kernel
theorem dX6_stitches_185 : decode cX6_stitches 185 = .ok (.iconst 0, 1) := by decide +kernel
theorem dX6_stitches_186 : decode cX6_stitches 186 = .ok (.bipush 99, 2) := by decide +kernel
theorem dX6_stitches_188 : decode cX6_stitches 188 = .ok (.invokestatic 178, 3) := by decide +kernel
theorem dX6_stitches_191 : decode cX6_stitches 191 = .ok (.iastore, 1) := by decide +kernel
theorem dX6_stitches_192 : decode cX6_stitches 192 = .ok (.iconst 0, 1) := by decide +kernel
theorem dX6_stitches_193 : decode cX6_stitches 193 = .ok (.ireturn, 1) := by decide +kernel
theorem dX6_stitches_194 : decode cX6_stitches 194 = .ok (.aload_n 0, 1) := by decide +kernel
theorem dX6_stitches_195 : decode cX6_stitches 195 = .ok (.getfield 16, 3) := by decide +kernel
theorem dX6_stitches_198 : decode cX6_stitches 198 = .ok (.iconst 5, 1) := by decide +kernel
theorem dX6_stitches_199 : decode cX6_stitches 199 = .ok (.iload_n 1, 1) := by decide +kernel
theorem dX6_stitches_200 : decode cX6_stitches 200 = .ok (.imul, 1) := by decide +kernel
theorem dX6_stitches_201 : decode cX6_stitches 201 = .ok (.iload 4, 2) := by decide +kernel
theorem dX6_stitches_203 : decode cX6_stitches 203 = .ok (.iastore, 1) := by decide +kernel
theorem dX6_stitches_204 : decode cX6_stitches 204 = .ok (.aload_n 0, 1) := by decide +kernel
theorem dX6_stitches_205 : decode cX6_stitches 205 = .ok (.dup, 1) := by decide +kernel
theorem dX6_stitches_206 : decode cX6_stitches 206 = .ok (.getfield 199, 3) := by decide +kernel
theorem dX6_stitches_209 : decode cX6_stitches 209 = .ok (.iconst 1, 1) := by decide +kernel
theorem dX6_stitches_210 : decode cX6_stitches 210 = .ok (.iadd, 1) := by decide +kernel
theorem dX6_stitches_211 : decode cX6_stitches 211 = .ok (.putfield 199, 3) := by decide +kernel
theorem dX6_stitches_214 : decode cX6_stitches 214 = .ok (.aload_n 0, 1) := by decide +kernel
theorem dX6_stitches_215 : decode cX6_stitches 215 = .ok (.getfield 64, 3) := by decide +kernel
theorem dX6_stitches_218 : decode cX6_stitches 218 = .ok (.iload_n 1, 1) := by decide +kernel
theorem dX6_stitches_219 : decode cX6_stitches 219 = .ok (.dup2, 1) := by decide +kernel
theorem dX6_stitches_220 : decode cX6_stitches 220 = .ok (.laload, 1) := by decide +kernel
theorem dX6_stitches_221 : decode cX6_stitches 221 = .ok (.lconst 1, 1) := by decide +kernel
theorem dX6_stitches_222 : decode cX6_stitches 222 = .ok (.iload 4, 2) := by decide +kernel
theorem dX6_stitches_224 : decode cX6_stitches 224 = .ok (.lshl, 1) := by decide +kernel
theorem dX6_stitches_225 : decode cX6_stitches 225 = .ok (.lor, 1) := by decide +kernel
theorem dX6_stitches_226 : decode cX6_stitches 226 = .ok (.lastore, 1) := by decide +kernel
theorem dX6_stitches_227 : decode cX6_stitches 227 = .ok (.iconst 1, 1) := by decide +kernel
theorem dX6_stitches_228 : decode cX6_stitches 228 = .ok (.ireturn, 1) := by decide +kernel
theorem dX6_nightOf_0 : decode cX6_nightOf 0 = .ok (.iconst 0, 1) := by decide +kernel
theorem dX6_nightOf_1 : decode cX6_nightOf 1 = .ok (.istore_n 1, 1) := by decide +kernel
theorem dX6_nightOf_2 : decode cX6_nightOf 2 = .ok (.iload_n 1, 1) := by decide +kernel
theorem dX6_nightOf_3 : decode cX6_nightOf 3 = .ok (.aload_n 0, 1) := by decide +kernel
theorem dX6_nightOf_4 : decode cX6_nightOf 4 = .ok (.getfield 83, 3) := by decide +kernel
theorem dX6_nightOf_7 : decode cX6_nightOf 7 = .ok (.if_icmp .ge 86, 3) := by decide +kernel
theorem dX6_nightOf_10 : decode cX6_nightOf 10 = .ok (.aload_n 0, 1) := by decide +kernel
theorem dX6_nightOf_11 : decode cX6_nightOf 11 = .ok (.iload_n 1, 1) := by decide +kernel
theorem dX6_nightOf_12 : decode cX6_nightOf 12 = .ok (.invokevirtual 187, 3) := by decide +kernel
theorem dX6_nightOf_15 : decode cX6_nightOf 15 = .ok (.istore_n 2, 1) := by decide +kernel
theorem dX6_nightOf_16 : decode cX6_nightOf 16 = .ok (.aload_n 0, 1) := by decide +kernel
theorem dX6_nightOf_17 : decode cX6_nightOf 17 = .ok (.iload_n 1, 1) := by decide +kernel
theorem dX6_nightOf_18 : decode cX6_nightOf 18 = .ok (.invokevirtual 193, 3) := by decide +kernel
theorem dX6_nightOf_21 : decode cX6_nightOf 21 = .ok (.istore_n 3, 1) := by decide +kernel
theorem dX6_nightOf_22 : decode cX6_nightOf 22 = .ok (.iconst 1, 1) := by decide +kernel
theorem dX6_nightOf_23 : decode cX6_nightOf 23 = .ok (.istore 4, 2) := by decide +kernel
theorem dX6_nightOf_25 : decode cX6_nightOf 25 = .ok (.iconst 0, 1) := by decide +kernel
theorem dX6_nightOf_26 : decode cX6_nightOf 26 = .ok (.istore 5, 2) := by decide +kernel
theorem dX6_nightOf_28 : decode cX6_nightOf 28 = .ok (.iload 5, 2) := by decide +kernel
theorem dX6_nightOf_30 : decode cX6_nightOf 30 = .ok (.iload_n 2, 1) := by decide +kernel
theorem dX6_nightOf_31 : decode cX6_nightOf 31 = .ok (.if_icmp .ge 21, 3) := by decide +kernel
theorem dX6_nightOf_34 : decode cX6_nightOf 34 = .ok (.iload 4, 2) := by decide +kernel
theorem dX6_nightOf_36 : decode cX6_nightOf 36 = .ok (.ifCond .eq 16, 3) := by decide +kernel
theorem dX6_nightOf_39 : decode cX6_nightOf 39 = .ok (.aload_n 0, 1) := by decide +kernel
theorem dX6_nightOf_40 : decode cX6_nightOf 40 = .ok (.iload_n 1, 1) := by decide +kernel
theorem dX6_nightOf_41 : decode cX6_nightOf 41 = .ok (.invokevirtual 202, 3) := by decide +kernel
theorem dX6_nightOf_44 : decode cX6_nightOf 44 = .ok (.istore 4, 2) := by decide +kernel
theorem dX6_nightOf_46 : decode cX6_nightOf 46 = .ok (.iinc 5 1, 3) := by decide +kernel
theorem dX6_nightOf_49 : decode cX6_nightOf 49 = .ok (.goto (-21), 3) := by decide +kernel
theorem dX6_nightOf_52 : decode cX6_nightOf 52 = .ok (.aload_n 0, 1) := by decide +kernel
theorem dX6_nightOf_53 : decode cX6_nightOf 53 = .ok (.getfield 16, 3) := by decide +kernel
theorem dX6_nightOf_56 : decode cX6_nightOf 56 = .ok (.iconst 5, 1) := by decide +kernel
theorem dX6_nightOf_57 : decode cX6_nightOf 57 = .ok (.iload_n 1, 1) := by decide +kernel
theorem dX6_nightOf_58 : decode cX6_nightOf 58 = .ok (.imul, 1) := by decide +kernel
theorem dX6_nightOf_59 : decode cX6_nightOf 59 = .ok (.iconst 4, 1) := by decide +kernel
theorem dX6_nightOf_60 : decode cX6_nightOf 60 = .ok (.iadd, 1) := by decide +kernel
theorem dX6_nightOf_61 : decode cX6_nightOf 61 = .ok (.iaload, 1) := by decide +kernel
theorem dX6_nightOf_62 : decode cX6_nightOf 62 = .ok (.iload_n 3, 1) := by decide +kernel
theorem dX6_nightOf_63 : decode cX6_nightOf 63 = .ok (.isub, 1) := by decide +kernel
theorem dX6_nightOf_64 : decode cX6_nightOf 64 = .ok (.istore 5, 2) := by decide +kernel
theorem dX6_nightOf_66 : decode cX6_nightOf 66 = .ok (.aload_n 0, 1) := by decide +kernel
theorem dX6_nightOf_67 : decode cX6_nightOf 67 = .ok (.getfield 16, 3) := by decide +kernel
theorem dX6_nightOf_70 : decode cX6_nightOf 70 = .ok (.iconst 5, 1) := by decide +kernel
theorem dX6_nightOf_71 : decode cX6_nightOf 71 = .ok (.iload_n 1, 1) := by decide +kernel
theorem dX6_nightOf_72 : decode cX6_nightOf 72 = .ok (.imul, 1) := by decide +kernel
theorem dX6_nightOf_73 : decode cX6_nightOf 73 = .ok (.iconst 4, 1) := by decide +kernel
theorem dX6_nightOf_74 : decode cX6_nightOf 74 = .ok (.iadd, 1) := by decide +kernel
theorem dX6_nightOf_75 : decode cX6_nightOf 75 = .ok (.iload 5, 2) := by decide +kernel
theorem dX6_nightOf_77 : decode cX6_nightOf 77 = .ok (.ifCond .ge 7, 3) := by decide +kernel
theorem dX6_nightOf_80 : decode cX6_nightOf 80 = .ok (.iconst 0, 1) := by decide +kernel
theorem dX6_nightOf_81 : decode cX6_nightOf 81 = .ok (.goto 5, 3) := by decide +kernel
theorem dX6_nightOf_84 : decode cX6_nightOf 84 = .ok (.iload 5, 2) := by decide +kernel
theorem dX6_nightOf_86 : decode cX6_nightOf 86 = .ok (.iastore, 1) := by decide +kernel
theorem dX6_nightOf_87 : decode cX6_nightOf 87 = .ok (.iinc 1 1, 3) := by decide +kernel
theorem dX6_nightOf_90 : decode cX6_nightOf 90 = .ok (.goto (-88), 3) := by decide +kernel
theorem dX6_nightOf_93 : decode cX6_nightOf 93 = .ok (.aload_n 0, 1) := by decide +kernel
theorem dX6_nightOf_94 : decode cX6_nightOf 94 = .ok (.dup, 1) := by decide +kernel
theorem dX6_nightOf_95 : decode cX6_nightOf 95 = .ok (.getfield 94, 3) := by decide +kernel
theorem dX6_nightOf_98 : decode cX6_nightOf 98 = .ok (.iconst 1, 1) := by decide +kernel
theorem dX6_nightOf_99 : decode cX6_nightOf 99 = .ok (.iadd, 1) := by decide +kernel
theorem dX6_nightOf_100 : decode cX6_nightOf 100 = .ok (.putfield 94, 3) := by decide +kernel
theorem dX6_nightOf_103 : decode cX6_nightOf 103 = .ok (.return_, 1) := by decide +kernel
theorem dX6_night_0 : decode cX6_night 0 = .ok (.aload_n 0, 1) := by decide +kernel
theorem dX6_night_1 : decode cX6_night 1 = .ok (.getfield 94, 3) := by decide +kernel
theorem dX6_night_4 : decode cX6_night 4 = .ok (.sipush 999, 3) := by decide +kernel
theorem dX6_night_7 : decode cX6_night 7 = .ok (.if_icmp .ne 6, 3) := by decide +kernel
theorem dX6_night_10 : decode cX6_night 10 = .ok (.bipush (-3), 2) := by decide +kernel
theorem dX6_night_12 : decode cX6_night 12 = .ok (.ireturn, 1) := by decide +kernel
theorem dX6_night_13 : decode cX6_night 13 = .ok (.aload_n 0, 1) := by decide +kernel
theorem dX6_night_14 : decode cX6_night 14 = .ok (.iconst 0, 1) := by decide +kernel
theorem dX6_night_15 : decode cX6_night 15 = .ok (.putfield 199, 3) := by decide +kernel
theorem dX6_night_18 : decode cX6_night 18 = .ok (.aload_n 0, 1) := by decide +kernel
theorem dX6_night_19 : decode cX6_night 19 = .ok (.invokevirtual 205, 3) := by decide +kernel
theorem dX6_night_22 : decode cX6_night 22 = .ok (.aload_n 0, 1) := by decide +kernel
theorem dX6_night_23 : decode cX6_night 23 = .ok (.getfield 199, 3) := by decide +kernel
theorem dX6_night_26 : decode cX6_night 26 = .ok (.ireturn, 1) := by decide +kernel
theorem dX6_keeps_0 : decode cX6_keeps 0 = .ok (.iconst 0, 1) := by decide +kernel
theorem dX6_keeps_1 : decode cX6_keeps 1 = .ok (.istore_n 1, 1) := by decide +kernel
theorem dX6_keeps_2 : decode cX6_keeps 2 = .ok (.iload_n 1, 1) := by decide +kernel
theorem dX6_keeps_3 : decode cX6_keeps 3 = .ok (.bipush 30, 2) := by decide +kernel
theorem dX6_keeps_5 : decode cX6_keeps 5 = .ok (.if_icmp .ge 21, 3) := by decide +kernel
theorem dX6_keeps_8 : decode cX6_keeps 8 = .ok (.aload_n 0, 1) := by decide +kernel
theorem dX6_keeps_9 : decode cX6_keeps 9 = .ok (.getfield 68, 3) := by decide +kernel
theorem dX6_keeps_12 : decode cX6_keeps 12 = .ok (.iload_n 1, 1) := by decide +kernel
theorem dX6_keeps_13 : decode cX6_keeps 13 = .ok (.aload_n 0, 1) := by decide +kernel
theorem dX6_keeps_14 : decode cX6_keeps 14 = .ok (.getfield 16, 3) := by decide +kernel
theorem dX6_keeps_17 : decode cX6_keeps 17 = .ok (.iload_n 1, 1) := by decide +kernel
theorem dX6_keeps_18 : decode cX6_keeps 18 = .ok (.iaload, 1) := by decide +kernel
theorem dX6_keeps_19 : decode cX6_keeps 19 = .ok (.iastore, 1) := by decide +kernel
theorem dX6_keeps_20 : decode cX6_keeps 20 = .ok (.iinc 1 1, 3) := by decide +kernel
theorem dX6_keeps_23 : decode cX6_keeps 23 = .ok (.goto (-21), 3) := by decide +kernel
theorem dX6_keeps_26 : decode cX6_keeps 26 = .ok (.aload_n 0, 1) := by decide +kernel
theorem dX6_keeps_27 : decode cX6_keeps 27 = .ok (.getfield 68, 3) := by decide +kernel
theorem dX6_keeps_30 : decode cX6_keeps 30 = .ok (.bipush 30, 2) := by decide +kernel
theorem dX6_keeps_32 : decode cX6_keeps 32 = .ok (.aload_n 0, 1) := by decide +kernel
theorem dX6_keeps_33 : decode cX6_keeps 33 = .ok (.getfield 94, 3) := by decide +kernel
theorem dX6_keeps_36 : decode cX6_keeps 36 = .ok (.iastore, 1) := by decide +kernel
theorem dX6_keeps_37 : decode cX6_keeps 37 = .ok (.return_, 1) := by decide +kernel
theorem dX6_lays_0 : decode cX6_lays 0 = .ok (.iconst 0, 1) := by decide +kernel
theorem dX6_lays_1 : decode cX6_lays 1 = .ok (.istore_n 1, 1) := by decide +kernel
theorem dX6_lays_2 : decode cX6_lays 2 = .ok (.iload_n 1, 1) := by decide +kernel
theorem dX6_lays_3 : decode cX6_lays 3 = .ok (.bipush 30, 2) := by decide +kernel
theorem dX6_lays_5 : decode cX6_lays 5 = .ok (.if_icmp .ge 21, 3) := by decide +kernel
theorem dX6_lays_8 : decode cX6_lays 8 = .ok (.aload_n 0, 1) := by decide +kernel
theorem dX6_lays_9 : decode cX6_lays 9 = .ok (.getfield 16, 3) := by decide +kernel
theorem dX6_lays_12 : decode cX6_lays 12 = .ok (.iload_n 1, 1) := by decide +kernel
theorem dX6_lays_13 : decode cX6_lays 13 = .ok (.aload_n 0, 1) := by decide +kernel
theorem dX6_lays_14 : decode cX6_lays 14 = .ok (.getfield 68, 3) := by decide +kernel
theorem dX6_lays_17 : decode cX6_lays 17 = .ok (.iload_n 1, 1) := by decide +kernel
theorem dX6_lays_18 : decode cX6_lays 18 = .ok (.iaload, 1) := by decide +kernel
theorem dX6_lays_19 : decode cX6_lays 19 = .ok (.iastore, 1) := by decide +kernel
theorem dX6_lays_20 : decode cX6_lays 20 = .ok (.iinc 1 1, 3) := by decide +kernel
theorem dX6_lays_23 : decode cX6_lays 23 = .ok (.goto (-21), 3) := by decide +kernel
theorem dX6_lays_26 : decode cX6_lays 26 = .ok (.aload_n 0, 1) := by decide +kernel
theorem dX6_lays_27 : decode cX6_lays 27 = .ok (.aload_n 0, 1) := by decide +kernel
theorem dX6_lays_28 : decode cX6_lays 28 = .ok (.getfield 68, 3) := by decide +kernel
theorem dX6_lays_31 : decode cX6_lays 31 = .ok (.bipush 30, 2) := by decide +kernel
theorem dX6_lays_33 : decode cX6_lays 33 = .ok (.iaload, 1) := by decide +kernel
theorem dX6_lays_34 : decode cX6_lays 34 = .ok (.putfield 94, 3) := by decide +kernel
theorem dX6_lays_37 : decode cX6_lays 37 = .ok (.return_, 1) := by decide +kernel
theorem dX6_goes_0 : decode cX6_goes 0 = .ok (.aload_n 0, 1) := by decide +kernel
theorem dX6_goes_1 : decode cX6_goes 1 = .ok (.iconst 0, 1) := by decide +kernel
theorem dX6_goes_2 : decode cX6_goes 2 = .ok (.putfield 199, 3) := by decide +kernel
theorem dX6_goes_5 : decode cX6_goes 5 = .ok (.iconst 0, 1) := by decide +kernel
theorem dX6_goes_6 : decode cX6_goes 6 = .ok (.istore_n 2, 1) := by decide +kernel
theorem dX6_goes_7 : decode cX6_goes 7 = .ok (.iload_n 2, 1) := by decide +kernel
theorem dX6_goes_8 : decode cX6_goes 8 = .ok (.aload_n 0, 1) := by decide +kernel
theorem dX6_goes_9 : decode cX6_goes 9 = .ok (.getfield 83, 3) := by decide +kernel
theorem dX6_goes_12 : decode cX6_goes 12 = .ok (.if_icmp .ge 25, 3) := by decide +kernel
theorem dX6_goes_15 : decode cX6_goes 15 = .ok (.aload_n 0, 1) := by decide +kernel
theorem dX6_goes_16 : decode cX6_goes 16 = .ok (.getfield 64, 3) := by decide +kernel
theorem dX6_goes_19 : decode cX6_goes 19 = .ok (.iload_n 2, 1) := by decide +kernel
theorem dX6_goes_20 : decode cX6_goes 20 = .ok (.lconst 1, 1) := by decide +kernel
theorem dX6_goes_21 : decode cX6_goes 21 = .ok (.aload_n 0, 1) := by decide +kernel
theorem dX6_goes_22 : decode cX6_goes 22 = .ok (.getfield 16, 3) := by decide +kernel
theorem dX6_goes_25 : decode cX6_goes 25 = .ok (.iconst 5, 1) := by decide +kernel
theorem dX6_goes_26 : decode cX6_goes 26 = .ok (.iload_n 2, 1) := by decide +kernel
theorem dX6_goes_27 : decode cX6_goes 27 = .ok (.imul, 1) := by decide +kernel
theorem dX6_goes_28 : decode cX6_goes 28 = .ok (.iaload, 1) := by decide +kernel
theorem dX6_goes_29 : decode cX6_goes 29 = .ok (.lshl, 1) := by decide +kernel
theorem dX6_goes_30 : decode cX6_goes 30 = .ok (.lastore, 1) := by decide +kernel
theorem dX6_goes_31 : decode cX6_goes 31 = .ok (.iinc 2 1, 3) := by decide +kernel
theorem dX6_goes_34 : decode cX6_goes 34 = .ok (.goto (-27), 3) := by decide +kernel
theorem dX6_goes_37 : decode cX6_goes 37 = .ok (.iconst 0, 1) := by decide +kernel
theorem dX6_goes_38 : decode cX6_goes 38 = .ok (.istore_n 2, 1) := by decide +kernel
theorem dX6_goes_39 : decode cX6_goes 39 = .ok (.iload_n 2, 1) := by decide +kernel
theorem dX6_goes_40 : decode cX6_goes 40 = .ok (.iload_n 1, 1) := by decide +kernel
theorem dX6_goes_41 : decode cX6_goes 41 = .ok (.if_icmp .ge 13, 3) := by decide +kernel
theorem dX6_goes_44 : decode cX6_goes 44 = .ok (.aload_n 0, 1) := by decide +kernel
theorem dX6_goes_45 : decode cX6_goes 45 = .ok (.invokevirtual 205, 3) := by decide +kernel
theorem dX6_goes_48 : decode cX6_goes 48 = .ok (.iinc 2 1, 3) := by decide +kernel
theorem dX6_goes_51 : decode cX6_goes 51 = .ok (.goto (-12), 3) := by decide +kernel
theorem dX6_goes_54 : decode cX6_goes 54 = .ok (.return_, 1) := by decide +kernel
theorem dX6_mindsAll_0 : decode cX6_mindsAll 0 = .ok (.iconst 0, 1) := by decide +kernel
theorem dX6_mindsAll_1 : decode cX6_mindsAll 1 = .ok (.istore_n 1, 1) := by decide +kernel
theorem dX6_mindsAll_2 : decode cX6_mindsAll 2 = .ok (.iconst 0, 1) := by decide +kernel
theorem dX6_mindsAll_3 : decode cX6_mindsAll 3 = .ok (.istore_n 2, 1) := by decide +kernel
theorem dX6_mindsAll_4 : decode cX6_mindsAll 4 = .ok (.iload_n 2, 1) := by decide +kernel
theorem dX6_mindsAll_5 : decode cX6_mindsAll 5 = .ok (.aload_n 0, 1) := by decide +kernel
theorem dX6_mindsAll_6 : decode cX6_mindsAll 6 = .ok (.getfield 83, 3) := by decide +kernel
theorem dX6_mindsAll_9 : decode cX6_mindsAll 9 = .ok (.if_icmp .ge 17, 3) := by decide +kernel
theorem dX6_mindsAll_12 : decode cX6_mindsAll 12 = .ok (.iload_n 1, 1) := by decide +kernel
theorem dX6_mindsAll_13 : decode cX6_mindsAll 13 = .ok (.aload_n 0, 1) := by decide +kernel
theorem dX6_mindsAll_14 : decode cX6_mindsAll 14 = .ok (.iload_n 2, 1) := by decide +kernel
theorem dX6_mindsAll_15 : decode cX6_mindsAll 15 = .ok (.invokevirtual 190, 3) := by decide +kernel
theorem dX6_mindsAll_18 : decode cX6_mindsAll 18 = .ok (.iadd, 1) := by decide +kernel
theorem dX6_mindsAll_19 : decode cX6_mindsAll 19 = .ok (.istore_n 1, 1) := by decide +kernel
theorem dX6_mindsAll_20 : decode cX6_mindsAll 20 = .ok (.iinc 2 1, 3) := by decide +kernel
theorem dX6_mindsAll_23 : decode cX6_mindsAll 23 = .ok (.goto (-19), 3) := by decide +kernel
theorem dX6_mindsAll_26 : decode cX6_mindsAll 26 = .ok (.iload_n 1, 1) := by decide +kernel
theorem dX6_mindsAll_27 : decode cX6_mindsAll 27 = .ok (.ireturn, 1) := by decide +kernel
theorem dX6_twosNow_0 : decode cX6_twosNow 0 = .ok (.iconst 0, 1) := by decide +kernel
theorem dX6_twosNow_1 : decode cX6_twosNow 1 = .ok (.istore_n 1, 1) := by decide +kernel
theorem dX6_twosNow_2 : decode cX6_twosNow 2 = .ok (.iconst 0, 1) := by decide +kernel
theorem dX6_twosNow_3 : decode cX6_twosNow 3 = .ok (.istore_n 2, 1) := by decide +kernel
theorem dX6_twosNow_4 : decode cX6_twosNow 4 = .ok (.iload_n 2, 1) := by decide +kernel
theorem dX6_twosNow_5 : decode cX6_twosNow 5 = .ok (.aload_n 0, 1) := by decide +kernel
theorem dX6_twosNow_6 : decode cX6_twosNow 6 = .ok (.getfield 83, 3) := by decide +kernel
theorem dX6_twosNow_9 : decode cX6_twosNow 9 = .ok (.if_icmp .ge 54, 3) := by decide +kernel
theorem dX6_twosNow_12 : decode cX6_twosNow 12 = .ok (.iload_n 2, 1) := by decide +kernel
theorem dX6_twosNow_13 : decode cX6_twosNow 13 = .ok (.iconst 1, 1) := by decide +kernel
theorem dX6_twosNow_14 : decode cX6_twosNow 14 = .ok (.iadd, 1) := by decide +kernel
theorem dX6_twosNow_15 : decode cX6_twosNow 15 = .ok (.istore_n 3, 1) := by decide +kernel
theorem dX6_twosNow_16 : decode cX6_twosNow 16 = .ok (.iload_n 3, 1) := by decide +kernel
theorem dX6_twosNow_17 : decode cX6_twosNow 17 = .ok (.aload_n 0, 1) := by decide +kernel
theorem dX6_twosNow_18 : decode cX6_twosNow 18 = .ok (.getfield 83, 3) := by decide +kernel
theorem dX6_twosNow_21 : decode cX6_twosNow 21 = .ok (.if_icmp .ge 36, 3) := by decide +kernel
theorem dX6_twosNow_24 : decode cX6_twosNow 24 = .ok (.iload_n 1, 1) := by decide +kernel
theorem dX6_twosNow_25 : decode cX6_twosNow 25 = .ok (.aload_n 0, 1) := by decide +kernel
theorem dX6_twosNow_26 : decode cX6_twosNow 26 = .ok (.getfield 16, 3) := by decide +kernel
theorem dX6_twosNow_29 : decode cX6_twosNow 29 = .ok (.iconst 5, 1) := by decide +kernel
theorem dX6_twosNow_30 : decode cX6_twosNow 30 = .ok (.iload_n 2, 1) := by decide +kernel
theorem dX6_twosNow_31 : decode cX6_twosNow 31 = .ok (.imul, 1) := by decide +kernel
theorem dX6_twosNow_32 : decode cX6_twosNow 32 = .ok (.iaload, 1) := by decide +kernel
theorem dX6_twosNow_33 : decode cX6_twosNow 33 = .ok (.aload_n 0, 1) := by decide +kernel
theorem dX6_twosNow_34 : decode cX6_twosNow 34 = .ok (.getfield 16, 3) := by decide +kernel
theorem dX6_twosNow_37 : decode cX6_twosNow 37 = .ok (.iconst 5, 1) := by decide +kernel
theorem dX6_twosNow_38 : decode cX6_twosNow 38 = .ok (.iload_n 3, 1) := by decide +kernel
theorem dX6_twosNow_39 : decode cX6_twosNow 39 = .ok (.imul, 1) := by decide +kernel
theorem dX6_twosNow_40 : decode cX6_twosNow 40 = .ok (.iaload, 1) := by decide +kernel
theorem dX6_twosNow_41 : decode cX6_twosNow 41 = .ok (.if_icmp .ne 7, 3) := by decide +kernel
theorem dX6_twosNow_44 : decode cX6_twosNow 44 = .ok (.iconst 1, 1) := by decide +kernel
theorem dX6_twosNow_45 : decode cX6_twosNow 45 = .ok (.goto 4, 3) := by decide +kernel
theorem dX6_twosNow_48 : decode cX6_twosNow 48 = .ok (.iconst 0, 1) := by decide +kernel
theorem dX6_twosNow_49 : decode cX6_twosNow 49 = .ok (.iadd, 1) := by decide +kernel
theorem dX6_twosNow_50 : decode cX6_twosNow 50 = .ok (.istore_n 1, 1) := by decide +kernel
theorem dX6_twosNow_51 : decode cX6_twosNow 51 = .ok (.iinc 3 1, 3) := by decide +kernel
theorem dX6_twosNow_54 : decode cX6_twosNow 54 = .ok (.goto (-38), 3) := by decide +kernel
theorem dX6_twosNow_57 : decode cX6_twosNow 57 = .ok (.iinc 2 1, 3) := by decide +kernel
theorem dX6_twosNow_60 : decode cX6_twosNow 60 = .ok (.goto (-56), 3) := by decide +kernel
theorem dX6_twosNow_63 : decode cX6_twosNow 63 = .ok (.iload_n 1, 1) := by decide +kernel
theorem dX6_twosNow_64 : decode cX6_twosNow 64 = .ok (.ireturn, 1) := by decide +kernel
theorem dX6_toldBehind_0 : decode cX6_toldBehind 0 = .ok (.iload_n 1, 1) := by decide +kernel
theorem dX6_toldBehind_1 : decode cX6_toldBehind 1 = .ok (.tableswitch 42 0 2 #[27, 32, 37], 27) := by decide +kernel
theorem dX6_toldBehind_28 : decode cX6_toldBehind 28 = .ok (.aload_n 0, 1) := by decide +kernel
theorem dX6_toldBehind_29 : decode cX6_toldBehind 29 = .ok (.getfield 199, 3) := by decide +kernel
theorem dX6_toldBehind_32 : decode cX6_toldBehind 32 = .ok (.ireturn, 1) := by decide +kernel
theorem dX6_toldBehind_33 : decode cX6_toldBehind 33 = .ok (.aload_n 0, 1) := by decide +kernel
theorem dX6_toldBehind_34 : decode cX6_toldBehind 34 = .ok (.invokevirtual 208, 3) := by decide +kernel
theorem dX6_toldBehind_37 : decode cX6_toldBehind 37 = .ok (.ireturn, 1) := by decide +kernel
theorem dX6_toldBehind_38 : decode cX6_toldBehind 38 = .ok (.aload_n 0, 1) := by decide +kernel
theorem dX6_toldBehind_39 : decode cX6_toldBehind 39 = .ok (.invokevirtual 211, 3) := by decide +kernel
theorem dX6_toldBehind_42 : decode cX6_toldBehind 42 = .ok (.ireturn, 1) := by decide +kernel
theorem dX6_toldBehind_43 : decode cX6_toldBehind 43 = .ok (.iload_n 1, 1) := by decide +kernel
theorem dX6_toldBehind_44 : decode cX6_toldBehind 44 = .ok (.bipush 20, 2) := by decide +kernel
theorem dX6_toldBehind_46 : decode cX6_toldBehind 46 = .ok (.if_icmp .ge 17, 3) := by decide +kernel
theorem dX6_toldBehind_49 : decode cX6_toldBehind 49 = .ok (.aload_n 0, 1) := by decide +kernel
theorem dX6_toldBehind_50 : decode cX6_toldBehind 50 = .ok (.getfield 16, 3) := by decide +kernel
theorem dX6_toldBehind_53 : decode cX6_toldBehind 53 = .ok (.iconst 5, 1) := by decide +kernel
theorem dX6_toldBehind_54 : decode cX6_toldBehind 54 = .ok (.iload_n 1, 1) := by decide +kernel
theorem dX6_toldBehind_55 : decode cX6_toldBehind 55 = .ok (.bipush 10, 2) := by decide +kernel
theorem dX6_toldBehind_57 : decode cX6_toldBehind 57 = .ok (.isub, 1) := by decide +kernel
theorem dX6_toldBehind_58 : decode cX6_toldBehind 58 = .ok (.imul, 1) := by decide +kernel
theorem dX6_toldBehind_59 : decode cX6_toldBehind 59 = .ok (.iaload, 1) := by decide +kernel
theorem dX6_toldBehind_60 : decode cX6_toldBehind 60 = .ok (.goto 16, 3) := by decide +kernel
theorem dX6_toldBehind_63 : decode cX6_toldBehind 63 = .ok (.aload_n 0, 1) := by decide +kernel
theorem dX6_toldBehind_64 : decode cX6_toldBehind 64 = .ok (.getfield 16, 3) := by decide +kernel
theorem dX6_toldBehind_67 : decode cX6_toldBehind 67 = .ok (.iconst 5, 1) := by decide +kernel
theorem dX6_toldBehind_68 : decode cX6_toldBehind 68 = .ok (.iload_n 1, 1) := by decide +kernel
theorem dX6_toldBehind_69 : decode cX6_toldBehind 69 = .ok (.bipush 20, 2) := by decide +kernel
theorem dX6_toldBehind_71 : decode cX6_toldBehind 71 = .ok (.isub, 1) := by decide +kernel
theorem dX6_toldBehind_72 : decode cX6_toldBehind 72 = .ok (.imul, 1) := by decide +kernel
theorem dX6_toldBehind_73 : decode cX6_toldBehind 73 = .ok (.iconst 3, 1) := by decide +kernel
theorem dX6_toldBehind_74 : decode cX6_toldBehind 74 = .ok (.iadd, 1) := by decide +kernel
theorem dX6_toldBehind_75 : decode cX6_toldBehind 75 = .ok (.iaload, 1) := by decide +kernel
theorem dX6_toldBehind_76 : decode cX6_toldBehind 76 = .ok (.ireturn, 1) := by decide +kernel
theorem dX6_run_0 : decode cX6_run 0 = .ok (.iload_n 2, 1) := by decide +kernel
theorem dX6_run_1 : decode cX6_run 1 = .ok (.iconst 0, 1) := by decide +kernel
theorem dX6_run_2 : decode cX6_run 2 = .ok (.iconst 2, 1) := by decide +kernel
theorem dX6_run_3 : decode cX6_run 3 = .ok (.invokestatic 79, 3) := by decide +kernel
theorem dX6_run_6 : decode cX6_run 6 = .ok (.ifCond .ne 35, 3) := by decide +kernel
theorem dX6_run_9 : decode cX6_run 9 = .ok (.iload_n 2, 1) := by decide +kernel
theorem dX6_run_10 : decode cX6_run 10 = .ok (.bipush 10, 2) := by decide +kernel
theorem dX6_run_12 : decode cX6_run 12 = .ok (.bipush 9, 2) := by decide +kernel
theorem dX6_run_14 : decode cX6_run 14 = .ok (.aload_n 0, 1) := by decide +kernel
theorem dX6_run_15 : decode cX6_run 15 = .ok (.getfield 83, 3) := by decide +kernel
theorem dX6_run_18 : decode cX6_run 18 = .ok (.iadd, 1) := by decide +kernel
theorem dX6_run_19 : decode cX6_run 19 = .ok (.invokestatic 79, 3) := by decide +kernel
theorem dX6_run_22 : decode cX6_run 22 = .ok (.ifCond .ne 19, 3) := by decide +kernel
theorem dX6_run_25 : decode cX6_run 25 = .ok (.iload_n 2, 1) := by decide +kernel
theorem dX6_run_26 : decode cX6_run 26 = .ok (.bipush 20, 2) := by decide +kernel
theorem dX6_run_28 : decode cX6_run 28 = .ok (.bipush 19, 2) := by decide +kernel
theorem dX6_run_30 : decode cX6_run 30 = .ok (.aload_n 0, 1) := by decide +kernel
theorem dX6_run_31 : decode cX6_run 31 = .ok (.getfield 83, 3) := by decide +kernel
theorem dX6_run_34 : decode cX6_run 34 = .ok (.iadd, 1) := by decide +kernel
theorem dX6_run_35 : decode cX6_run 35 = .ok (.invokestatic 79, 3) := by decide +kernel
theorem dX6_run_38 : decode cX6_run 38 = .ok (.ifCond .eq 7, 3) := by decide +kernel
theorem dX6_run_41 : decode cX6_run 41 = .ok (.iconst 1, 1) := by decide +kernel
theorem dX6_run_42 : decode cX6_run 42 = .ok (.goto 4, 3) := by decide +kernel
theorem dX6_run_45 : decode cX6_run 45 = .ok (.iconst 0, 1) := by decide +kernel
theorem dX6_run_46 : decode cX6_run 46 = .ok (.istore_n 3, 1) := by decide +kernel
theorem dX6_run_47 : decode cX6_run 47 = .ok (.iload_n 1, 1) := by decide +kernel
theorem dX6_run_48 : decode cX6_run 48 = .ok (.iconst 0, 1) := by decide +kernel
theorem dX6_run_49 : decode cX6_run 49 = .ok (.bipush 40, 2) := by decide +kernel
theorem dX6_run_51 : decode cX6_run 51 = .ok (.invokestatic 79, 3) := by decide +kernel
theorem dX6_run_54 : decode cX6_run 54 = .ok (.ifCond .eq 7, 3) := by decide +kernel
theorem dX6_run_57 : decode cX6_run 57 = .ok (.iload_n 3, 1) := by decide +kernel
theorem dX6_run_58 : decode cX6_run 58 = .ok (.ifCond .ne 6, 3) := by decide +kernel
theorem dX6_run_61 : decode cX6_run 61 = .ok (.ldc 214, 2) := by decide +kernel
theorem dX6_run_63 : decode cX6_run 63 = .ok (.ireturn, 1) := by decide +kernel
theorem dX6_run_64 : decode cX6_run 64 = .ok (.aload_n 0, 1) := by decide +kernel
theorem dX6_run_65 : decode cX6_run 65 = .ok (.invokevirtual 215, 3) := by decide +kernel
theorem dX6_run_68 : decode cX6_run 68 = .ok (.aload_n 0, 1) := by decide +kernel
theorem dX6_run_69 : decode cX6_run 69 = .ok (.iload_n 1, 1) := by decide +kernel
theorem dX6_run_70 : decode cX6_run 70 = .ok (.invokevirtual 218, 3) := by decide +kernel
theorem dX6_run_73 : decode cX6_run 73 = .ok (.aload_n 0, 1) := by decide +kernel
theorem dX6_run_74 : decode cX6_run 74 = .ok (.iload_n 2, 1) := by decide +kernel
theorem dX6_run_75 : decode cX6_run 75 = .ok (.invokevirtual 221, 3) := by decide +kernel
theorem dX6_run_78 : decode cX6_run 78 = .ok (.istore 4, 2) := by decide +kernel
theorem dX6_run_80 : decode cX6_run 80 = .ok (.aload_n 0, 1) := by decide +kernel
theorem dX6_run_81 : decode cX6_run 81 = .ok (.invokevirtual 224, 3) := by decide +kernel
theorem dX6_run_84 : decode cX6_run 84 = .ok (.iload 4, 2) := by decide +kernel
theorem dX6_run_86 : decode cX6_run 86 = .ok (.ireturn, 1) := by decide +kernel
theorem dX6_tracked_0 : decode cX6_tracked 0 = .ok (.aload_n 0, 1) := by decide +kernel
theorem dX6_tracked_1 : decode cX6_tracked 1 = .ok (.invokevirtual 215, 3) := by decide +kernel
theorem dX6_tracked_4 : decode cX6_tracked 4 = .ok (.aload_n 0, 1) := by decide +kernel
theorem dX6_tracked_5 : decode cX6_tracked 5 = .ok (.iload_n 1, 1) := by decide +kernel
theorem dX6_tracked_6 : decode cX6_tracked 6 = .ok (.invokevirtual 218, 3) := by decide +kernel
theorem dX6_tracked_9 : decode cX6_tracked 9 = .ok (.aload_n 0, 1) := by decide +kernel
theorem dX6_tracked_10 : decode cX6_tracked 10 = .ok (.invokevirtual 224, 3) := by decide +kernel
theorem dX6_tracked_13 : decode cX6_tracked 13 = .ok (.lconst 0, 1) := by decide +kernel
theorem dX6_tracked_14 : decode cX6_tracked 14 = .ok (.lstore_n 3, 1) := by decide +kernel
theorem dX6_tracked_15 : decode cX6_tracked 15 = .ok (.iconst 0, 1) := by decide +kernel
theorem dX6_tracked_16 : decode cX6_tracked 16 = .ok (.istore 5, 2) := by decide +kernel
theorem dX6_tracked_18 : decode cX6_tracked 18 = .ok (.iload 5, 2) := by decide +kernel
theorem dX6_tracked_20 : decode cX6_tracked 20 = .ok (.aload_n 0, 1) := by decide +kernel
theorem dX6_tracked_21 : decode cX6_tracked 21 = .ok (.getfield 83, 3) := by decide +kernel
theorem dX6_tracked_24 : decode cX6_tracked 24 = .ok (.if_icmp .ge 34, 3) := by decide +kernel
theorem dX6_tracked_27 : decode cX6_tracked 27 = .ok (.lload_n 3, 1) := by decide +kernel
theorem dX6_tracked_28 : decode cX6_tracked 28 = .ok (.iload_n 2, 1) := by decide +kernel
theorem dX6_tracked_29 : decode cX6_tracked 29 = .ok (.iconst (-1), 1) := by decide +kernel
theorem dX6_tracked_30 : decode cX6_tracked 30 = .ok (.if_icmp .eq 9, 3) := by decide +kernel
theorem dX6_tracked_33 : decode cX6_tracked 33 = .ok (.iload_n 2, 1) := by decide +kernel
theorem dX6_tracked_34 : decode cX6_tracked 34 = .ok (.iload 5, 2) := by decide +kernel
theorem dX6_tracked_36 : decode cX6_tracked 36 = .ok (.if_icmp .ne 13, 3) := by decide +kernel
theorem dX6_tracked_39 : decode cX6_tracked 39 = .ok (.aload_n 0, 1) := by decide +kernel
theorem dX6_tracked_40 : decode cX6_tracked 40 = .ok (.getfield 64, 3) := by decide +kernel
theorem dX6_tracked_43 : decode cX6_tracked 43 = .ok (.iload 5, 2) := by decide +kernel
theorem dX6_tracked_45 : decode cX6_tracked 45 = .ok (.laload, 1) := by decide +kernel
theorem dX6_tracked_46 : decode cX6_tracked 46 = .ok (.goto 4, 3) := by decide +kernel
theorem dX6_tracked_49 : decode cX6_tracked 49 = .ok (.lconst 0, 1) := by decide +kernel
theorem dX6_tracked_50 : decode cX6_tracked 50 = .ok (.lor, 1) := by decide +kernel
theorem dX6_tracked_51 : decode cX6_tracked 51 = .ok (.lstore_n 3, 1) := by decide +kernel
theorem dX6_tracked_52 : decode cX6_tracked 52 = .ok (.iinc 5 1, 3) := by decide +kernel
theorem dX6_tracked_55 : decode cX6_tracked 55 = .ok (.goto (-37), 3) := by decide +kernel
theorem dX6_tracked_58 : decode cX6_tracked 58 = .ok (.lload_n 3, 1) := by decide +kernel
theorem dX6_tracked_59 : decode cX6_tracked 59 = .ok (.lreturn, 1) := by decide +kernel
theorem dX6_track_0 : decode cX6_track 0 = .ok (.iload_n 2, 1) := by decide +kernel
theorem dX6_track_1 : decode cX6_track 1 = .ok (.bipush (-2), 2) := by decide +kernel
theorem dX6_track_3 : decode cX6_track 3 = .ok (.if_icmp .ne 8, 3) := by decide +kernel
theorem dX6_track_6 : decode cX6_track 6 = .ok (.aload_n 0, 1) := by decide +kernel
theorem dX6_track_7 : decode cX6_track 7 = .ok (.getfield 86, 3) := by decide +kernel
theorem dX6_track_10 : decode cX6_track 10 = .ok (.lreturn, 1) := by decide +kernel
theorem dX6_track_11 : decode cX6_track 11 = .ok (.iload_n 1, 1) := by decide +kernel
theorem dX6_track_12 : decode cX6_track 12 = .ok (.iconst 0, 1) := by decide +kernel
theorem dX6_track_13 : decode cX6_track 13 = .ok (.bipush 40, 2) := by decide +kernel
theorem dX6_track_15 : decode cX6_track 15 = .ok (.invokestatic 79, 3) := by decide +kernel
theorem dX6_track_18 : decode cX6_track 18 = .ok (.ifCond .eq 26, 3) := by decide +kernel
theorem dX6_track_21 : decode cX6_track 21 = .ok (.iload_n 2, 1) := by decide +kernel
theorem dX6_track_22 : decode cX6_track 22 = .ok (.iconst (-1), 1) := by decide +kernel
theorem dX6_track_23 : decode cX6_track 23 = .ok (.aload_n 0, 1) := by decide +kernel
theorem dX6_track_24 : decode cX6_track 24 = .ok (.getfield 83, 3) := by decide +kernel
theorem dX6_track_27 : decode cX6_track 27 = .ok (.iconst 1, 1) := by decide +kernel
theorem dX6_track_28 : decode cX6_track 28 = .ok (.isub, 1) := by decide +kernel
theorem dX6_track_29 : decode cX6_track 29 = .ok (.invokestatic 79, 3) := by decide +kernel
theorem dX6_track_32 : decode cX6_track 32 = .ok (.ifCond .eq 12, 3) := by decide +kernel
theorem dX6_track_35 : decode cX6_track 35 = .ok (.aload_n 0, 1) := by decide +kernel
theorem dX6_track_36 : decode cX6_track 36 = .ok (.iload_n 1, 1) := by decide +kernel
theorem dX6_track_37 : decode cX6_track 37 = .ok (.iload_n 2, 1) := by decide +kernel
theorem dX6_track_38 : decode cX6_track 38 = .ok (.invokevirtual 227, 3) := by decide +kernel
theorem dX6_track_41 : decode cX6_track 41 = .ok (.goto 6, 3) := by decide +kernel
theorem dX6_track_44 : decode cX6_track 44 = .ok (.ldc2_w 231, 3) := by decide +kernel
theorem dX6_track_47 : decode cX6_track 47 = .ok (.lreturn, 1) := by decide +kernel
theorem dX6_comes_0 : decode cX6_comes 0 = .ok (.aload_n 0, 1) := by decide +kernel
theorem dX6_comes_1 : decode cX6_comes 1 = .ok (.iload_n 1, 1) := by decide +kernel
theorem dX6_comes_2 : decode cX6_comes 2 = .ok (.invokevirtual 181, 3) := by decide +kernel
theorem dX6_comes_5 : decode cX6_comes 5 = .ok (.ifCond .ne 6, 3) := by decide +kernel
theorem dX6_comes_8 : decode cX6_comes 8 = .ok (.bipush (-5), 2) := by decide +kernel
theorem dX6_comes_10 : decode cX6_comes 10 = .ok (.ireturn, 1) := by decide +kernel
theorem dX6_comes_11 : decode cX6_comes 11 = .ok (.iload_n 2, 1) := by decide +kernel
theorem dX6_comes_12 : decode cX6_comes 12 = .ok (.invokestatic 103, 3) := by decide +kernel
theorem dX6_comes_15 : decode cX6_comes 15 = .ok (.ifCond .ne 6, 3) := by decide +kernel
theorem dX6_comes_18 : decode cX6_comes 18 = .ok (.bipush (-7), 2) := by decide +kernel
theorem dX6_comes_20 : decode cX6_comes 20 = .ok (.ireturn, 1) := by decide +kernel
theorem dX6_comes_21 : decode cX6_comes 21 = .ok (.iconst (-1), 1) := by decide +kernel
theorem dX6_comes_22 : decode cX6_comes 22 = .ok (.istore_n 3, 1) := by decide +kernel
theorem dX6_comes_23 : decode cX6_comes 23 = .ok (.aload_n 0, 1) := by decide +kernel
theorem dX6_comes_24 : decode cX6_comes 24 = .ok (.invokevirtual 215, 3) := by decide +kernel
theorem dX6_comes_27 : decode cX6_comes 27 = .ok (.iconst 0, 1) := by decide +kernel
theorem dX6_comes_28 : decode cX6_comes 28 = .ok (.istore 4, 2) := by decide +kernel
theorem dX6_comes_30 : decode cX6_comes 30 = .ok (.iload 4, 2) := by decide +kernel
theorem dX6_comes_32 : decode cX6_comes 32 = .ok (.bipush 60, 2) := by decide +kernel
theorem dX6_comes_34 : decode cX6_comes 34 = .ok (.if_icmp .gt 37, 3) := by decide +kernel
theorem dX6_comes_37 : decode cX6_comes 37 = .ok (.iload_n 3, 1) := by decide +kernel
theorem dX6_comes_38 : decode cX6_comes 38 = .ok (.iconst (-1), 1) := by decide +kernel
theorem dX6_comes_39 : decode cX6_comes 39 = .ok (.if_icmp .ne 32, 3) := by decide +kernel
theorem dX6_comes_42 : decode cX6_comes 42 = .ok (.aload_n 0, 1) := by decide +kernel
theorem dX6_comes_43 : decode cX6_comes 43 = .ok (.getfield 16, 3) := by decide +kernel
theorem dX6_comes_46 : decode cX6_comes 46 = .ok (.iconst 5, 1) := by decide +kernel
theorem dX6_comes_47 : decode cX6_comes 47 = .ok (.iload_n 1, 1) := by decide +kernel
theorem dX6_comes_48 : decode cX6_comes 48 = .ok (.imul, 1) := by decide +kernel
theorem dX6_comes_49 : decode cX6_comes 49 = .ok (.iaload, 1) := by decide +kernel
theorem dX6_comes_50 : decode cX6_comes 50 = .ok (.iload_n 2, 1) := by decide +kernel
theorem dX6_comes_51 : decode cX6_comes 51 = .ok (.if_icmp .ne 8, 3) := by decide +kernel
theorem dX6_comes_54 : decode cX6_comes 54 = .ok (.iload 4, 2) := by decide +kernel
theorem dX6_comes_56 : decode cX6_comes 56 = .ok (.goto 4, 3) := by decide +kernel
theorem dX6_comes_59 : decode cX6_comes 59 = .ok (.iconst (-1), 1) := by decide +kernel
theorem dX6_comes_60 : decode cX6_comes 60 = .ok (.istore_n 3, 1) := by decide +kernel
theorem dX6_comes_61 : decode cX6_comes 61 = .ok (.aload_n 0, 1) := by decide +kernel
theorem dX6_comes_62 : decode cX6_comes 62 = .ok (.invokevirtual 205, 3) := by decide +kernel
theorem dX6_comes_65 : decode cX6_comes 65 = .ok (.iinc 4 1, 3) := by decide +kernel
theorem dX6_comes_68 : decode cX6_comes 68 = .ok (.goto (-38), 3) := by decide +kernel
theorem dX6_comes_71 : decode cX6_comes 71 = .ok (.aload_n 0, 1) := by decide +kernel
theorem dX6_comes_72 : decode cX6_comes 72 = .ok (.invokevirtual 224, 3) := by decide +kernel
theorem dX6_comes_75 : decode cX6_comes 75 = .ok (.iload_n 3, 1) := by decide +kernel
theorem dX6_comes_76 : decode cX6_comes 76 = .ok (.ireturn, 1) := by decide +kernel
theorem dX6_meet_0 : decode cX6_meet 0 = .ok (.aload_n 0, 1) := by decide +kernel
theorem dX6_meet_1 : decode cX6_meet 1 = .ok (.iload_n 1, 1) := by decide +kernel
theorem dX6_meet_2 : decode cX6_meet 2 = .ok (.invokevirtual 181, 3) := by decide +kernel
theorem dX6_meet_5 : decode cX6_meet 5 = .ok (.ifCond .eq 16, 3) := by decide +kernel
theorem dX6_meet_8 : decode cX6_meet 8 = .ok (.aload_n 0, 1) := by decide +kernel
theorem dX6_meet_9 : decode cX6_meet 9 = .ok (.iload_n 2, 1) := by decide +kernel
theorem dX6_meet_10 : decode cX6_meet 10 = .ok (.invokevirtual 181, 3) := by decide +kernel
theorem dX6_meet_13 : decode cX6_meet 13 = .ok (.ifCond .eq 8, 3) := by decide +kernel
theorem dX6_meet_16 : decode cX6_meet 16 = .ok (.iload_n 1, 1) := by decide +kernel
theorem dX6_meet_17 : decode cX6_meet 17 = .ok (.iload_n 2, 1) := by decide +kernel
theorem dX6_meet_18 : decode cX6_meet 18 = .ok (.if_icmp .ne 6, 3) := by decide +kernel
theorem dX6_meet_21 : decode cX6_meet 21 = .ok (.bipush (-5), 2) := by decide +kernel
theorem dX6_meet_23 : decode cX6_meet 23 = .ok (.ireturn, 1) := by decide +kernel
theorem dX6_meet_24 : decode cX6_meet 24 = .ok (.iconst (-1), 1) := by decide +kernel
theorem dX6_meet_25 : decode cX6_meet 25 = .ok (.istore_n 3, 1) := by decide +kernel
theorem dX6_meet_26 : decode cX6_meet 26 = .ok (.aload_n 0, 1) := by decide +kernel
theorem dX6_meet_27 : decode cX6_meet 27 = .ok (.invokevirtual 215, 3) := by decide +kernel
theorem dX6_meet_30 : decode cX6_meet 30 = .ok (.iconst 0, 1) := by decide +kernel
theorem dX6_meet_31 : decode cX6_meet 31 = .ok (.istore 4, 2) := by decide +kernel
theorem dX6_meet_33 : decode cX6_meet 33 = .ok (.iload 4, 2) := by decide +kernel
theorem dX6_meet_35 : decode cX6_meet 35 = .ok (.bipush 60, 2) := by decide +kernel
theorem dX6_meet_37 : decode cX6_meet 37 = .ok (.if_icmp .gt 44, 3) := by decide +kernel
theorem dX6_meet_40 : decode cX6_meet 40 = .ok (.iload_n 3, 1) := by decide +kernel
theorem dX6_meet_41 : decode cX6_meet 41 = .ok (.iconst (-1), 1) := by decide +kernel
theorem dX6_meet_42 : decode cX6_meet 42 = .ok (.if_icmp .ne 39, 3) := by decide +kernel
theorem dX6_meet_45 : decode cX6_meet 45 = .ok (.aload_n 0, 1) := by decide +kernel
theorem dX6_meet_46 : decode cX6_meet 46 = .ok (.getfield 16, 3) := by decide +kernel
theorem dX6_meet_49 : decode cX6_meet 49 = .ok (.iconst 5, 1) := by decide +kernel
theorem dX6_meet_50 : decode cX6_meet 50 = .ok (.iload_n 1, 1) := by decide +kernel
theorem dX6_meet_51 : decode cX6_meet 51 = .ok (.imul, 1) := by decide +kernel
theorem dX6_meet_52 : decode cX6_meet 52 = .ok (.iaload, 1) := by decide +kernel
theorem dX6_meet_53 : decode cX6_meet 53 = .ok (.aload_n 0, 1) := by decide +kernel
theorem dX6_meet_54 : decode cX6_meet 54 = .ok (.getfield 16, 3) := by decide +kernel
theorem dX6_meet_57 : decode cX6_meet 57 = .ok (.iconst 5, 1) := by decide +kernel
theorem dX6_meet_58 : decode cX6_meet 58 = .ok (.iload_n 2, 1) := by decide +kernel
theorem dX6_meet_59 : decode cX6_meet 59 = .ok (.imul, 1) := by decide +kernel
theorem dX6_meet_60 : decode cX6_meet 60 = .ok (.iaload, 1) := by decide +kernel
theorem dX6_meet_61 : decode cX6_meet 61 = .ok (.if_icmp .ne 8, 3) := by decide +kernel
theorem dX6_meet_64 : decode cX6_meet 64 = .ok (.iload 4, 2) := by decide +kernel
theorem dX6_meet_66 : decode cX6_meet 66 = .ok (.goto 4, 3) := by decide +kernel
theorem dX6_meet_69 : decode cX6_meet 69 = .ok (.iconst (-1), 1) := by decide +kernel
theorem dX6_meet_70 : decode cX6_meet 70 = .ok (.istore_n 3, 1) := by decide +kernel
theorem dX6_meet_71 : decode cX6_meet 71 = .ok (.aload_n 0, 1) := by decide +kernel
theorem dX6_meet_72 : decode cX6_meet 72 = .ok (.invokevirtual 205, 3) := by decide +kernel
theorem dX6_meet_75 : decode cX6_meet 75 = .ok (.iinc 4 1, 3) := by decide +kernel
theorem dX6_meet_78 : decode cX6_meet 78 = .ok (.goto (-45), 3) := by decide +kernel
theorem dX6_meet_81 : decode cX6_meet 81 = .ok (.aload_n 0, 1) := by decide +kernel
theorem dX6_meet_82 : decode cX6_meet 82 = .ok (.invokevirtual 224, 3) := by decide +kernel
theorem dX6_meet_85 : decode cX6_meet 85 = .ok (.iload_n 3, 1) := by decide +kernel
theorem dX6_meet_86 : decode cX6_meet 86 = .ok (.ireturn, 1) := by decide +kernel
theorem dX6_onEnd_0 : decode cX6_onEnd 0 = .ok (.aload_n 0, 1) := by decide +kernel
theorem dX6_onEnd_1 : decode cX6_onEnd 1 = .ok (.getfield 16, 3) := by decide +kernel
theorem dX6_onEnd_4 : decode cX6_onEnd 4 = .ok (.iconst 5, 1) := by decide +kernel
theorem dX6_onEnd_5 : decode cX6_onEnd 5 = .ok (.iload_n 1, 1) := by decide +kernel
theorem dX6_onEnd_6 : decode cX6_onEnd 6 = .ok (.imul, 1) := by decide +kernel
theorem dX6_onEnd_7 : decode cX6_onEnd 7 = .ok (.iconst 2, 1) := by decide +kernel
theorem dX6_onEnd_8 : decode cX6_onEnd 8 = .ok (.iadd, 1) := by decide +kernel
theorem dX6_onEnd_9 : decode cX6_onEnd 9 = .ok (.iaload, 1) := by decide +kernel
theorem dX6_onEnd_10 : decode cX6_onEnd 10 = .ok (.istore_n 3, 1) := by decide +kernel
theorem dX6_onEnd_11 : decode cX6_onEnd 11 = .ok (.aload_n 0, 1) := by decide +kernel
theorem dX6_onEnd_12 : decode cX6_onEnd 12 = .ok (.getfield 16, 3) := by decide +kernel
theorem dX6_onEnd_15 : decode cX6_onEnd 15 = .ok (.iconst 5, 1) := by decide +kernel
theorem dX6_onEnd_16 : decode cX6_onEnd 16 = .ok (.iload_n 2, 1) := by decide +kernel
theorem dX6_onEnd_17 : decode cX6_onEnd 17 = .ok (.imul, 1) := by decide +kernel
theorem dX6_onEnd_18 : decode cX6_onEnd 18 = .ok (.iconst 2, 1) := by decide +kernel
theorem dX6_onEnd_19 : decode cX6_onEnd 19 = .ok (.iadd, 1) := by decide +kernel
theorem dX6_onEnd_20 : decode cX6_onEnd 20 = .ok (.iaload, 1) := by decide +kernel
theorem dX6_onEnd_21 : decode cX6_onEnd 21 = .ok (.istore 4, 2) := by decide +kernel
theorem dX6_onEnd_23 : decode cX6_onEnd 23 = .ok (.iconst 0, 1) := by decide +kernel
theorem dX6_onEnd_24 : decode cX6_onEnd 24 = .ok (.istore 5, 2) := by decide +kernel
theorem dX6_onEnd_26 : decode cX6_onEnd 26 = .ok (.iload 5, 2) := by decide +kernel
theorem dX6_onEnd_28 : decode cX6_onEnd 28 = .ok (.sipush 240, 3) := by decide +kernel
theorem dX6_onEnd_31 : decode cX6_onEnd 31 = .ok (.if_icmp .ge 78, 3) := by decide +kernel
theorem dX6_onEnd_34 : decode cX6_onEnd 34 = .ok (.aload_n 0, 1) := by decide +kernel
theorem dX6_onEnd_35 : decode cX6_onEnd 35 = .ok (.getfield 19, 3) := by decide +kernel
theorem dX6_onEnd_38 : decode cX6_onEnd 38 = .ok (.bipush 16, 2) := by decide +kernel
theorem dX6_onEnd_40 : decode cX6_onEnd 40 = .ok (.iload_n 1, 1) := by decide +kernel
theorem dX6_onEnd_41 : decode cX6_onEnd 41 = .ok (.imul, 1) := by decide +kernel
theorem dX6_onEnd_42 : decode cX6_onEnd 42 = .ok (.iload_n 3, 1) := by decide +kernel
theorem dX6_onEnd_43 : decode cX6_onEnd 43 = .ok (.iadd, 1) := by decide +kernel
theorem dX6_onEnd_44 : decode cX6_onEnd 44 = .ok (.iaload, 1) := by decide +kernel
theorem dX6_onEnd_45 : decode cX6_onEnd 45 = .ok (.aload_n 0, 1) := by decide +kernel
theorem dX6_onEnd_46 : decode cX6_onEnd 46 = .ok (.getfield 19, 3) := by decide +kernel
theorem dX6_onEnd_49 : decode cX6_onEnd 49 = .ok (.bipush 16, 2) := by decide +kernel
theorem dX6_onEnd_51 : decode cX6_onEnd 51 = .ok (.iload_n 2, 1) := by decide +kernel
theorem dX6_onEnd_52 : decode cX6_onEnd 52 = .ok (.imul, 1) := by decide +kernel
theorem dX6_onEnd_53 : decode cX6_onEnd 53 = .ok (.iload 4, 2) := by decide +kernel
theorem dX6_onEnd_55 : decode cX6_onEnd 55 = .ok (.iadd, 1) := by decide +kernel
theorem dX6_onEnd_56 : decode cX6_onEnd 56 = .ok (.iaload, 1) := by decide +kernel
theorem dX6_onEnd_57 : decode cX6_onEnd 57 = .ok (.if_icmp .ne 52, 3) := by decide +kernel
theorem dX6_onEnd_60 : decode cX6_onEnd 60 = .ok (.iinc 5 1, 3) := by decide +kernel
theorem dX6_onEnd_63 : decode cX6_onEnd 63 = .ok (.iload_n 3, 1) := by decide +kernel
theorem dX6_onEnd_64 : decode cX6_onEnd 64 = .ok (.iconst 1, 1) := by decide +kernel
theorem dX6_onEnd_65 : decode cX6_onEnd 65 = .ok (.iadd, 1) := by decide +kernel
theorem dX6_onEnd_66 : decode cX6_onEnd 66 = .ok (.aload_n 0, 1) := by decide +kernel
theorem dX6_onEnd_67 : decode cX6_onEnd 67 = .ok (.getfield 22, 3) := by decide +kernel
theorem dX6_onEnd_70 : decode cX6_onEnd 70 = .ok (.iload_n 1, 1) := by decide +kernel
theorem dX6_onEnd_71 : decode cX6_onEnd 71 = .ok (.iaload, 1) := by decide +kernel
theorem dX6_onEnd_72 : decode cX6_onEnd 72 = .ok (.if_icmp .ne 7, 3) := by decide +kernel
theorem dX6_onEnd_75 : decode cX6_onEnd 75 = .ok (.iconst 0, 1) := by decide +kernel
theorem dX6_onEnd_76 : decode cX6_onEnd 76 = .ok (.goto 6, 3) := by decide +kernel
theorem dX6_onEnd_79 : decode cX6_onEnd 79 = .ok (.iload_n 3, 1) := by decide +kernel
theorem dX6_onEnd_80 : decode cX6_onEnd 80 = .ok (.iconst 1, 1) := by decide +kernel
theorem dX6_onEnd_81 : decode cX6_onEnd 81 = .ok (.iadd, 1) := by decide +kernel
theorem dX6_onEnd_82 : decode cX6_onEnd 82 = .ok (.istore_n 3, 1) := by decide +kernel
theorem dX6_onEnd_83 : decode cX6_onEnd 83 = .ok (.iload 4, 2) := by decide +kernel
theorem dX6_onEnd_85 : decode cX6_onEnd 85 = .ok (.iconst 1, 1) := by decide +kernel
theorem dX6_onEnd_86 : decode cX6_onEnd 86 = .ok (.iadd, 1) := by decide +kernel
theorem dX6_onEnd_87 : decode cX6_onEnd 87 = .ok (.aload_n 0, 1) := by decide +kernel
theorem dX6_onEnd_88 : decode cX6_onEnd 88 = .ok (.getfield 22, 3) := by decide +kernel
theorem dX6_onEnd_91 : decode cX6_onEnd 91 = .ok (.iload_n 2, 1) := by decide +kernel
theorem dX6_onEnd_92 : decode cX6_onEnd 92 = .ok (.iaload, 1) := by decide +kernel
theorem dX6_onEnd_93 : decode cX6_onEnd 93 = .ok (.if_icmp .ne 7, 3) := by decide +kernel
theorem dX6_onEnd_96 : decode cX6_onEnd 96 = .ok (.iconst 0, 1) := by decide +kernel
theorem dX6_onEnd_97 : decode cX6_onEnd 97 = .ok (.goto 7, 3) := by decide +kernel
theorem dX6_onEnd_100 : decode cX6_onEnd 100 = .ok (.iload 4, 2) := by decide +kernel
theorem dX6_onEnd_102 : decode cX6_onEnd 102 = .ok (.iconst 1, 1) := by decide +kernel
theorem dX6_onEnd_103 : decode cX6_onEnd 103 = .ok (.iadd, 1) := by decide +kernel
theorem dX6_onEnd_104 : decode cX6_onEnd 104 = .ok (.istore 4, 2) := by decide +kernel
theorem dX6_onEnd_106 : decode cX6_onEnd 106 = .ok (.goto (-80), 3) := by decide +kernel
theorem dX6_onEnd_109 : decode cX6_onEnd 109 = .ok (.iload 5, 2) := by decide +kernel
theorem dX6_onEnd_111 : decode cX6_onEnd 111 = .ok (.ireturn, 1) := by decide +kernel
theorem dX6_isSoTurned_0 : decode cX6_isSoTurned 0 = .ok (.aload_n 0, 1) := by decide +kernel
theorem dX6_isSoTurned_1 : decode cX6_isSoTurned 1 = .ok (.getfield 22, 3) := by decide +kernel
theorem dX6_isSoTurned_4 : decode cX6_isSoTurned 4 = .ok (.iload_n 1, 1) := by decide +kernel
theorem dX6_isSoTurned_5 : decode cX6_isSoTurned 5 = .ok (.iaload, 1) := by decide +kernel
theorem dX6_isSoTurned_6 : decode cX6_isSoTurned 6 = .ok (.istore 4, 2) := by decide +kernel
theorem dX6_isSoTurned_8 : decode cX6_isSoTurned 8 = .ok (.iconst 0, 1) := by decide +kernel
theorem dX6_isSoTurned_9 : decode cX6_isSoTurned 9 = .ok (.istore 5, 2) := by decide +kernel
theorem dX6_isSoTurned_11 : decode cX6_isSoTurned 11 = .ok (.iload 5, 2) := by decide +kernel
theorem dX6_isSoTurned_13 : decode cX6_isSoTurned 13 = .ok (.iload 4, 2) := by decide +kernel
theorem dX6_isSoTurned_15 : decode cX6_isSoTurned 15 = .ok (.if_icmp .ge 43, 3) := by decide +kernel
theorem dX6_isSoTurned_18 : decode cX6_isSoTurned 18 = .ok (.aload_n 0, 1) := by decide +kernel
theorem dX6_isSoTurned_19 : decode cX6_isSoTurned 19 = .ok (.getfield 19, 3) := by decide +kernel
theorem dX6_isSoTurned_22 : decode cX6_isSoTurned 22 = .ok (.bipush 16, 2) := by decide +kernel
theorem dX6_isSoTurned_24 : decode cX6_isSoTurned 24 = .ok (.iload_n 1, 1) := by decide +kernel
theorem dX6_isSoTurned_25 : decode cX6_isSoTurned 25 = .ok (.imul, 1) := by decide +kernel
theorem dX6_isSoTurned_26 : decode cX6_isSoTurned 26 = .ok (.iload 5, 2) := by decide +kernel
theorem dX6_isSoTurned_28 : decode cX6_isSoTurned 28 = .ok (.iadd, 1) := by decide +kernel
theorem dX6_isSoTurned_29 : decode cX6_isSoTurned 29 = .ok (.iaload, 1) := by decide +kernel
theorem dX6_isSoTurned_30 : decode cX6_isSoTurned 30 = .ok (.aload_n 0, 1) := by decide +kernel
theorem dX6_isSoTurned_31 : decode cX6_isSoTurned 31 = .ok (.getfield 19, 3) := by decide +kernel
theorem dX6_isSoTurned_34 : decode cX6_isSoTurned 34 = .ok (.bipush 16, 2) := by decide +kernel
theorem dX6_isSoTurned_36 : decode cX6_isSoTurned 36 = .ok (.iload_n 2, 1) := by decide +kernel
theorem dX6_isSoTurned_37 : decode cX6_isSoTurned 37 = .ok (.imul, 1) := by decide +kernel
theorem dX6_isSoTurned_38 : decode cX6_isSoTurned 38 = .ok (.iload 5, 2) := by decide +kernel
theorem dX6_isSoTurned_40 : decode cX6_isSoTurned 40 = .ok (.iload_n 3, 1) := by decide +kernel
theorem dX6_isSoTurned_41 : decode cX6_isSoTurned 41 = .ok (.iadd, 1) := by decide +kernel
theorem dX6_isSoTurned_42 : decode cX6_isSoTurned 42 = .ok (.iload 4, 2) := by decide +kernel
theorem dX6_isSoTurned_44 : decode cX6_isSoTurned 44 = .ok (.irem, 1) := by decide +kernel
theorem dX6_isSoTurned_45 : decode cX6_isSoTurned 45 = .ok (.iadd, 1) := by decide +kernel
theorem dX6_isSoTurned_46 : decode cX6_isSoTurned 46 = .ok (.iaload, 1) := by decide +kernel
theorem dX6_isSoTurned_47 : decode cX6_isSoTurned 47 = .ok (.if_icmp .eq 5, 3) := by decide +kernel
theorem dX6_isSoTurned_50 : decode cX6_isSoTurned 50 = .ok (.iconst 0, 1) := by decide +kernel
theorem dX6_isSoTurned_51 : decode cX6_isSoTurned 51 = .ok (.ireturn, 1) := by decide +kernel
theorem dX6_isSoTurned_52 : decode cX6_isSoTurned 52 = .ok (.iinc 5 1, 3) := by decide +kernel
theorem dX6_isSoTurned_55 : decode cX6_isSoTurned 55 = .ok (.goto (-44), 3) := by decide +kernel
theorem dX6_isSoTurned_58 : decode cX6_isSoTurned 58 = .ok (.iconst 1, 1) := by decide +kernel
theorem dX6_isSoTurned_59 : decode cX6_isSoTurned 59 = .ok (.ireturn, 1) := by decide +kernel
theorem dX6_turnedBy_0 : decode cX6_turnedBy 0 = .ok (.aload_n 0, 1) := by decide +kernel
theorem dX6_turnedBy_1 : decode cX6_turnedBy 1 = .ok (.getfield 22, 3) := by decide +kernel
theorem dX6_turnedBy_4 : decode cX6_turnedBy 4 = .ok (.iload_n 1, 1) := by decide +kernel
theorem dX6_turnedBy_5 : decode cX6_turnedBy 5 = .ok (.iaload, 1) := by decide +kernel
theorem dX6_turnedBy_6 : decode cX6_turnedBy 6 = .ok (.aload_n 0, 1) := by decide +kernel
theorem dX6_turnedBy_7 : decode cX6_turnedBy 7 = .ok (.getfield 22, 3) := by decide +kernel
theorem dX6_turnedBy_10 : decode cX6_turnedBy 10 = .ok (.iload_n 2, 1) := by decide +kernel
theorem dX6_turnedBy_11 : decode cX6_turnedBy 11 = .ok (.iaload, 1) := by decide +kernel
theorem dX6_turnedBy_12 : decode cX6_turnedBy 12 = .ok (.if_icmp .eq 5, 3) := by decide +kernel
theorem dX6_turnedBy_15 : decode cX6_turnedBy 15 = .ok (.iconst (-1), 1) := by decide +kernel
theorem dX6_turnedBy_16 : decode cX6_turnedBy 16 = .ok (.ireturn, 1) := by decide +kernel
theorem dX6_turnedBy_17 : decode cX6_turnedBy 17 = .ok (.iconst 0, 1) := by decide +kernel
theorem dX6_turnedBy_18 : decode cX6_turnedBy 18 = .ok (.istore_n 3, 1) := by decide +kernel
theorem dX6_turnedBy_19 : decode cX6_turnedBy 19 = .ok (.iload_n 3, 1) := by decide +kernel
theorem dX6_turnedBy_20 : decode cX6_turnedBy 20 = .ok (.aload_n 0, 1) := by decide +kernel
theorem dX6_turnedBy_21 : decode cX6_turnedBy 21 = .ok (.getfield 22, 3) := by decide +kernel
theorem dX6_turnedBy_24 : decode cX6_turnedBy 24 = .ok (.iload_n 1, 1) := by decide +kernel
theorem dX6_turnedBy_25 : decode cX6_turnedBy 25 = .ok (.iaload, 1) := by decide +kernel
theorem dX6_turnedBy_26 : decode cX6_turnedBy 26 = .ok (.if_icmp .ge 21, 3) := by decide +kernel
theorem dX6_turnedBy_29 : decode cX6_turnedBy 29 = .ok (.aload_n 0, 1) := by decide +kernel
theorem dX6_turnedBy_30 : decode cX6_turnedBy 30 = .ok (.iload_n 1, 1) := by decide +kernel
theorem dX6_turnedBy_31 : decode cX6_turnedBy 31 = .ok (.iload_n 2, 1) := by decide +kernel
theorem dX6_turnedBy_32 : decode cX6_turnedBy 32 = .ok (.iload_n 3, 1) := by decide +kernel
theorem dX6_turnedBy_33 : decode cX6_turnedBy 33 = .ok (.invokevirtual 233, 3) := by decide +kernel
theorem dX6_turnedBy_36 : decode cX6_turnedBy 36 = .ok (.ifCond .eq 5, 3) := by decide +kernel
theorem dX6_turnedBy_39 : decode cX6_turnedBy 39 = .ok (.iload_n 3, 1) := by decide +kernel
theorem dX6_turnedBy_40 : decode cX6_turnedBy 40 = .ok (.ireturn, 1) := by decide +kernel
theorem dX6_turnedBy_41 : decode cX6_turnedBy 41 = .ok (.iinc 3 1, 3) := by decide +kernel
theorem dX6_turnedBy_44 : decode cX6_turnedBy 44 = .ok (.goto (-25), 3) := by decide +kernel
theorem dX6_turnedBy_47 : decode cX6_turnedBy 47 = .ok (.iconst (-1), 1) := by decide +kernel
theorem dX6_turnedBy_48 : decode cX6_turnedBy 48 = .ok (.ireturn, 1) := by decide +kernel
theorem dX6_alike_0 : decode cX6_alike 0 = .ok (.aload_n 0, 1) := by decide +kernel
theorem dX6_alike_1 : decode cX6_alike 1 = .ok (.iload_n 1, 1) := by decide +kernel
theorem dX6_alike_2 : decode cX6_alike 2 = .ok (.invokevirtual 181, 3) := by decide +kernel
theorem dX6_alike_5 : decode cX6_alike 5 = .ok (.ifCond .eq 11, 3) := by decide +kernel
theorem dX6_alike_8 : decode cX6_alike 8 = .ok (.aload_n 0, 1) := by decide +kernel
theorem dX6_alike_9 : decode cX6_alike 9 = .ok (.iload_n 2, 1) := by decide +kernel
theorem dX6_alike_10 : decode cX6_alike 10 = .ok (.invokevirtual 181, 3) := by decide +kernel
theorem dX6_alike_13 : decode cX6_alike 13 = .ok (.ifCond .ne 6, 3) := by decide +kernel
theorem dX6_alike_16 : decode cX6_alike 16 = .ok (.bipush (-5), 2) := by decide +kernel
theorem dX6_alike_18 : decode cX6_alike 18 = .ok (.ireturn, 1) := by decide +kernel
theorem dX6_alike_19 : decode cX6_alike 19 = .ok (.iload_n 3, 1) := by decide +kernel
theorem dX6_alike_20 : decode cX6_alike 20 = .ok (.iconst 0, 1) := by decide +kernel
theorem dX6_alike_21 : decode cX6_alike 21 = .ok (.iconst 1, 1) := by decide +kernel
theorem dX6_alike_22 : decode cX6_alike 22 = .ok (.invokestatic 79, 3) := by decide +kernel
theorem dX6_alike_25 : decode cX6_alike 25 = .ok (.ifCond .ne 6, 3) := by decide +kernel
theorem dX6_alike_28 : decode cX6_alike 28 = .ok (.bipush (-7), 2) := by decide +kernel
theorem dX6_alike_30 : decode cX6_alike 30 = .ok (.ireturn, 1) := by decide +kernel
theorem dX6_alike_31 : decode cX6_alike 31 = .ok (.iload_n 3, 1) := by decide +kernel
theorem dX6_alike_32 : decode cX6_alike 32 = .ok (.ifCond .ne 12, 3) := by decide +kernel
theorem dX6_alike_35 : decode cX6_alike 35 = .ok (.aload_n 0, 1) := by decide +kernel
theorem dX6_alike_36 : decode cX6_alike 36 = .ok (.iload_n 1, 1) := by decide +kernel
theorem dX6_alike_37 : decode cX6_alike 37 = .ok (.iload_n 2, 1) := by decide +kernel
theorem dX6_alike_38 : decode cX6_alike 38 = .ok (.invokevirtual 236, 3) := by decide +kernel
theorem dX6_alike_41 : decode cX6_alike 41 = .ok (.goto 9, 3) := by decide +kernel
theorem dX6_alike_44 : decode cX6_alike 44 = .ok (.aload_n 0, 1) := by decide +kernel
theorem dX6_alike_45 : decode cX6_alike 45 = .ok (.iload_n 1, 1) := by decide +kernel
theorem dX6_alike_46 : decode cX6_alike 46 = .ok (.iload_n 2, 1) := by decide +kernel
theorem dX6_alike_47 : decode cX6_alike 47 = .ok (.invokevirtual 239, 3) := by decide +kernel
theorem dX6_alike_50 : decode cX6_alike 50 = .ok (.ireturn, 1) := by decide +kernel
theorem dX6_farOf_0 : decode cX6_farOf 0 = .ok (.iload_n 0, 1) := by decide +kernel
theorem dX6_farOf_1 : decode cX6_farOf 1 = .ok (.bipush 8, 2) := by decide +kernel
theorem dX6_farOf_3 : decode cX6_farOf 3 = .ok (.irem, 1) := by decide +kernel
theorem dX6_farOf_4 : decode cX6_farOf 4 = .ok (.iload_n 1, 1) := by decide +kernel
theorem dX6_farOf_5 : decode cX6_farOf 5 = .ok (.bipush 8, 2) := by decide +kernel
theorem dX6_farOf_7 : decode cX6_farOf 7 = .ok (.irem, 1) := by decide +kernel
theorem dX6_farOf_8 : decode cX6_farOf 8 = .ok (.isub, 1) := by decide +kernel
theorem dX6_farOf_9 : decode cX6_farOf 9 = .ok (.istore_n 2, 1) := by decide +kernel
theorem dX6_farOf_10 : decode cX6_farOf 10 = .ok (.iload_n 0, 1) := by decide +kernel
theorem dX6_farOf_11 : decode cX6_farOf 11 = .ok (.bipush 8, 2) := by decide +kernel
theorem dX6_farOf_13 : decode cX6_farOf 13 = .ok (.idiv, 1) := by decide +kernel
theorem dX6_farOf_14 : decode cX6_farOf 14 = .ok (.iload_n 1, 1) := by decide +kernel
theorem dX6_farOf_15 : decode cX6_farOf 15 = .ok (.bipush 8, 2) := by decide +kernel
theorem dX6_farOf_17 : decode cX6_farOf 17 = .ok (.idiv, 1) := by decide +kernel
theorem dX6_farOf_18 : decode cX6_farOf 18 = .ok (.isub, 1) := by decide +kernel
theorem dX6_farOf_19 : decode cX6_farOf 19 = .ok (.istore_n 3, 1) := by decide +kernel
theorem dX6_farOf_20 : decode cX6_farOf 20 = .ok (.iload_n 2, 1) := by decide +kernel
theorem dX6_farOf_21 : decode cX6_farOf 21 = .ok (.ifCond .ge 8, 3) := by decide +kernel
theorem dX6_farOf_24 : decode cX6_farOf 24 = .ok (.iload_n 2, 1) := by decide +kernel
theorem dX6_farOf_25 : decode cX6_farOf 25 = .ok (.ineg, 1) := by decide +kernel
theorem dX6_farOf_26 : decode cX6_farOf 26 = .ok (.goto 4, 3) := by decide +kernel
theorem dX6_farOf_29 : decode cX6_farOf 29 = .ok (.iload_n 2, 1) := by decide +kernel
theorem dX6_farOf_30 : decode cX6_farOf 30 = .ok (.iload_n 3, 1) := by decide +kernel
theorem dX6_farOf_31 : decode cX6_farOf 31 = .ok (.ifCond .ge 8, 3) := by decide +kernel
theorem dX6_farOf_34 : decode cX6_farOf 34 = .ok (.iload_n 3, 1) := by decide +kernel
theorem dX6_farOf_35 : decode cX6_farOf 35 = .ok (.ineg, 1) := by decide +kernel
theorem dX6_farOf_36 : decode cX6_farOf 36 = .ok (.goto 4, 3) := by decide +kernel
theorem dX6_farOf_39 : decode cX6_farOf 39 = .ok (.iload_n 3, 1) := by decide +kernel
theorem dX6_farOf_40 : decode cX6_farOf 40 = .ok (.iadd, 1) := by decide +kernel
theorem dX6_farOf_41 : decode cX6_farOf 41 = .ok (.ireturn, 1) := by decide +kernel
theorem dX6_farBehind_0 : decode cX6_farBehind 0 = .ok (.aload_n 0, 1) := by decide +kernel
theorem dX6_farBehind_1 : decode cX6_farBehind 1 = .ok (.invokevirtual 215, 3) := by decide +kernel
theorem dX6_farBehind_4 : decode cX6_farBehind 4 = .ok (.aload_n 0, 1) := by decide +kernel
theorem dX6_farBehind_5 : decode cX6_farBehind 5 = .ok (.iload_n 3, 1) := by decide +kernel
theorem dX6_farBehind_6 : decode cX6_farBehind 6 = .ok (.invokevirtual 218, 3) := by decide +kernel
theorem dX6_farBehind_9 : decode cX6_farBehind 9 = .ok (.aload_n 0, 1) := by decide +kernel
theorem dX6_farBehind_10 : decode cX6_farBehind 10 = .ok (.getfield 16, 3) := by decide +kernel
theorem dX6_farBehind_13 : decode cX6_farBehind 13 = .ok (.iconst 5, 1) := by decide +kernel
theorem dX6_farBehind_14 : decode cX6_farBehind 14 = .ok (.iload_n 1, 1) := by decide +kernel
theorem dX6_farBehind_15 : decode cX6_farBehind 15 = .ok (.imul, 1) := by decide +kernel
theorem dX6_farBehind_16 : decode cX6_farBehind 16 = .ok (.iaload, 1) := by decide +kernel
theorem dX6_farBehind_17 : decode cX6_farBehind 17 = .ok (.iload_n 2, 1) := by decide +kernel
theorem dX6_farBehind_18 : decode cX6_farBehind 18 = .ok (.invokestatic 242, 3) := by decide +kernel
theorem dX6_farBehind_21 : decode cX6_farBehind 21 = .ok (.istore 4, 2) := by decide +kernel
theorem dX6_farBehind_23 : decode cX6_farBehind 23 = .ok (.aload_n 0, 1) := by decide +kernel
theorem dX6_farBehind_24 : decode cX6_farBehind 24 = .ok (.invokevirtual 224, 3) := by decide +kernel
theorem dX6_farBehind_27 : decode cX6_farBehind 27 = .ok (.iload 4, 2) := by decide +kernel
theorem dX6_farBehind_29 : decode cX6_farBehind 29 = .ok (.ireturn, 1) := by decide +kernel
theorem dX6_anew_0 : decode cX6_anew 0 = .ok (.aload_n 0, 1) := by decide +kernel
theorem dX6_anew_1 : decode cX6_anew 1 = .ok (.iload_n 1, 1) := by decide +kernel
theorem dX6_anew_2 : decode cX6_anew 2 = .ok (.invokevirtual 181, 3) := by decide +kernel
theorem dX6_anew_5 : decode cX6_anew 5 = .ok (.ifCond .ne 6, 3) := by decide +kernel
theorem dX6_anew_8 : decode cX6_anew 8 = .ok (.bipush (-5), 2) := by decide +kernel
theorem dX6_anew_10 : decode cX6_anew 10 = .ok (.ireturn, 1) := by decide +kernel
theorem dX6_anew_11 : decode cX6_anew 11 = .ok (.iload_n 2, 1) := by decide +kernel
theorem dX6_anew_12 : decode cX6_anew 12 = .ok (.invokestatic 103, 3) := by decide +kernel
theorem dX6_anew_15 : decode cX6_anew 15 = .ok (.ifCond .eq 23, 3) := by decide +kernel
theorem dX6_anew_18 : decode cX6_anew 18 = .ok (.iload_n 3, 1) := by decide +kernel
theorem dX6_anew_19 : decode cX6_anew 19 = .ok (.iconst 0, 1) := by decide +kernel
theorem dX6_anew_20 : decode cX6_anew 20 = .ok (.bipush 20, 2) := by decide +kernel
theorem dX6_anew_22 : decode cX6_anew 22 = .ok (.invokestatic 79, 3) := by decide +kernel
theorem dX6_anew_25 : decode cX6_anew 25 = .ok (.ifCond .eq 13, 3) := by decide +kernel
theorem dX6_anew_28 : decode cX6_anew 28 = .ok (.iload 4, 2) := by decide +kernel
theorem dX6_anew_30 : decode cX6_anew 30 = .ok (.iconst 0, 1) := by decide +kernel
theorem dX6_anew_31 : decode cX6_anew 31 = .ok (.iconst 1, 1) := by decide +kernel
theorem dX6_anew_32 : decode cX6_anew 32 = .ok (.invokestatic 79, 3) := by decide +kernel
theorem dX6_anew_35 : decode cX6_anew 35 = .ok (.ifCond .ne 6, 3) := by decide +kernel
theorem dX6_anew_38 : decode cX6_anew 38 = .ok (.bipush (-7), 2) := by decide +kernel
theorem dX6_anew_40 : decode cX6_anew 40 = .ok (.ireturn, 1) := by decide +kernel
theorem dX6_anew_41 : decode cX6_anew 41 = .ok (.iconst (-1), 1) := by decide +kernel
theorem dX6_anew_42 : decode cX6_anew 42 = .ok (.istore 5, 2) := by decide +kernel
theorem dX6_anew_44 : decode cX6_anew 44 = .ok (.aload_n 0, 1) := by decide +kernel
theorem dX6_anew_45 : decode cX6_anew 45 = .ok (.iload_n 1, 1) := by decide +kernel
theorem dX6_anew_46 : decode cX6_anew 46 = .ok (.iload_n 2, 1) := by decide +kernel
theorem dX6_anew_47 : decode cX6_anew 47 = .ok (.iload_n 3, 1) := by decide +kernel
theorem dX6_anew_48 : decode cX6_anew 48 = .ok (.invokevirtual 245, 3) := by decide +kernel
theorem dX6_anew_51 : decode cX6_anew 51 = .ok (.istore 6, 2) := by decide +kernel
theorem dX6_anew_53 : decode cX6_anew 53 = .ok (.iconst 0, 1) := by decide +kernel
theorem dX6_anew_54 : decode cX6_anew 54 = .ok (.istore 7, 2) := by decide +kernel
theorem dX6_anew_56 : decode cX6_anew 56 = .ok (.iload 7, 2) := by decide +kernel
theorem dX6_anew_58 : decode cX6_anew 58 = .ok (.aload_n 0, 1) := by decide +kernel
theorem dX6_anew_59 : decode cX6_anew 59 = .ok (.getfield 22, 3) := by decide +kernel
theorem dX6_anew_62 : decode cX6_anew 62 = .ok (.iload_n 1, 1) := by decide +kernel
theorem dX6_anew_63 : decode cX6_anew 63 = .ok (.iaload, 1) := by decide +kernel
theorem dX6_anew_64 : decode cX6_anew 64 = .ok (.if_icmp .ge 113, 3) := by decide +kernel
theorem dX6_anew_67 : decode cX6_anew 67 = .ok (.aload_n 0, 1) := by decide +kernel
theorem dX6_anew_68 : decode cX6_anew 68 = .ok (.getfield 19, 3) := by decide +kernel
theorem dX6_anew_71 : decode cX6_anew 71 = .ok (.bipush 16, 2) := by decide +kernel
theorem dX6_anew_73 : decode cX6_anew 73 = .ok (.iload_n 1, 1) := by decide +kernel
theorem dX6_anew_74 : decode cX6_anew 74 = .ok (.imul, 1) := by decide +kernel
theorem dX6_anew_75 : decode cX6_anew 75 = .ok (.iload 7, 2) := by decide +kernel
theorem dX6_anew_77 : decode cX6_anew 77 = .ok (.iadd, 1) := by decide +kernel
theorem dX6_anew_78 : decode cX6_anew 78 = .ok (.iaload, 1) := by decide +kernel
theorem dX6_anew_79 : decode cX6_anew 79 = .ok (.istore 8, 2) := by decide +kernel
theorem dX6_anew_81 : decode cX6_anew 81 = .ok (.iconst 0, 1) := by decide +kernel
theorem dX6_anew_82 : decode cX6_anew 82 = .ok (.istore 9, 2) := by decide +kernel
theorem dX6_anew_84 : decode cX6_anew 84 = .ok (.iload 9, 2) := by decide +kernel
theorem dX6_anew_86 : decode cX6_anew 86 = .ok (.iconst 5, 1) := by decide +kernel
theorem dX6_anew_87 : decode cX6_anew 87 = .ok (.if_icmp .ge 70, 3) := by decide +kernel
theorem dX6_anew_90 : decode cX6_anew 90 = .ok (.aload_n 0, 1) := by decide +kernel
theorem dX6_anew_91 : decode cX6_anew 91 = .ok (.getfield 19, 3) := by decide +kernel
theorem dX6_anew_94 : decode cX6_anew 94 = .ok (.bipush 16, 2) := by decide +kernel
theorem dX6_anew_96 : decode cX6_anew 96 = .ok (.iload_n 1, 1) := by decide +kernel
theorem dX6_anew_97 : decode cX6_anew 97 = .ok (.imul, 1) := by decide +kernel
theorem dX6_anew_98 : decode cX6_anew 98 = .ok (.iload 7, 2) := by decide +kernel
theorem dX6_anew_100 : decode cX6_anew 100 = .ok (.iadd, 1) := by decide +kernel
theorem dX6_anew_101 : decode cX6_anew 101 = .ok (.iload 9, 2) := by decide +kernel
theorem dX6_anew_103 : decode cX6_anew 103 = .ok (.iastore, 1) := by decide +kernel
theorem dX6_anew_104 : decode cX6_anew 104 = .ok (.aload_n 0, 1) := by decide +kernel
theorem dX6_anew_105 : decode cX6_anew 105 = .ok (.iload_n 1, 1) := by decide +kernel
theorem dX6_anew_106 : decode cX6_anew 106 = .ok (.iload_n 2, 1) := by decide +kernel
theorem dX6_anew_107 : decode cX6_anew 107 = .ok (.iload_n 3, 1) := by decide +kernel
theorem dX6_anew_108 : decode cX6_anew 108 = .ok (.invokevirtual 245, 3) := by decide +kernel
theorem dX6_anew_111 : decode cX6_anew 111 = .ok (.istore 10, 2) := by decide +kernel
theorem dX6_anew_113 : decode cX6_anew 113 = .ok (.iload 10, 2) := by decide +kernel
theorem dX6_anew_115 : decode cX6_anew 115 = .ok (.iload 6, 2) := by decide +kernel
theorem dX6_anew_117 : decode cX6_anew 117 = .ok (.if_icmp .ge 14, 3) := by decide +kernel
theorem dX6_anew_120 : decode cX6_anew 120 = .ok (.bipush 10, 2) := by decide +kernel
theorem dX6_anew_122 : decode cX6_anew 122 = .ok (.iload 7, 2) := by decide +kernel
theorem dX6_anew_124 : decode cX6_anew 124 = .ok (.imul, 1) := by decide +kernel
theorem dX6_anew_125 : decode cX6_anew 125 = .ok (.iload 9, 2) := by decide +kernel
theorem dX6_anew_127 : decode cX6_anew 127 = .ok (.iadd, 1) := by decide +kernel
theorem dX6_anew_128 : decode cX6_anew 128 = .ok (.goto 5, 3) := by decide +kernel
theorem dX6_anew_131 : decode cX6_anew 131 = .ok (.iload 5, 2) := by decide +kernel
theorem dX6_anew_133 : decode cX6_anew 133 = .ok (.istore 5, 2) := by decide +kernel
theorem dX6_anew_135 : decode cX6_anew 135 = .ok (.iload 10, 2) := by decide +kernel
theorem dX6_anew_137 : decode cX6_anew 137 = .ok (.iload 6, 2) := by decide +kernel
theorem dX6_anew_139 : decode cX6_anew 139 = .ok (.if_icmp .ge 8, 3) := by decide +kernel
theorem dX6_anew_142 : decode cX6_anew 142 = .ok (.iload 10, 2) := by decide +kernel
theorem dX6_anew_144 : decode cX6_anew 144 = .ok (.goto 5, 3) := by decide +kernel
theorem dX6_anew_147 : decode cX6_anew 147 = .ok (.iload 6, 2) := by decide +kernel
theorem dX6_anew_149 : decode cX6_anew 149 = .ok (.istore 6, 2) := by decide +kernel
theorem dX6_anew_151 : decode cX6_anew 151 = .ok (.iinc 9 1, 3) := by decide +kernel
theorem dX6_anew_154 : decode cX6_anew 154 = .ok (.goto (-70), 3) := by decide +kernel
theorem dX6_anew_157 : decode cX6_anew 157 = .ok (.aload_n 0, 1) := by decide +kernel
theorem dX6_anew_158 : decode cX6_anew 158 = .ok (.getfield 19, 3) := by decide +kernel
theorem dX6_anew_161 : decode cX6_anew 161 = .ok (.bipush 16, 2) := by decide +kernel
theorem dX6_anew_163 : decode cX6_anew 163 = .ok (.iload_n 1, 1) := by decide +kernel
theorem dX6_anew_164 : decode cX6_anew 164 = .ok (.imul, 1) := by decide +kernel
theorem dX6_anew_165 : decode cX6_anew 165 = .ok (.iload 7, 2) := by decide +kernel
theorem dX6_anew_167 : decode cX6_anew 167 = .ok (.iadd, 1) := by decide +kernel
theorem dX6_anew_168 : decode cX6_anew 168 = .ok (.iload 8, 2) := by decide +kernel
theorem dX6_anew_170 : decode cX6_anew 170 = .ok (.iastore, 1) := by decide +kernel
theorem dX6_anew_171 : decode cX6_anew 171 = .ok (.iinc 7 1, 3) := by decide +kernel
theorem dX6_anew_174 : decode cX6_anew 174 = .ok (.goto (-118), 3) := by decide +kernel
theorem dX6_anew_177 : decode cX6_anew 177 = .ok (.iload 4, 2) := by decide +kernel
theorem dX6_anew_179 : decode cX6_anew 179 = .ok (.ifCond .ne 8, 3) := by decide +kernel
theorem dX6_anew_182 : decode cX6_anew 182 = .ok (.iload 5, 2) := by decide +kernel
theorem dX6_anew_184 : decode cX6_anew 184 = .ok (.goto 5, 3) := by decide +kernel
theorem dX6_anew_187 : decode cX6_anew 187 = .ok (.iload 6, 2) := by decide +kernel
theorem dX6_anew_189 : decode cX6_anew 189 = .ok (.ireturn, 1) := by decide +kernel
theorem dX6_milesBehind_0 : decode cX6_milesBehind 0 = .ok (.aload_n 0, 1) := by decide +kernel
theorem dX6_milesBehind_1 : decode cX6_milesBehind 1 = .ok (.invokevirtual 215, 3) := by decide +kernel
theorem dX6_milesBehind_4 : decode cX6_milesBehind 4 = .ok (.aload_n 0, 1) := by decide +kernel
theorem dX6_milesBehind_5 : decode cX6_milesBehind 5 = .ok (.iload_n 1, 1) := by decide +kernel
theorem dX6_milesBehind_6 : decode cX6_milesBehind 6 = .ok (.invokevirtual 218, 3) := by decide +kernel
theorem dX6_milesBehind_9 : decode cX6_milesBehind 9 = .ok (.aload_n 0, 1) := by decide +kernel
theorem dX6_milesBehind_10 : decode cX6_milesBehind 10 = .ok (.invokevirtual 224, 3) := by decide +kernel
theorem dX6_milesBehind_13 : decode cX6_milesBehind 13 = .ok (.aload_n 0, 1) := by decide +kernel
theorem dX6_milesBehind_14 : decode cX6_milesBehind 14 = .ok (.getfield 199, 3) := by decide +kernel
theorem dX6_milesBehind_17 : decode cX6_milesBehind 17 = .ok (.ireturn, 1) := by decide +kernel
theorem dX6_drain_0 : decode cX6_drain 0 = .ok (.iload_n 1, 1) := by decide +kernel
theorem dX6_drain_1 : decode cX6_drain 1 = .ok (.iconst 0, 1) := by decide +kernel
theorem dX6_drain_2 : decode cX6_drain 2 = .ok (.bipush 20, 2) := by decide +kernel
theorem dX6_drain_4 : decode cX6_drain 4 = .ok (.invokestatic 79, 3) := by decide +kernel
theorem dX6_drain_7 : decode cX6_drain 7 = .ok (.ifCond .eq 12, 3) := by decide +kernel
theorem dX6_drain_10 : decode cX6_drain 10 = .ok (.iload_n 2, 1) := by decide +kernel
theorem dX6_drain_11 : decode cX6_drain 11 = .ok (.iconst 0, 1) := by decide +kernel
theorem dX6_drain_12 : decode cX6_drain 12 = .ok (.iconst 1, 1) := by decide +kernel
theorem dX6_drain_13 : decode cX6_drain 13 = .ok (.invokestatic 79, 3) := by decide +kernel
theorem dX6_drain_16 : decode cX6_drain 16 = .ok (.ifCond .ne 6, 3) := by decide +kernel
theorem dX6_drain_19 : decode cX6_drain 19 = .ok (.bipush (-2), 2) := by decide +kernel
theorem dX6_drain_21 : decode cX6_drain 21 = .ok (.ireturn, 1) := by decide +kernel
theorem dX6_drain_22 : decode cX6_drain 22 = .ok (.aload_n 0, 1) := by decide +kernel
theorem dX6_drain_23 : decode cX6_drain 23 = .ok (.getfield 86, 3) := by decide +kernel
theorem dX6_drain_26 : decode cX6_drain 26 = .ok (.lstore_n 3, 1) := by decide +kernel
theorem dX6_drain_27 : decode cX6_drain 27 = .ok (.iconst (-1), 1) := by decide +kernel
theorem dX6_drain_28 : decode cX6_drain 28 = .ok (.istore 5, 2) := by decide +kernel
theorem dX6_drain_30 : decode cX6_drain 30 = .ok (.aload_n 0, 1) := by decide +kernel
theorem dX6_drain_31 : decode cX6_drain 31 = .ok (.iload_n 1, 1) := by decide +kernel
theorem dX6_drain_32 : decode cX6_drain 32 = .ok (.invokevirtual 248, 3) := by decide +kernel
theorem dX6_drain_35 : decode cX6_drain 35 = .ok (.istore 6, 2) := by decide +kernel
theorem dX6_drain_37 : decode cX6_drain 37 = .ok (.iconst 0, 1) := by decide +kernel
theorem dX6_drain_38 : decode cX6_drain 38 = .ok (.istore 7, 2) := by decide +kernel
theorem dX6_drain_40 : decode cX6_drain 40 = .ok (.iload 7, 2) := by decide +kernel
theorem dX6_drain_42 : decode cX6_drain 42 = .ok (.bipush 64, 2) := by decide +kernel
theorem dX6_drain_44 : decode cX6_drain 44 = .ok (.if_icmp .ge 73, 3) := by decide +kernel
theorem dX6_drain_47 : decode cX6_drain 47 = .ok (.lload_n 3, 1) := by decide +kernel
theorem dX6_drain_48 : decode cX6_drain 48 = .ok (.iload 7, 2) := by decide +kernel
theorem dX6_drain_50 : decode cX6_drain 50 = .ok (.lshr, 1) := by decide +kernel
theorem dX6_drain_51 : decode cX6_drain 51 = .ok (.lconst 1, 1) := by decide +kernel
theorem dX6_drain_52 : decode cX6_drain 52 = .ok (.land, 1) := by decide +kernel
theorem dX6_drain_53 : decode cX6_drain 53 = .ok (.lconst 1, 1) := by decide +kernel
theorem dX6_drain_54 : decode cX6_drain 54 = .ok (.lcmp, 1) := by decide +kernel
theorem dX6_drain_55 : decode cX6_drain 55 = .ok (.ifCond .ne 56, 3) := by decide +kernel
theorem dX6_drain_58 : decode cX6_drain 58 = .ok (.aload_n 0, 1) := by decide +kernel
theorem dX6_drain_59 : decode cX6_drain 59 = .ok (.lload_n 3, 1) := by decide +kernel
theorem dX6_drain_60 : decode cX6_drain 60 = .ok (.lconst 1, 1) := by decide +kernel
theorem dX6_drain_61 : decode cX6_drain 61 = .ok (.iload 7, 2) := by decide +kernel
theorem dX6_drain_63 : decode cX6_drain 63 = .ok (.lshl, 1) := by decide +kernel
theorem dX6_drain_64 : decode cX6_drain 64 = .ok (.ldc2_w 110, 3) := by decide +kernel
theorem dX6_drain_67 : decode cX6_drain 67 = .ok (.lxor, 1) := by decide +kernel
theorem dX6_drain_68 : decode cX6_drain 68 = .ok (.land, 1) := by decide +kernel
theorem dX6_drain_69 : decode cX6_drain 69 = .ok (.putfield 86, 3) := by decide +kernel
theorem dX6_drain_72 : decode cX6_drain 72 = .ok (.aload_n 0, 1) := by decide +kernel
theorem dX6_drain_73 : decode cX6_drain 73 = .ok (.iload_n 1, 1) := by decide +kernel
theorem dX6_drain_74 : decode cX6_drain 74 = .ok (.invokevirtual 248, 3) := by decide +kernel
theorem dX6_drain_77 : decode cX6_drain 77 = .ok (.istore 8, 2) := by decide +kernel
theorem dX6_drain_79 : decode cX6_drain 79 = .ok (.iload 8, 2) := by decide +kernel
theorem dX6_drain_81 : decode cX6_drain 81 = .ok (.iload 6, 2) := by decide +kernel
theorem dX6_drain_83 : decode cX6_drain 83 = .ok (.if_icmp .le 8, 3) := by decide +kernel
theorem dX6_drain_86 : decode cX6_drain 86 = .ok (.iload 7, 2) := by decide +kernel
theorem dX6_drain_88 : decode cX6_drain 88 = .ok (.goto 5, 3) := by decide +kernel
theorem dX6_drain_91 : decode cX6_drain 91 = .ok (.iload 5, 2) := by decide +kernel
theorem dX6_drain_93 : decode cX6_drain 93 = .ok (.istore 5, 2) := by decide +kernel
theorem dX6_drain_95 : decode cX6_drain 95 = .ok (.iload 8, 2) := by decide +kernel
theorem dX6_drain_97 : decode cX6_drain 97 = .ok (.iload 6, 2) := by decide +kernel
theorem dX6_drain_99 : decode cX6_drain 99 = .ok (.if_icmp .le 8, 3) := by decide +kernel
theorem dX6_drain_102 : decode cX6_drain 102 = .ok (.iload 8, 2) := by decide +kernel
theorem dX6_drain_104 : decode cX6_drain 104 = .ok (.goto 5, 3) := by decide +kernel
theorem dX6_drain_107 : decode cX6_drain 107 = .ok (.iload 6, 2) := by decide +kernel
theorem dX6_drain_109 : decode cX6_drain 109 = .ok (.istore 6, 2) := by decide +kernel
theorem dX6_drain_111 : decode cX6_drain 111 = .ok (.iinc 7 1, 3) := by decide +kernel
theorem dX6_drain_114 : decode cX6_drain 114 = .ok (.goto (-74), 3) := by decide +kernel
theorem dX6_drain_117 : decode cX6_drain 117 = .ok (.aload_n 0, 1) := by decide +kernel
theorem dX6_drain_118 : decode cX6_drain 118 = .ok (.lload_n 3, 1) := by decide +kernel
theorem dX6_drain_119 : decode cX6_drain 119 = .ok (.putfield 86, 3) := by decide +kernel
theorem dX6_drain_122 : decode cX6_drain 122 = .ok (.iload_n 2, 1) := by decide +kernel
theorem dX6_drain_123 : decode cX6_drain 123 = .ok (.ifCond .ne 8, 3) := by decide +kernel
theorem dX6_drain_126 : decode cX6_drain 126 = .ok (.iload 5, 2) := by decide +kernel
theorem dX6_drain_128 : decode cX6_drain 128 = .ok (.goto 5, 3) := by decide +kernel
theorem dX6_drain_131 : decode cX6_drain 131 = .ok (.iload 6, 2) := by decide +kernel
theorem dX6_drain_133 : decode cX6_drain 133 = .ok (.ireturn, 1) := by decide +kernel
theorem dX6_turn_0 : decode cX6_turn 0 = .ok (.aload_n 0, 1) := by decide +kernel
theorem dX6_turn_1 : decode cX6_turn 1 = .ok (.iload_n 1, 1) := by decide +kernel
theorem dX6_turn_2 : decode cX6_turn 2 = .ok (.invokevirtual 181, 3) := by decide +kernel
theorem dX6_turn_5 : decode cX6_turn 5 = .ok (.ifCond .ne 6, 3) := by decide +kernel
theorem dX6_turn_8 : decode cX6_turn 8 = .ok (.bipush (-5), 2) := by decide +kernel
theorem dX6_turn_10 : decode cX6_turn 10 = .ok (.ireturn, 1) := by decide +kernel
theorem dX6_turn_11 : decode cX6_turn 11 = .ok (.iload_n 2, 1) := by decide +kernel
theorem dX6_turn_12 : decode cX6_turn 12 = .ok (.iconst 0, 1) := by decide +kernel
theorem dX6_turn_13 : decode cX6_turn 13 = .ok (.bipush 40, 2) := by decide +kernel
theorem dX6_turn_15 : decode cX6_turn 15 = .ok (.invokestatic 79, 3) := by decide +kernel
theorem dX6_turn_18 : decode cX6_turn 18 = .ok (.ifCond .eq 12, 3) := by decide +kernel
theorem dX6_turn_21 : decode cX6_turn 21 = .ok (.iload_n 3, 1) := by decide +kernel
theorem dX6_turn_22 : decode cX6_turn 22 = .ok (.iconst 0, 1) := by decide +kernel
theorem dX6_turn_23 : decode cX6_turn 23 = .ok (.iconst 1, 1) := by decide +kernel
theorem dX6_turn_24 : decode cX6_turn 24 = .ok (.invokestatic 79, 3) := by decide +kernel
theorem dX6_turn_27 : decode cX6_turn 27 = .ok (.ifCond .ne 6, 3) := by decide +kernel
theorem dX6_turn_30 : decode cX6_turn 30 = .ok (.bipush (-7), 2) := by decide +kernel
theorem dX6_turn_32 : decode cX6_turn 32 = .ok (.ireturn, 1) := by decide +kernel
theorem dX6_turn_33 : decode cX6_turn 33 = .ok (.iconst (-1), 1) := by decide +kernel
theorem dX6_turn_34 : decode cX6_turn 34 = .ok (.istore 4, 2) := by decide +kernel
theorem dX6_turn_36 : decode cX6_turn 36 = .ok (.iconst 0, 1) := by decide +kernel
theorem dX6_turn_37 : decode cX6_turn 37 = .ok (.istore 5, 2) := by decide +kernel
theorem dX6_turn_39 : decode cX6_turn 39 = .ok (.iconst 0, 1) := by decide +kernel
theorem dX6_turn_40 : decode cX6_turn 40 = .ok (.istore 6, 2) := by decide +kernel
theorem dX6_turn_42 : decode cX6_turn 42 = .ok (.iload 6, 2) := by decide +kernel
theorem dX6_turn_44 : decode cX6_turn 44 = .ok (.iconst 4, 1) := by decide +kernel
theorem dX6_turn_45 : decode cX6_turn 45 = .ok (.if_icmp .ge 94, 3) := by decide +kernel
theorem dX6_turn_48 : decode cX6_turn 48 = .ok (.aload_n 0, 1) := by decide +kernel
theorem dX6_turn_49 : decode cX6_turn 49 = .ok (.invokevirtual 215, 3) := by decide +kernel
theorem dX6_turn_52 : decode cX6_turn 52 = .ok (.aload_n 0, 1) := by decide +kernel
theorem dX6_turn_53 : decode cX6_turn 53 = .ok (.getfield 16, 3) := by decide +kernel
theorem dX6_turn_56 : decode cX6_turn 56 = .ok (.iconst 5, 1) := by decide +kernel
theorem dX6_turn_57 : decode cX6_turn 57 = .ok (.iload_n 1, 1) := by decide +kernel
theorem dX6_turn_58 : decode cX6_turn 58 = .ok (.imul, 1) := by decide +kernel
theorem dX6_turn_59 : decode cX6_turn 59 = .ok (.iconst 1, 1) := by decide +kernel
theorem dX6_turn_60 : decode cX6_turn 60 = .ok (.iadd, 1) := by decide +kernel
theorem dX6_turn_61 : decode cX6_turn 61 = .ok (.iload 6, 2) := by decide +kernel
theorem dX6_turn_63 : decode cX6_turn 63 = .ok (.iastore, 1) := by decide +kernel
theorem dX6_turn_64 : decode cX6_turn 64 = .ok (.aload_n 0, 1) := by decide +kernel
theorem dX6_turn_65 : decode cX6_turn 65 = .ok (.iload_n 2, 1) := by decide +kernel
theorem dX6_turn_66 : decode cX6_turn 66 = .ok (.invokevirtual 218, 3) := by decide +kernel
theorem dX6_turn_69 : decode cX6_turn 69 = .ok (.aload_n 0, 1) := by decide +kernel
theorem dX6_turn_70 : decode cX6_turn 70 = .ok (.getfield 16, 3) := by decide +kernel
theorem dX6_turn_73 : decode cX6_turn 73 = .ok (.iconst 5, 1) := by decide +kernel
theorem dX6_turn_74 : decode cX6_turn 74 = .ok (.iload_n 1, 1) := by decide +kernel
theorem dX6_turn_75 : decode cX6_turn 75 = .ok (.imul, 1) := by decide +kernel
theorem dX6_turn_76 : decode cX6_turn 76 = .ok (.iconst 3, 1) := by decide +kernel
theorem dX6_turn_77 : decode cX6_turn 77 = .ok (.iadd, 1) := by decide +kernel
theorem dX6_turn_78 : decode cX6_turn 78 = .ok (.iaload, 1) := by decide +kernel
theorem dX6_turn_79 : decode cX6_turn 79 = .ok (.istore 7, 2) := by decide +kernel
theorem dX6_turn_81 : decode cX6_turn 81 = .ok (.aload_n 0, 1) := by decide +kernel
theorem dX6_turn_82 : decode cX6_turn 82 = .ok (.invokevirtual 224, 3) := by decide +kernel
theorem dX6_turn_85 : decode cX6_turn 85 = .ok (.iload 4, 2) := by decide +kernel
theorem dX6_turn_87 : decode cX6_turn 87 = .ok (.iconst (-1), 1) := by decide +kernel
theorem dX6_turn_88 : decode cX6_turn 88 = .ok (.if_icmp .eq 10, 3) := by decide +kernel
theorem dX6_turn_91 : decode cX6_turn 91 = .ok (.iload 7, 2) := by decide +kernel
theorem dX6_turn_93 : decode cX6_turn 93 = .ok (.iload 5, 2) := by decide +kernel
theorem dX6_turn_95 : decode cX6_turn 95 = .ok (.if_icmp .ge 7, 3) := by decide +kernel
theorem dX6_turn_98 : decode cX6_turn 98 = .ok (.iconst 1, 1) := by decide +kernel
theorem dX6_turn_99 : decode cX6_turn 99 = .ok (.goto 4, 3) := by decide +kernel
theorem dX6_turn_102 : decode cX6_turn 102 = .ok (.iconst 0, 1) := by decide +kernel
theorem dX6_turn_103 : decode cX6_turn 103 = .ok (.istore 8, 2) := by decide +kernel
theorem dX6_turn_105 : decode cX6_turn 105 = .ok (.iload 8, 2) := by decide +kernel
theorem dX6_turn_107 : decode cX6_turn 107 = .ok (.ifCond .eq 8, 3) := by decide +kernel
theorem dX6_turn_110 : decode cX6_turn 110 = .ok (.iload 6, 2) := by decide +kernel
theorem dX6_turn_112 : decode cX6_turn 112 = .ok (.goto 5, 3) := by decide +kernel
theorem dX6_turn_115 : decode cX6_turn 115 = .ok (.iload 4, 2) := by decide +kernel
theorem dX6_turn_117 : decode cX6_turn 117 = .ok (.istore 4, 2) := by decide +kernel
theorem dX6_turn_119 : decode cX6_turn 119 = .ok (.iload 8, 2) := by decide +kernel
theorem dX6_turn_121 : decode cX6_turn 121 = .ok (.ifCond .eq 8, 3) := by decide +kernel
theorem dX6_turn_124 : decode cX6_turn 124 = .ok (.iload 7, 2) := by decide +kernel
theorem dX6_turn_126 : decode cX6_turn 126 = .ok (.goto 5, 3) := by decide +kernel
theorem dX6_turn_129 : decode cX6_turn 129 = .ok (.iload 5, 2) := by decide +kernel
theorem dX6_turn_131 : decode cX6_turn 131 = .ok (.istore 5, 2) := by decide +kernel
theorem dX6_turn_133 : decode cX6_turn 133 = .ok (.iinc 6 1, 3) := by decide +kernel
theorem dX6_turn_136 : decode cX6_turn 136 = .ok (.goto (-94), 3) := by decide +kernel
theorem dX6_turn_139 : decode cX6_turn 139 = .ok (.iload_n 3, 1) := by decide +kernel
theorem dX6_turn_140 : decode cX6_turn 140 = .ok (.ifCond .ne 8, 3) := by decide +kernel
theorem dX6_turn_143 : decode cX6_turn 143 = .ok (.iload 4, 2) := by decide +kernel
theorem dX6_turn_145 : decode cX6_turn 145 = .ok (.goto 5, 3) := by decide +kernel
theorem dX6_turn_148 : decode cX6_turn 148 = .ok (.iload 5, 2) := by decide +kernel
theorem dX6_turn_150 : decode cX6_turn 150 = .ok (.ireturn, 1) := by decide +kernel
theorem dX6_lowest_0 : decode cX6_lowest 0 = .ok (.lload_n 0, 1) := by decide +kernel
theorem dX6_lowest_1 : decode cX6_lowest 1 = .ok (.lconst 0, 1) := by decide +kernel
theorem dX6_lowest_2 : decode cX6_lowest 2 = .ok (.lcmp, 1) := by decide +kernel
theorem dX6_lowest_3 : decode cX6_lowest 3 = .ok (.ifCond .ne 7, 3) := by decide +kernel
theorem dX6_lowest_6 : decode cX6_lowest 6 = .ok (.iload 4, 2) := by decide +kernel
theorem dX6_lowest_8 : decode cX6_lowest 8 = .ok (.i2l, 1) := by decide +kernel
theorem dX6_lowest_9 : decode cX6_lowest 9 = .ok (.lreturn, 1) := by decide +kernel
theorem dX6_lowest_10 : decode cX6_lowest 10 = .ok (.lload_n 0, 1) := by decide +kernel
theorem dX6_lowest_11 : decode cX6_lowest 11 = .ok (.lstore 5, 2) := by decide +kernel
theorem dX6_lowest_13 : decode cX6_lowest 13 = .ok (.lload_n 2, 1) := by decide +kernel
theorem dX6_lowest_14 : decode cX6_lowest 14 = .ok (.lstore 7, 2) := by decide +kernel
theorem dX6_lowest_16 : decode cX6_lowest 16 = .ok (.lload 7, 2) := by decide +kernel
theorem dX6_lowest_18 : decode cX6_lowest 18 = .ok (.lconst 0, 1) := by decide +kernel
theorem dX6_lowest_19 : decode cX6_lowest 19 = .ok (.lcmp, 1) := by decide +kernel
theorem dX6_lowest_20 : decode cX6_lowest 20 = .ok (.ifCond .eq 21, 3) := by decide +kernel
theorem dX6_lowest_23 : decode cX6_lowest 23 = .ok (.lload 5, 2) := by decide +kernel
theorem dX6_lowest_25 : decode cX6_lowest 25 = .ok (.lload 7, 2) := by decide +kernel
theorem dX6_lowest_27 : decode cX6_lowest 27 = .ok (.lrem, 1) := by decide +kernel
theorem dX6_lowest_28 : decode cX6_lowest 28 = .ok (.lstore 9, 2) := by decide +kernel
theorem dX6_lowest_30 : decode cX6_lowest 30 = .ok (.lload 7, 2) := by decide +kernel
theorem dX6_lowest_32 : decode cX6_lowest 32 = .ok (.lstore 5, 2) := by decide +kernel
theorem dX6_lowest_34 : decode cX6_lowest 34 = .ok (.lload 9, 2) := by decide +kernel
theorem dX6_lowest_36 : decode cX6_lowest 36 = .ok (.lstore 7, 2) := by decide +kernel
theorem dX6_lowest_38 : decode cX6_lowest 38 = .ok (.goto (-22), 3) := by decide +kernel
theorem dX6_lowest_41 : decode cX6_lowest 41 = .ok (.iload 4, 2) := by decide +kernel
theorem dX6_lowest_43 : decode cX6_lowest 43 = .ok (.ifCond .ne 7, 3) := by decide +kernel
theorem dX6_lowest_46 : decode cX6_lowest 46 = .ok (.lload_n 0, 1) := by decide +kernel
theorem dX6_lowest_47 : decode cX6_lowest 47 = .ok (.goto 4, 3) := by decide +kernel
theorem dX6_lowest_50 : decode cX6_lowest 50 = .ok (.lload_n 2, 1) := by decide +kernel
theorem dX6_lowest_51 : decode cX6_lowest 51 = .ok (.lload 5, 2) := by decide +kernel
theorem dX6_lowest_53 : decode cX6_lowest 53 = .ok (.ldiv, 1) := by decide +kernel
theorem dX6_lowest_54 : decode cX6_lowest 54 = .ok (.lreturn, 1) := by decide +kernel
theorem dX6_share_0 : decode cX6_share 0 = .ok (.iload_n 1, 1) := by decide +kernel
theorem dX6_share_1 : decode cX6_share 1 = .ok (.iconst 0, 1) := by decide +kernel
theorem dX6_share_2 : decode cX6_share 2 = .ok (.bipush 40, 2) := by decide +kernel
theorem dX6_share_4 : decode cX6_share 4 = .ok (.invokestatic 79, 3) := by decide +kernel
theorem dX6_share_7 : decode cX6_share 7 = .ok (.ifCond .eq 32, 3) := by decide +kernel
theorem dX6_share_10 : decode cX6_share 10 = .ok (.iload_n 2, 1) := by decide +kernel
theorem dX6_share_11 : decode cX6_share 11 = .ok (.iconst 0, 1) := by decide +kernel
theorem dX6_share_12 : decode cX6_share 12 = .ok (.iconst 1, 1) := by decide +kernel
theorem dX6_share_13 : decode cX6_share 13 = .ok (.invokestatic 79, 3) := by decide +kernel
theorem dX6_share_16 : decode cX6_share 16 = .ok (.ifCond .eq 23, 3) := by decide +kernel
theorem dX6_share_19 : decode cX6_share 19 = .ok (.aload_n 0, 1) := by decide +kernel
theorem dX6_share_20 : decode cX6_share 20 = .ok (.iload_n 1, 1) := by decide +kernel
theorem dX6_share_21 : decode cX6_share 21 = .ok (.iconst (-1), 1) := by decide +kernel
theorem dX6_share_22 : decode cX6_share 22 = .ok (.invokevirtual 227, 3) := by decide +kernel
theorem dX6_share_25 : decode cX6_share 25 = .ok (.invokestatic 90, 3) := by decide +kernel
theorem dX6_share_28 : decode cX6_share 28 = .ok (.i2l, 1) := by decide +kernel
theorem dX6_share_29 : decode cX6_share 29 = .ok (.ldc2_w 251, 3) := by decide +kernel
theorem dX6_share_32 : decode cX6_share 32 = .ok (.iload_n 2, 1) := by decide +kernel
theorem dX6_share_33 : decode cX6_share 33 = .ok (.invokestatic 253, 3) := by decide +kernel
theorem dX6_share_36 : decode cX6_share 36 = .ok (.goto 6, 3) := by decide +kernel
theorem dX6_share_39 : decode cX6_share 39 = .ok (.ldc2_w 231, 3) := by decide +kernel
theorem dX6_share_42 : decode cX6_share 42 = .ok (.lreturn, 1) := by decide +kernel
theorem dX6_sheetWrong_0 : decode cX6_sheetWrong 0 = .ok (.iload_n 1, 1) := by decide +kernel
theorem dX6_sheetWrong_1 : decode cX6_sheetWrong 1 = .ok (.iconst 0, 1) := by decide +kernel
theorem dX6_sheetWrong_2 : decode cX6_sheetWrong 2 = .ok (.iconst 3, 1) := by decide +kernel
theorem dX6_sheetWrong_3 : decode cX6_sheetWrong 3 = .ok (.invokestatic 79, 3) := by decide +kernel
theorem dX6_sheetWrong_6 : decode cX6_sheetWrong 6 = .ok (.ifCond .ne 6, 3) := by decide +kernel
theorem dX6_sheetWrong_9 : decode cX6_sheetWrong 9 = .ok (.bipush (-2), 2) := by decide +kernel
theorem dX6_sheetWrong_11 : decode cX6_sheetWrong 11 = .ok (.ireturn, 1) := by decide +kernel
theorem dX6_sheetWrong_12 : decode cX6_sheetWrong 12 = .ok (.aload_n 0, 1) := by decide +kernel
theorem dX6_sheetWrong_13 : decode cX6_sheetWrong 13 = .ok (.getfield 40, 3) := by decide +kernel
theorem dX6_sheetWrong_16 : decode cX6_sheetWrong 16 = .ok (.iload_n 1, 1) := by decide +kernel
theorem dX6_sheetWrong_17 : decode cX6_sheetWrong 17 = .ok (.iaload, 1) := by decide +kernel
theorem dX6_sheetWrong_18 : decode cX6_sheetWrong 18 = .ok (.iconst (-1), 1) := by decide +kernel
theorem dX6_sheetWrong_19 : decode cX6_sheetWrong 19 = .ok (.if_icmp .ne 6, 3) := by decide +kernel
theorem dX6_sheetWrong_22 : decode cX6_sheetWrong 22 = .ok (.bipush (-11), 2) := by decide +kernel
theorem dX6_sheetWrong_24 : decode cX6_sheetWrong 24 = .ok (.ireturn, 1) := by decide +kernel
theorem dX6_sheetWrong_25 : decode cX6_sheetWrong 25 = .ok (.aload_n 0, 1) := by decide +kernel
theorem dX6_sheetWrong_26 : decode cX6_sheetWrong 26 = .ok (.getfield 43, 3) := by decide +kernel
theorem dX6_sheetWrong_29 : decode cX6_sheetWrong 29 = .ok (.iload_n 1, 1) := by decide +kernel
theorem dX6_sheetWrong_30 : decode cX6_sheetWrong 30 = .ok (.iaload, 1) := by decide +kernel
theorem dX6_sheetWrong_31 : decode cX6_sheetWrong 31 = .ok (.bipush 20, 2) := by decide +kernel
theorem dX6_sheetWrong_33 : decode cX6_sheetWrong 33 = .ok (.if_icmp .le 8, 3) := by decide +kernel
theorem dX6_sheetWrong_36 : decode cX6_sheetWrong 36 = .ok (.bipush (-2), 2) := by decide +kernel
theorem dX6_sheetWrong_38 : decode cX6_sheetWrong 38 = .ok (.goto 4, 3) := by decide +kernel
theorem dX6_sheetWrong_41 : decode cX6_sheetWrong 41 = .ok (.iconst 0, 1) := by decide +kernel
theorem dX6_sheetWrong_42 : decode cX6_sheetWrong 42 = .ok (.ireturn, 1) := by decide +kernel
theorem dX6_toldWrong_0 : decode cX6_toldWrong 0 = .ok (.aload_n 0, 1) := by decide +kernel
theorem dX6_toldWrong_1 : decode cX6_toldWrong 1 = .ok (.iload_n 1, 1) := by decide +kernel
theorem dX6_toldWrong_2 : decode cX6_toldWrong 2 = .ok (.invokevirtual 257, 3) := by decide +kernel
theorem dX6_toldWrong_5 : decode cX6_toldWrong 5 = .ok (.istore_n 3, 1) := by decide +kernel
theorem dX6_toldWrong_6 : decode cX6_toldWrong 6 = .ok (.iload_n 3, 1) := by decide +kernel
theorem dX6_toldWrong_7 : decode cX6_toldWrong 7 = .ok (.ifCond .eq 7, 3) := by decide +kernel
theorem dX6_toldWrong_10 : decode cX6_toldWrong 10 = .ok (.iload_n 3, 1) := by decide +kernel
theorem dX6_toldWrong_11 : decode cX6_toldWrong 11 = .ok (.goto 17, 3) := by decide +kernel
theorem dX6_toldWrong_14 : decode cX6_toldWrong 14 = .ok (.aload_n 0, 1) := by decide +kernel
theorem dX6_toldWrong_15 : decode cX6_toldWrong 15 = .ok (.iload_n 2, 1) := by decide +kernel
theorem dX6_toldWrong_16 : decode cX6_toldWrong 16 = .ok (.invokevirtual 181, 3) := by decide +kernel
theorem dX6_toldWrong_19 : decode cX6_toldWrong 19 = .ok (.ifCond .eq 7, 3) := by decide +kernel
theorem dX6_toldWrong_22 : decode cX6_toldWrong 22 = .ok (.iconst 0, 1) := by decide +kernel
theorem dX6_toldWrong_23 : decode cX6_toldWrong 23 = .ok (.goto 5, 3) := by decide +kernel
theorem dX6_toldWrong_26 : decode cX6_toldWrong 26 = .ok (.bipush (-5), 2) := by decide +kernel
theorem dX6_toldWrong_28 : decode cX6_toldWrong 28 = .ok (.ireturn, 1) := by decide +kernel
theorem dX6_unlike_0 : decode cX6_unlike 0 = .ok (.iconst (-1), 1) := by decide +kernel
theorem dX6_unlike_1 : decode cX6_unlike 1 = .ok (.istore_n 3, 1) := by decide +kernel
theorem dX6_unlike_2 : decode cX6_unlike 2 = .ok (.aload_n 0, 1) := by decide +kernel
theorem dX6_unlike_3 : decode cX6_unlike 3 = .ok (.invokevirtual 215, 3) := by decide +kernel
theorem dX6_unlike_6 : decode cX6_unlike 6 = .ok (.iconst 0, 1) := by decide +kernel
theorem dX6_unlike_7 : decode cX6_unlike 7 = .ok (.istore 4, 2) := by decide +kernel
theorem dX6_unlike_9 : decode cX6_unlike 9 = .ok (.iload 4, 2) := by decide +kernel
theorem dX6_unlike_11 : decode cX6_unlike 11 = .ok (.aload_n 0, 1) := by decide +kernel
theorem dX6_unlike_12 : decode cX6_unlike 12 = .ok (.getfield 43, 3) := by decide +kernel
theorem dX6_unlike_15 : decode cX6_unlike 15 = .ok (.iload_n 1, 1) := by decide +kernel
theorem dX6_unlike_16 : decode cX6_unlike 16 = .ok (.iaload, 1) := by decide +kernel
theorem dX6_unlike_17 : decode cX6_unlike 17 = .ok (.if_icmp .ge 48, 3) := by decide +kernel
theorem dX6_unlike_20 : decode cX6_unlike 20 = .ok (.iload_n 3, 1) := by decide +kernel
theorem dX6_unlike_21 : decode cX6_unlike 21 = .ok (.iconst (-1), 1) := by decide +kernel
theorem dX6_unlike_22 : decode cX6_unlike 22 = .ok (.if_icmp .ne 43, 3) := by decide +kernel
theorem dX6_unlike_25 : decode cX6_unlike 25 = .ok (.aload_n 0, 1) := by decide +kernel
theorem dX6_unlike_26 : decode cX6_unlike 26 = .ok (.invokevirtual 205, 3) := by decide +kernel
theorem dX6_unlike_29 : decode cX6_unlike 29 = .ok (.aload_n 0, 1) := by decide +kernel
theorem dX6_unlike_30 : decode cX6_unlike 30 = .ok (.getfield 46, 3) := by decide +kernel
theorem dX6_unlike_33 : decode cX6_unlike 33 = .ok (.bipush 40, 2) := by decide +kernel
theorem dX6_unlike_35 : decode cX6_unlike 35 = .ok (.iload_n 1, 1) := by decide +kernel
theorem dX6_unlike_36 : decode cX6_unlike 36 = .ok (.imul, 1) := by decide +kernel
theorem dX6_unlike_37 : decode cX6_unlike 37 = .ok (.iload 4, 2) := by decide +kernel
theorem dX6_unlike_39 : decode cX6_unlike 39 = .ok (.iadd, 1) := by decide +kernel
theorem dX6_unlike_40 : decode cX6_unlike 40 = .ok (.iaload, 1) := by decide +kernel
theorem dX6_unlike_41 : decode cX6_unlike 41 = .ok (.aload_n 0, 1) := by decide +kernel
theorem dX6_unlike_42 : decode cX6_unlike 42 = .ok (.getfield 16, 3) := by decide +kernel
theorem dX6_unlike_45 : decode cX6_unlike 45 = .ok (.iconst 5, 1) := by decide +kernel
theorem dX6_unlike_46 : decode cX6_unlike 46 = .ok (.iload_n 2, 1) := by decide +kernel
theorem dX6_unlike_47 : decode cX6_unlike 47 = .ok (.imul, 1) := by decide +kernel
theorem dX6_unlike_48 : decode cX6_unlike 48 = .ok (.iaload, 1) := by decide +kernel
theorem dX6_unlike_49 : decode cX6_unlike 49 = .ok (.if_icmp .ne 7, 3) := by decide +kernel
theorem dX6_unlike_52 : decode cX6_unlike 52 = .ok (.iconst (-1), 1) := by decide +kernel
theorem dX6_unlike_53 : decode cX6_unlike 53 = .ok (.goto 5, 3) := by decide +kernel
theorem dX6_unlike_56 : decode cX6_unlike 56 = .ok (.iload 4, 2) := by decide +kernel
theorem dX6_unlike_58 : decode cX6_unlike 58 = .ok (.istore_n 3, 1) := by decide +kernel
theorem dX6_unlike_59 : decode cX6_unlike 59 = .ok (.iinc 4 1, 3) := by decide +kernel
theorem dX6_unlike_62 : decode cX6_unlike 62 = .ok (.goto (-53), 3) := by decide +kernel
theorem dX6_unlike_65 : decode cX6_unlike 65 = .ok (.aload_n 0, 1) := by decide +kernel
theorem dX6_unlike_66 : decode cX6_unlike 66 = .ok (.invokevirtual 224, 3) := by decide +kernel
theorem dX6_unlike_69 : decode cX6_unlike 69 = .ok (.iload_n 3, 1) := by decide +kernel
theorem dX6_unlike_70 : decode cX6_unlike 70 = .ok (.ireturn, 1) := by decide +kernel
theorem dX6_judge_0 : decode cX6_judge 0 = .ok (.aload_n 0, 1) := by decide +kernel
theorem dX6_judge_1 : decode cX6_judge 1 = .ok (.iload_n 1, 1) := by decide +kernel
theorem dX6_judge_2 : decode cX6_judge 2 = .ok (.iload_n 2, 1) := by decide +kernel
theorem dX6_judge_3 : decode cX6_judge 3 = .ok (.invokevirtual 260, 3) := by decide +kernel
theorem dX6_judge_6 : decode cX6_judge 6 = .ok (.istore_n 3, 1) := by decide +kernel
theorem dX6_judge_7 : decode cX6_judge 7 = .ok (.iload_n 3, 1) := by decide +kernel
theorem dX6_judge_8 : decode cX6_judge 8 = .ok (.ifCond .ne 12, 3) := by decide +kernel
theorem dX6_judge_11 : decode cX6_judge 11 = .ok (.aload_n 0, 1) := by decide +kernel
theorem dX6_judge_12 : decode cX6_judge 12 = .ok (.iload_n 1, 1) := by decide +kernel
theorem dX6_judge_13 : decode cX6_judge 13 = .ok (.iload_n 2, 1) := by decide +kernel
theorem dX6_judge_14 : decode cX6_judge 14 = .ok (.invokevirtual 263, 3) := by decide +kernel
theorem dX6_judge_17 : decode cX6_judge 17 = .ok (.goto 4, 3) := by decide +kernel
theorem dX6_judge_20 : decode cX6_judge 20 = .ok (.iload_n 3, 1) := by decide +kernel
theorem dX6_judge_21 : decode cX6_judge 21 = .ok (.ireturn, 1) := by decide +kernel
theorem dX6_kinds_0 : decode cX6_kinds 0 = .ok (.aload_n 0, 1) := by decide +kernel
theorem dX6_kinds_1 : decode cX6_kinds 1 = .ok (.iload_n 1, 1) := by decide +kernel
theorem dX6_kinds_2 : decode cX6_kinds 2 = .ok (.iload_n 2, 1) := by decide +kernel
theorem dX6_kinds_3 : decode cX6_kinds 3 = .ok (.invokevirtual 260, 3) := by decide +kernel
theorem dX6_kinds_6 : decode cX6_kinds 6 = .ok (.istore 4, 2) := by decide +kernel
theorem dX6_kinds_8 : decode cX6_kinds 8 = .ok (.iload 4, 2) := by decide +kernel
theorem dX6_kinds_10 : decode cX6_kinds 10 = .ok (.ifCond .eq 6, 3) := by decide +kernel
theorem dX6_kinds_13 : decode cX6_kinds 13 = .ok (.iload 4, 2) := by decide +kernel
theorem dX6_kinds_15 : decode cX6_kinds 15 = .ok (.ireturn, 1) := by decide +kernel
theorem dX6_kinds_16 : decode cX6_kinds 16 = .ok (.iload_n 3, 1) := by decide +kernel
theorem dX6_kinds_17 : decode cX6_kinds 17 = .ok (.iconst 0, 1) := by decide +kernel
theorem dX6_kinds_18 : decode cX6_kinds 18 = .ok (.iconst 1, 1) := by decide +kernel
theorem dX6_kinds_19 : decode cX6_kinds 19 = .ok (.invokestatic 79, 3) := by decide +kernel
theorem dX6_kinds_22 : decode cX6_kinds 22 = .ok (.ifCond .ne 6, 3) := by decide +kernel
theorem dX6_kinds_25 : decode cX6_kinds 25 = .ok (.bipush (-7), 2) := by decide +kernel
theorem dX6_kinds_27 : decode cX6_kinds 27 = .ok (.ireturn, 1) := by decide +kernel
theorem dX6_kinds_28 : decode cX6_kinds 28 = .ok (.aload_n 0, 1) := by decide +kernel
theorem dX6_kinds_29 : decode cX6_kinds 29 = .ok (.getfield 7, 3) := by decide +kernel
theorem dX6_kinds_32 : decode cX6_kinds 32 = .ok (.iload_n 2, 1) := by decide +kernel
theorem dX6_kinds_33 : decode cX6_kinds 33 = .ok (.iaload, 1) := by decide +kernel
theorem dX6_kinds_34 : decode cX6_kinds 34 = .ok (.istore 5, 2) := by decide +kernel
theorem dX6_kinds_36 : decode cX6_kinds 36 = .ok (.aload_n 0, 1) := by decide +kernel
theorem dX6_kinds_37 : decode cX6_kinds 37 = .ok (.getfield 13, 3) := by decide +kernel
theorem dX6_kinds_40 : decode cX6_kinds 40 = .ok (.iload_n 2, 1) := by decide +kernel
theorem dX6_kinds_41 : decode cX6_kinds 41 = .ok (.iaload, 1) := by decide +kernel
theorem dX6_kinds_42 : decode cX6_kinds 42 = .ok (.istore 6, 2) := by decide +kernel
theorem dX6_kinds_44 : decode cX6_kinds 44 = .ok (.iconst 0, 1) := by decide +kernel
theorem dX6_kinds_45 : decode cX6_kinds 45 = .ok (.istore 7, 2) := by decide +kernel
theorem dX6_kinds_47 : decode cX6_kinds 47 = .ok (.iconst 0, 1) := by decide +kernel
theorem dX6_kinds_48 : decode cX6_kinds 48 = .ok (.istore 8, 2) := by decide +kernel
theorem dX6_kinds_50 : decode cX6_kinds 50 = .ok (.iload 8, 2) := by decide +kernel
theorem dX6_kinds_52 : decode cX6_kinds 52 = .ok (.iload_n 3, 1) := by decide +kernel
theorem dX6_kinds_53 : decode cX6_kinds 53 = .ok (.ifCond .ne 8, 3) := by decide +kernel
theorem dX6_kinds_56 : decode cX6_kinds 56 = .ok (.bipush 6, 2) := by decide +kernel
theorem dX6_kinds_58 : decode cX6_kinds 58 = .ok (.goto 5, 3) := by decide +kernel
theorem dX6_kinds_61 : decode cX6_kinds 61 = .ok (.bipush 10, 2) := by decide +kernel
theorem dX6_kinds_63 : decode cX6_kinds 63 = .ok (.if_icmp .ge 67, 3) := by decide +kernel
theorem dX6_kinds_66 : decode cX6_kinds 66 = .ok (.aload_n 0, 1) := by decide +kernel
theorem dX6_kinds_67 : decode cX6_kinds 67 = .ok (.getfield 7, 3) := by decide +kernel
theorem dX6_kinds_70 : decode cX6_kinds 70 = .ok (.iload_n 2, 1) := by decide +kernel
theorem dX6_kinds_71 : decode cX6_kinds 71 = .ok (.iload_n 3, 1) := by decide +kernel
theorem dX6_kinds_72 : decode cX6_kinds 72 = .ok (.ifCond .ne 8, 3) := by decide +kernel
theorem dX6_kinds_75 : decode cX6_kinds 75 = .ok (.iload 8, 2) := by decide +kernel
theorem dX6_kinds_77 : decode cX6_kinds 77 = .ok (.goto 5, 3) := by decide +kernel
theorem dX6_kinds_80 : decode cX6_kinds 80 = .ok (.iload 5, 2) := by decide +kernel
theorem dX6_kinds_82 : decode cX6_kinds 82 = .ok (.iastore, 1) := by decide +kernel
theorem dX6_kinds_83 : decode cX6_kinds 83 = .ok (.aload_n 0, 1) := by decide +kernel
theorem dX6_kinds_84 : decode cX6_kinds 84 = .ok (.getfield 13, 3) := by decide +kernel
theorem dX6_kinds_87 : decode cX6_kinds 87 = .ok (.iload_n 2, 1) := by decide +kernel
theorem dX6_kinds_88 : decode cX6_kinds 88 = .ok (.iload_n 3, 1) := by decide +kernel
theorem dX6_kinds_89 : decode cX6_kinds 89 = .ok (.iconst 1, 1) := by decide +kernel
theorem dX6_kinds_90 : decode cX6_kinds 90 = .ok (.if_icmp .ne 8, 3) := by decide +kernel
theorem dX6_kinds_93 : decode cX6_kinds 93 = .ok (.iload 8, 2) := by decide +kernel
theorem dX6_kinds_95 : decode cX6_kinds 95 = .ok (.goto 5, 3) := by decide +kernel
theorem dX6_kinds_98 : decode cX6_kinds 98 = .ok (.iload 6, 2) := by decide +kernel
theorem dX6_kinds_100 : decode cX6_kinds 100 = .ok (.iastore, 1) := by decide +kernel
theorem dX6_kinds_101 : decode cX6_kinds 101 = .ok (.iload 7, 2) := by decide +kernel
theorem dX6_kinds_103 : decode cX6_kinds 103 = .ok (.aload_n 0, 1) := by decide +kernel
theorem dX6_kinds_104 : decode cX6_kinds 104 = .ok (.iload_n 1, 1) := by decide +kernel
theorem dX6_kinds_105 : decode cX6_kinds 105 = .ok (.iload_n 2, 1) := by decide +kernel
theorem dX6_kinds_106 : decode cX6_kinds 106 = .ok (.invokevirtual 263, 3) := by decide +kernel
theorem dX6_kinds_109 : decode cX6_kinds 109 = .ok (.iconst (-1), 1) := by decide +kernel
theorem dX6_kinds_110 : decode cX6_kinds 110 = .ok (.if_icmp .ne 10, 3) := by decide +kernel
theorem dX6_kinds_113 : decode cX6_kinds 113 = .ok (.iconst 1, 1) := by decide +kernel
theorem dX6_kinds_114 : decode cX6_kinds 114 = .ok (.iload 8, 2) := by decide +kernel
theorem dX6_kinds_116 : decode cX6_kinds 116 = .ok (.ishl, 1) := by decide +kernel
theorem dX6_kinds_117 : decode cX6_kinds 117 = .ok (.goto 4, 3) := by decide +kernel
theorem dX6_kinds_120 : decode cX6_kinds 120 = .ok (.iconst 0, 1) := by decide +kernel
theorem dX6_kinds_121 : decode cX6_kinds 121 = .ok (.ior, 1) := by decide +kernel
theorem dX6_kinds_122 : decode cX6_kinds 122 = .ok (.istore 7, 2) := by decide +kernel
theorem dX6_kinds_124 : decode cX6_kinds 124 = .ok (.iinc 8 1, 3) := by decide +kernel
theorem dX6_kinds_127 : decode cX6_kinds 127 = .ok (.goto (-77), 3) := by decide +kernel
theorem dX6_kinds_130 : decode cX6_kinds 130 = .ok (.aload_n 0, 1) := by decide +kernel
theorem dX6_kinds_131 : decode cX6_kinds 131 = .ok (.getfield 7, 3) := by decide +kernel
theorem dX6_kinds_134 : decode cX6_kinds 134 = .ok (.iload_n 2, 1) := by decide +kernel
theorem dX6_kinds_135 : decode cX6_kinds 135 = .ok (.iload 5, 2) := by decide +kernel
theorem dX6_kinds_137 : decode cX6_kinds 137 = .ok (.iastore, 1) := by decide +kernel
theorem dX6_kinds_138 : decode cX6_kinds 138 = .ok (.aload_n 0, 1) := by decide +kernel
theorem dX6_kinds_139 : decode cX6_kinds 139 = .ok (.getfield 13, 3) := by decide +kernel
theorem dX6_kinds_142 : decode cX6_kinds 142 = .ok (.iload_n 2, 1) := by decide +kernel
theorem dX6_kinds_143 : decode cX6_kinds 143 = .ok (.iload 6, 2) := by decide +kernel
theorem dX6_kinds_145 : decode cX6_kinds 145 = .ok (.iastore, 1) := by decide +kernel
theorem dX6_kinds_146 : decode cX6_kinds 146 = .ok (.iload 7, 2) := by decide +kernel
theorem dX6_kinds_148 : decode cX6_kinds 148 = .ok (.ireturn, 1) := by decide +kernel
theorem dX6_begins_0 : decode cX6_begins 0 = .ok (.aload_n 0, 1) := by decide +kernel
theorem dX6_begins_1 : decode cX6_begins 1 = .ok (.iload_n 1, 1) := by decide +kernel
theorem dX6_begins_2 : decode cX6_begins 2 = .ok (.iload_n 2, 1) := by decide +kernel
theorem dX6_begins_3 : decode cX6_begins 3 = .ok (.invokevirtual 260, 3) := by decide +kernel
theorem dX6_begins_6 : decode cX6_begins 6 = .ok (.ifCond .eq 7, 3) := by decide +kernel
theorem dX6_begins_9 : decode cX6_begins 9 = .ok (.ldc2_w 231, 3) := by decide +kernel
theorem dX6_begins_12 : decode cX6_begins 12 = .ok (.lreturn, 1) := by decide +kernel
theorem dX6_begins_13 : decode cX6_begins 13 = .ok (.aload_n 0, 1) := by decide +kernel
theorem dX6_begins_14 : decode cX6_begins 14 = .ok (.getfield 16, 3) := by decide +kernel
theorem dX6_begins_17 : decode cX6_begins 17 = .ok (.iconst 5, 1) := by decide +kernel
theorem dX6_begins_18 : decode cX6_begins 18 = .ok (.iload_n 2, 1) := by decide +kernel
theorem dX6_begins_19 : decode cX6_begins 19 = .ok (.imul, 1) := by decide +kernel
theorem dX6_begins_20 : decode cX6_begins 20 = .ok (.iaload, 1) := by decide +kernel
theorem dX6_begins_21 : decode cX6_begins 21 = .ok (.istore_n 3, 1) := by decide +kernel
theorem dX6_begins_22 : decode cX6_begins 22 = .ok (.lconst 0, 1) := by decide +kernel
theorem dX6_begins_23 : decode cX6_begins 23 = .ok (.lstore 4, 2) := by decide +kernel
theorem dX6_begins_25 : decode cX6_begins 25 = .ok (.iconst 0, 1) := by decide +kernel
theorem dX6_begins_26 : decode cX6_begins 26 = .ok (.istore 6, 2) := by decide +kernel
theorem dX6_begins_28 : decode cX6_begins 28 = .ok (.iload 6, 2) := by decide +kernel
theorem dX6_begins_30 : decode cX6_begins 30 = .ok (.bipush 64, 2) := by decide +kernel
theorem dX6_begins_32 : decode cX6_begins 32 = .ok (.if_icmp .ge 42, 3) := by decide +kernel
theorem dX6_begins_35 : decode cX6_begins 35 = .ok (.aload_n 0, 1) := by decide +kernel
theorem dX6_begins_36 : decode cX6_begins 36 = .ok (.getfield 16, 3) := by decide +kernel
theorem dX6_begins_39 : decode cX6_begins 39 = .ok (.iconst 5, 1) := by decide +kernel
theorem dX6_begins_40 : decode cX6_begins 40 = .ok (.iload_n 2, 1) := by decide +kernel
theorem dX6_begins_41 : decode cX6_begins 41 = .ok (.imul, 1) := by decide +kernel
theorem dX6_begins_42 : decode cX6_begins 42 = .ok (.iload 6, 2) := by decide +kernel
theorem dX6_begins_44 : decode cX6_begins 44 = .ok (.iastore, 1) := by decide +kernel
theorem dX6_begins_45 : decode cX6_begins 45 = .ok (.lload 4, 2) := by decide +kernel
theorem dX6_begins_47 : decode cX6_begins 47 = .ok (.aload_n 0, 1) := by decide +kernel
theorem dX6_begins_48 : decode cX6_begins 48 = .ok (.iload_n 1, 1) := by decide +kernel
theorem dX6_begins_49 : decode cX6_begins 49 = .ok (.iload_n 2, 1) := by decide +kernel
theorem dX6_begins_50 : decode cX6_begins 50 = .ok (.invokevirtual 263, 3) := by decide +kernel
theorem dX6_begins_53 : decode cX6_begins 53 = .ok (.iconst (-1), 1) := by decide +kernel
theorem dX6_begins_54 : decode cX6_begins 54 = .ok (.if_icmp .ne 10, 3) := by decide +kernel
theorem dX6_begins_57 : decode cX6_begins 57 = .ok (.lconst 1, 1) := by decide +kernel
theorem dX6_begins_58 : decode cX6_begins 58 = .ok (.iload 6, 2) := by decide +kernel
theorem dX6_begins_60 : decode cX6_begins 60 = .ok (.lshl, 1) := by decide +kernel
theorem dX6_begins_61 : decode cX6_begins 61 = .ok (.goto 4, 3) := by decide +kernel
theorem dX6_begins_64 : decode cX6_begins 64 = .ok (.lconst 0, 1) := by decide +kernel
theorem dX6_begins_65 : decode cX6_begins 65 = .ok (.lor, 1) := by decide +kernel
theorem dX6_begins_66 : decode cX6_begins 66 = .ok (.lstore 4, 2) := by decide +kernel
theorem dX6_begins_68 : decode cX6_begins 68 = .ok (.iinc 6 1, 3) := by decide +kernel
theorem dX6_begins_71 : decode cX6_begins 71 = .ok (.goto (-43), 3) := by decide +kernel
theorem dX6_begins_74 : decode cX6_begins 74 = .ok (.aload_n 0, 1) := by decide +kernel
theorem dX6_begins_75 : decode cX6_begins 75 = .ok (.getfield 16, 3) := by decide +kernel
theorem dX6_begins_78 : decode cX6_begins 78 = .ok (.iconst 5, 1) := by decide +kernel
theorem dX6_begins_79 : decode cX6_begins 79 = .ok (.iload_n 2, 1) := by decide +kernel
theorem dX6_begins_80 : decode cX6_begins 80 = .ok (.imul, 1) := by decide +kernel
theorem dX6_begins_81 : decode cX6_begins 81 = .ok (.iload_n 3, 1) := by decide +kernel
theorem dX6_begins_82 : decode cX6_begins 82 = .ok (.iastore, 1) := by decide +kernel
theorem dX6_begins_83 : decode cX6_begins 83 = .ok (.lload 4, 2) := by decide +kernel
theorem dX6_begins_85 : decode cX6_begins 85 = .ok (.lreturn, 1) := by decide +kernel
theorem dX6_ways_0 : decode cX6_ways 0 = .ok (.aload_n 0, 1) := by decide +kernel
theorem dX6_ways_1 : decode cX6_ways 1 = .ok (.iload_n 1, 1) := by decide +kernel
theorem dX6_ways_2 : decode cX6_ways 2 = .ok (.iload_n 2, 1) := by decide +kernel
theorem dX6_ways_3 : decode cX6_ways 3 = .ok (.invokevirtual 260, 3) := by decide +kernel
theorem dX6_ways_6 : decode cX6_ways 6 = .ok (.istore 4, 2) := by decide +kernel
theorem dX6_ways_8 : decode cX6_ways 8 = .ok (.iload 4, 2) := by decide +kernel
theorem dX6_ways_10 : decode cX6_ways 10 = .ok (.ifCond .eq 6, 3) := by decide +kernel
theorem dX6_ways_13 : decode cX6_ways 13 = .ok (.iload 4, 2) := by decide +kernel
theorem dX6_ways_15 : decode cX6_ways 15 = .ok (.ireturn, 1) := by decide +kernel
theorem dX6_ways_16 : decode cX6_ways 16 = .ok (.iload_n 3, 1) := by decide +kernel
theorem dX6_ways_17 : decode cX6_ways 17 = .ok (.iconst 1, 1) := by decide +kernel
theorem dX6_ways_18 : decode cX6_ways 18 = .ok (.iconst 2, 1) := by decide +kernel
theorem dX6_ways_19 : decode cX6_ways 19 = .ok (.invokestatic 79, 3) := by decide +kernel
theorem dX6_ways_22 : decode cX6_ways 22 = .ok (.ifCond .ne 6, 3) := by decide +kernel
theorem dX6_ways_25 : decode cX6_ways 25 = .ok (.bipush (-7), 2) := by decide +kernel
theorem dX6_ways_27 : decode cX6_ways 27 = .ok (.ireturn, 1) := by decide +kernel
theorem dX6_ways_28 : decode cX6_ways 28 = .ok (.aload_n 0, 1) := by decide +kernel
theorem dX6_ways_29 : decode cX6_ways 29 = .ok (.getfield 16, 3) := by decide +kernel
theorem dX6_ways_32 : decode cX6_ways 32 = .ok (.iconst 5, 1) := by decide +kernel
theorem dX6_ways_33 : decode cX6_ways 33 = .ok (.iload_n 2, 1) := by decide +kernel
theorem dX6_ways_34 : decode cX6_ways 34 = .ok (.imul, 1) := by decide +kernel
theorem dX6_ways_35 : decode cX6_ways 35 = .ok (.iload_n 3, 1) := by decide +kernel
theorem dX6_ways_36 : decode cX6_ways 36 = .ok (.iadd, 1) := by decide +kernel
theorem dX6_ways_37 : decode cX6_ways 37 = .ok (.iaload, 1) := by decide +kernel
theorem dX6_ways_38 : decode cX6_ways 38 = .ok (.istore 5, 2) := by decide +kernel
theorem dX6_ways_40 : decode cX6_ways 40 = .ok (.iconst 0, 1) := by decide +kernel
theorem dX6_ways_41 : decode cX6_ways 41 = .ok (.istore 6, 2) := by decide +kernel
theorem dX6_ways_43 : decode cX6_ways 43 = .ok (.iconst 0, 1) := by decide +kernel
theorem dX6_ways_44 : decode cX6_ways 44 = .ok (.istore 7, 2) := by decide +kernel
theorem dX6_ways_46 : decode cX6_ways 46 = .ok (.iload 7, 2) := by decide +kernel
theorem dX6_ways_48 : decode cX6_ways 48 = .ok (.iload_n 3, 1) := by decide +kernel
theorem dX6_ways_49 : decode cX6_ways 49 = .ok (.iconst 1, 1) := by decide +kernel
theorem dX6_ways_50 : decode cX6_ways 50 = .ok (.if_icmp .ne 7, 3) := by decide +kernel
theorem dX6_ways_53 : decode cX6_ways 53 = .ok (.iconst 4, 1) := by decide +kernel
theorem dX6_ways_54 : decode cX6_ways 54 = .ok (.goto 9, 3) := by decide +kernel
theorem dX6_ways_57 : decode cX6_ways 57 = .ok (.aload_n 0, 1) := by decide +kernel
theorem dX6_ways_58 : decode cX6_ways 58 = .ok (.getfield 22, 3) := by decide +kernel
theorem dX6_ways_61 : decode cX6_ways 61 = .ok (.iload_n 2, 1) := by decide +kernel
theorem dX6_ways_62 : decode cX6_ways 62 = .ok (.iaload, 1) := by decide +kernel
theorem dX6_ways_63 : decode cX6_ways 63 = .ok (.if_icmp .ge 44, 3) := by decide +kernel
theorem dX6_ways_66 : decode cX6_ways 66 = .ok (.aload_n 0, 1) := by decide +kernel
theorem dX6_ways_67 : decode cX6_ways 67 = .ok (.getfield 16, 3) := by decide +kernel
theorem dX6_ways_70 : decode cX6_ways 70 = .ok (.iconst 5, 1) := by decide +kernel
theorem dX6_ways_71 : decode cX6_ways 71 = .ok (.iload_n 2, 1) := by decide +kernel
theorem dX6_ways_72 : decode cX6_ways 72 = .ok (.imul, 1) := by decide +kernel
theorem dX6_ways_73 : decode cX6_ways 73 = .ok (.iload_n 3, 1) := by decide +kernel
theorem dX6_ways_74 : decode cX6_ways 74 = .ok (.iadd, 1) := by decide +kernel
theorem dX6_ways_75 : decode cX6_ways 75 = .ok (.iload 7, 2) := by decide +kernel
theorem dX6_ways_77 : decode cX6_ways 77 = .ok (.iastore, 1) := by decide +kernel
theorem dX6_ways_78 : decode cX6_ways 78 = .ok (.iload 6, 2) := by decide +kernel
theorem dX6_ways_80 : decode cX6_ways 80 = .ok (.aload_n 0, 1) := by decide +kernel
theorem dX6_ways_81 : decode cX6_ways 81 = .ok (.iload_n 1, 1) := by decide +kernel
theorem dX6_ways_82 : decode cX6_ways 82 = .ok (.iload_n 2, 1) := by decide +kernel
theorem dX6_ways_83 : decode cX6_ways 83 = .ok (.invokevirtual 263, 3) := by decide +kernel
theorem dX6_ways_86 : decode cX6_ways 86 = .ok (.iconst (-1), 1) := by decide +kernel
theorem dX6_ways_87 : decode cX6_ways 87 = .ok (.if_icmp .ne 10, 3) := by decide +kernel
theorem dX6_ways_90 : decode cX6_ways 90 = .ok (.iconst 1, 1) := by decide +kernel
theorem dX6_ways_91 : decode cX6_ways 91 = .ok (.iload 7, 2) := by decide +kernel
theorem dX6_ways_93 : decode cX6_ways 93 = .ok (.ishl, 1) := by decide +kernel
theorem dX6_ways_94 : decode cX6_ways 94 = .ok (.goto 4, 3) := by decide +kernel
theorem dX6_ways_97 : decode cX6_ways 97 = .ok (.iconst 0, 1) := by decide +kernel
theorem dX6_ways_98 : decode cX6_ways 98 = .ok (.ior, 1) := by decide +kernel
theorem dX6_ways_99 : decode cX6_ways 99 = .ok (.istore 6, 2) := by decide +kernel
theorem dX6_ways_101 : decode cX6_ways 101 = .ok (.iinc 7 1, 3) := by decide +kernel
theorem dX6_ways_104 : decode cX6_ways 104 = .ok (.goto (-58), 3) := by decide +kernel
theorem dX6_ways_107 : decode cX6_ways 107 = .ok (.aload_n 0, 1) := by decide +kernel
theorem dX6_ways_108 : decode cX6_ways 108 = .ok (.getfield 16, 3) := by decide +kernel
theorem dX6_ways_111 : decode cX6_ways 111 = .ok (.iconst 5, 1) := by decide +kernel
theorem dX6_ways_112 : decode cX6_ways 112 = .ok (.iload_n 2, 1) := by decide +kernel
theorem dX6_ways_113 : decode cX6_ways 113 = .ok (.imul, 1) := by decide +kernel
theorem dX6_ways_114 : decode cX6_ways 114 = .ok (.iload_n 3, 1) := by decide +kernel
theorem dX6_ways_115 : decode cX6_ways 115 = .ok (.iadd, 1) := by decide +kernel
theorem dX6_ways_116 : decode cX6_ways 116 = .ok (.iload 5, 2) := by decide +kernel
theorem dX6_ways_118 : decode cX6_ways 118 = .ok (.iastore, 1) := by decide +kernel
theorem dX6_ways_119 : decode cX6_ways 119 = .ok (.iload 6, 2) := by decide +kernel
theorem dX6_ways_121 : decode cX6_ways 121 = .ok (.ireturn, 1) := by decide +kernel
theorem dX6_whose_0 : decode cX6_whose 0 = .ok (.aload_n 0, 1) := by decide +kernel
theorem dX6_whose_1 : decode cX6_whose 1 = .ok (.iload_n 1, 1) := by decide +kernel
theorem dX6_whose_2 : decode cX6_whose 2 = .ok (.invokevirtual 257, 3) := by decide +kernel
theorem dX6_whose_5 : decode cX6_whose 5 = .ok (.istore_n 2, 1) := by decide +kernel
theorem dX6_whose_6 : decode cX6_whose 6 = .ok (.iload_n 2, 1) := by decide +kernel
theorem dX6_whose_7 : decode cX6_whose 7 = .ok (.ifCond .eq 5, 3) := by decide +kernel
theorem dX6_whose_10 : decode cX6_whose 10 = .ok (.iload_n 2, 1) := by decide +kernel
theorem dX6_whose_11 : decode cX6_whose 11 = .ok (.ireturn, 1) := by decide +kernel
theorem dX6_whose_12 : decode cX6_whose 12 = .ok (.iconst 0, 1) := by decide +kernel
theorem dX6_whose_13 : decode cX6_whose 13 = .ok (.istore_n 3, 1) := by decide +kernel
theorem dX6_whose_14 : decode cX6_whose 14 = .ok (.iconst 0, 1) := by decide +kernel
theorem dX6_whose_15 : decode cX6_whose 15 = .ok (.istore 4, 2) := by decide +kernel
theorem dX6_whose_17 : decode cX6_whose 17 = .ok (.iload 4, 2) := by decide +kernel
theorem dX6_whose_19 : decode cX6_whose 19 = .ok (.aload_n 0, 1) := by decide +kernel
theorem dX6_whose_20 : decode cX6_whose 20 = .ok (.getfield 83, 3) := by decide +kernel
theorem dX6_whose_23 : decode cX6_whose 23 = .ok (.if_icmp .ge 31, 3) := by decide +kernel
theorem dX6_whose_26 : decode cX6_whose 26 = .ok (.iload_n 3, 1) := by decide +kernel
theorem dX6_whose_27 : decode cX6_whose 27 = .ok (.aload_n 0, 1) := by decide +kernel
theorem dX6_whose_28 : decode cX6_whose 28 = .ok (.iload_n 1, 1) := by decide +kernel
theorem dX6_whose_29 : decode cX6_whose 29 = .ok (.iload 4, 2) := by decide +kernel
theorem dX6_whose_31 : decode cX6_whose 31 = .ok (.invokevirtual 263, 3) := by decide +kernel
theorem dX6_whose_34 : decode cX6_whose 34 = .ok (.iconst (-1), 1) := by decide +kernel
theorem dX6_whose_35 : decode cX6_whose 35 = .ok (.if_icmp .ne 10, 3) := by decide +kernel
theorem dX6_whose_38 : decode cX6_whose 38 = .ok (.iconst 1, 1) := by decide +kernel
theorem dX6_whose_39 : decode cX6_whose 39 = .ok (.iload 4, 2) := by decide +kernel
theorem dX6_whose_41 : decode cX6_whose 41 = .ok (.ishl, 1) := by decide +kernel
theorem dX6_whose_42 : decode cX6_whose 42 = .ok (.goto 4, 3) := by decide +kernel
theorem dX6_whose_45 : decode cX6_whose 45 = .ok (.iconst 0, 1) := by decide +kernel
theorem dX6_whose_46 : decode cX6_whose 46 = .ok (.ior, 1) := by decide +kernel
theorem dX6_whose_47 : decode cX6_whose 47 = .ok (.istore_n 3, 1) := by decide +kernel
theorem dX6_whose_48 : decode cX6_whose 48 = .ok (.iinc 4 1, 3) := by decide +kernel
theorem dX6_whose_51 : decode cX6_whose 51 = .ok (.goto (-34), 3) := by decide +kernel
theorem dX6_whose_54 : decode cX6_whose 54 = .ok (.iload_n 3, 1) := by decide +kernel
theorem dX6_whose_55 : decode cX6_whose 55 = .ok (.ireturn, 1) := by decide +kernel
theorem dX6_laws_0 : decode cX6_laws 0 = .ok (.aload_n 0, 1) := by decide +kernel
theorem dX6_laws_1 : decode cX6_laws 1 = .ok (.iload_n 1, 1) := by decide +kernel
theorem dX6_laws_2 : decode cX6_laws 2 = .ok (.iload_n 2, 1) := by decide +kernel
theorem dX6_laws_3 : decode cX6_laws 3 = .ok (.invokevirtual 260, 3) := by decide +kernel
theorem dX6_laws_6 : decode cX6_laws 6 = .ok (.istore_n 3, 1) := by decide +kernel
theorem dX6_laws_7 : decode cX6_laws 7 = .ok (.iload_n 3, 1) := by decide +kernel
theorem dX6_laws_8 : decode cX6_laws 8 = .ok (.ifCond .eq 5, 3) := by decide +kernel
theorem dX6_laws_11 : decode cX6_laws 11 = .ok (.iload_n 3, 1) := by decide +kernel
theorem dX6_laws_12 : decode cX6_laws 12 = .ok (.ireturn, 1) := by decide +kernel
theorem dX6_laws_13 : decode cX6_laws 13 = .ok (.aload_n 0, 1) := by decide +kernel
theorem dX6_laws_14 : decode cX6_laws 14 = .ok (.getfield 100, 3) := by decide +kernel
theorem dX6_laws_17 : decode cX6_laws 17 = .ok (.istore 4, 2) := by decide +kernel
theorem dX6_laws_19 : decode cX6_laws 19 = .ok (.iconst 0, 1) := by decide +kernel
theorem dX6_laws_20 : decode cX6_laws 20 = .ok (.istore 5, 2) := by decide +kernel
theorem dX6_laws_22 : decode cX6_laws 22 = .ok (.iconst 0, 1) := by decide +kernel
theorem dX6_laws_23 : decode cX6_laws 23 = .ok (.istore 6, 2) := by decide +kernel
theorem dX6_laws_25 : decode cX6_laws 25 = .ok (.iload 6, 2) := by decide +kernel
theorem dX6_laws_27 : decode cX6_laws 27 = .ok (.aload_n 0, 1) := by decide +kernel
theorem dX6_laws_28 : decode cX6_laws 28 = .ok (.getfield 97, 3) := by decide +kernel
theorem dX6_laws_31 : decode cX6_laws 31 = .ok (.if_icmp .ge 38, 3) := by decide +kernel
theorem dX6_laws_34 : decode cX6_laws 34 = .ok (.aload_n 0, 1) := by decide +kernel
theorem dX6_laws_35 : decode cX6_laws 35 = .ok (.iload 6, 2) := by decide +kernel
theorem dX6_laws_37 : decode cX6_laws 37 = .ok (.putfield 100, 3) := by decide +kernel
theorem dX6_laws_40 : decode cX6_laws 40 = .ok (.iload 5, 2) := by decide +kernel
theorem dX6_laws_42 : decode cX6_laws 42 = .ok (.aload_n 0, 1) := by decide +kernel
theorem dX6_laws_43 : decode cX6_laws 43 = .ok (.iload_n 1, 1) := by decide +kernel
theorem dX6_laws_44 : decode cX6_laws 44 = .ok (.iload_n 2, 1) := by decide +kernel
theorem dX6_laws_45 : decode cX6_laws 45 = .ok (.invokevirtual 263, 3) := by decide +kernel
theorem dX6_laws_48 : decode cX6_laws 48 = .ok (.iconst (-1), 1) := by decide +kernel
theorem dX6_laws_49 : decode cX6_laws 49 = .ok (.if_icmp .ne 10, 3) := by decide +kernel
theorem dX6_laws_52 : decode cX6_laws 52 = .ok (.iconst 1, 1) := by decide +kernel
theorem dX6_laws_53 : decode cX6_laws 53 = .ok (.iload 6, 2) := by decide +kernel
theorem dX6_laws_55 : decode cX6_laws 55 = .ok (.ishl, 1) := by decide +kernel
theorem dX6_laws_56 : decode cX6_laws 56 = .ok (.goto 4, 3) := by decide +kernel
theorem dX6_laws_59 : decode cX6_laws 59 = .ok (.iconst 0, 1) := by decide +kernel
theorem dX6_laws_60 : decode cX6_laws 60 = .ok (.ior, 1) := by decide +kernel
theorem dX6_laws_61 : decode cX6_laws 61 = .ok (.istore 5, 2) := by decide +kernel
theorem dX6_laws_63 : decode cX6_laws 63 = .ok (.iinc 6 1, 3) := by decide +kernel
theorem dX6_laws_66 : decode cX6_laws 66 = .ok (.goto (-41), 3) := by decide +kernel
theorem dX6_laws_69 : decode cX6_laws 69 = .ok (.aload_n 0, 1) := by decide +kernel
theorem dX6_laws_70 : decode cX6_laws 70 = .ok (.iload 4, 2) := by decide +kernel
theorem dX6_laws_72 : decode cX6_laws 72 = .ok (.putfield 100, 3) := by decide +kernel
theorem dX6_laws_75 : decode cX6_laws 75 = .ok (.iload 5, 2) := by decide +kernel
theorem dX6_laws_77 : decode cX6_laws 77 = .ok (.ireturn, 1) := by decide +kernel
theorem dX6_film_0 : decode cX6_film 0 = .ok (.iload_n 1, 1) := by decide +kernel
theorem dX6_film_1 : decode cX6_film 1 = .ok (.iconst 0, 1) := by decide +kernel
theorem dX6_film_2 : decode cX6_film 2 = .ok (.iconst 3, 1) := by decide +kernel
theorem dX6_film_3 : decode cX6_film 3 = .ok (.invokestatic 79, 3) := by decide +kernel
theorem dX6_film_6 : decode cX6_film 6 = .ok (.ifCond .ne 6, 3) := by decide +kernel
theorem dX6_film_9 : decode cX6_film 9 = .ok (.bipush (-2), 2) := by decide +kernel
theorem dX6_film_11 : decode cX6_film 11 = .ok (.ireturn, 1) := by decide +kernel
theorem dX6_film_12 : decode cX6_film 12 = .ok (.aload_n 0, 1) := by decide +kernel
theorem dX6_film_13 : decode cX6_film 13 = .ok (.iload_n 2, 1) := by decide +kernel
theorem dX6_film_14 : decode cX6_film 14 = .ok (.invokevirtual 181, 3) := by decide +kernel
theorem dX6_film_17 : decode cX6_film 17 = .ok (.ifCond .ne 6, 3) := by decide +kernel
theorem dX6_film_20 : decode cX6_film 20 = .ok (.bipush (-5), 2) := by decide +kernel
theorem dX6_film_22 : decode cX6_film 22 = .ok (.ireturn, 1) := by decide +kernel
theorem dX6_film_23 : decode cX6_film 23 = .ok (.iload_n 3, 1) := by decide +kernel
theorem dX6_film_24 : decode cX6_film 24 = .ok (.iconst 0, 1) := by decide +kernel
theorem dX6_film_25 : decode cX6_film 25 = .ok (.bipush 20, 2) := by decide +kernel
theorem dX6_film_27 : decode cX6_film 27 = .ok (.invokestatic 79, 3) := by decide +kernel
theorem dX6_film_30 : decode cX6_film 30 = .ok (.ifCond .ne 6, 3) := by decide +kernel
theorem dX6_film_33 : decode cX6_film 33 = .ok (.bipush (-7), 2) := by decide +kernel
theorem dX6_film_35 : decode cX6_film 35 = .ok (.ireturn, 1) := by decide +kernel
theorem dX6_film_36 : decode cX6_film 36 = .ok (.aload_n 0, 1) := by decide +kernel
theorem dX6_film_37 : decode cX6_film 37 = .ok (.getfield 40, 3) := by decide +kernel
theorem dX6_film_40 : decode cX6_film 40 = .ok (.iload_n 1, 1) := by decide +kernel
theorem dX6_film_41 : decode cX6_film 41 = .ok (.iconst 0, 1) := by decide +kernel
theorem dX6_film_42 : decode cX6_film 42 = .ok (.iastore, 1) := by decide +kernel
theorem dX6_film_43 : decode cX6_film 43 = .ok (.aload_n 0, 1) := by decide +kernel
theorem dX6_film_44 : decode cX6_film 44 = .ok (.getfield 43, 3) := by decide +kernel
theorem dX6_film_47 : decode cX6_film 47 = .ok (.iload_n 1, 1) := by decide +kernel
theorem dX6_film_48 : decode cX6_film 48 = .ok (.iload_n 3, 1) := by decide +kernel
theorem dX6_film_49 : decode cX6_film 49 = .ok (.iastore, 1) := by decide +kernel
theorem dX6_film_50 : decode cX6_film 50 = .ok (.aload_n 0, 1) := by decide +kernel
theorem dX6_film_51 : decode cX6_film 51 = .ok (.invokevirtual 215, 3) := by decide +kernel
theorem dX6_film_54 : decode cX6_film 54 = .ok (.iconst 0, 1) := by decide +kernel
theorem dX6_film_55 : decode cX6_film 55 = .ok (.istore 4, 2) := by decide +kernel
theorem dX6_film_57 : decode cX6_film 57 = .ok (.iload 4, 2) := by decide +kernel
theorem dX6_film_59 : decode cX6_film 59 = .ok (.bipush 40, 2) := by decide +kernel
theorem dX6_film_61 : decode cX6_film 61 = .ok (.if_icmp .ge 52, 3) := by decide +kernel
theorem dX6_film_64 : decode cX6_film 64 = .ok (.aload_n 0, 1) := by decide +kernel
theorem dX6_film_65 : decode cX6_film 65 = .ok (.getfield 46, 3) := by decide +kernel
theorem dX6_film_68 : decode cX6_film 68 = .ok (.bipush 40, 2) := by decide +kernel
theorem dX6_film_70 : decode cX6_film 70 = .ok (.iload_n 1, 1) := by decide +kernel
theorem dX6_film_71 : decode cX6_film 71 = .ok (.imul, 1) := by decide +kernel
theorem dX6_film_72 : decode cX6_film 72 = .ok (.iload 4, 2) := by decide +kernel
theorem dX6_film_74 : decode cX6_film 74 = .ok (.iadd, 1) := by decide +kernel
theorem dX6_film_75 : decode cX6_film 75 = .ok (.iconst 0, 1) := by decide +kernel
theorem dX6_film_76 : decode cX6_film 76 = .ok (.iastore, 1) := by decide +kernel
theorem dX6_film_77 : decode cX6_film 77 = .ok (.iload 4, 2) := by decide +kernel
theorem dX6_film_79 : decode cX6_film 79 = .ok (.iload_n 3, 1) := by decide +kernel
theorem dX6_film_80 : decode cX6_film 80 = .ok (.if_icmp .ge 27, 3) := by decide +kernel
theorem dX6_film_83 : decode cX6_film 83 = .ok (.aload_n 0, 1) := by decide +kernel
theorem dX6_film_84 : decode cX6_film 84 = .ok (.invokevirtual 205, 3) := by decide +kernel
theorem dX6_film_87 : decode cX6_film 87 = .ok (.aload_n 0, 1) := by decide +kernel
theorem dX6_film_88 : decode cX6_film 88 = .ok (.getfield 46, 3) := by decide +kernel
theorem dX6_film_91 : decode cX6_film 91 = .ok (.bipush 40, 2) := by decide +kernel
theorem dX6_film_93 : decode cX6_film 93 = .ok (.iload_n 1, 1) := by decide +kernel
theorem dX6_film_94 : decode cX6_film 94 = .ok (.imul, 1) := by decide +kernel
theorem dX6_film_95 : decode cX6_film 95 = .ok (.iload 4, 2) := by decide +kernel
theorem dX6_film_97 : decode cX6_film 97 = .ok (.iadd, 1) := by decide +kernel
theorem dX6_film_98 : decode cX6_film 98 = .ok (.aload_n 0, 1) := by decide +kernel
theorem dX6_film_99 : decode cX6_film 99 = .ok (.getfield 16, 3) := by decide +kernel
theorem dX6_film_102 : decode cX6_film 102 = .ok (.iconst 5, 1) := by decide +kernel
theorem dX6_film_103 : decode cX6_film 103 = .ok (.iload_n 2, 1) := by decide +kernel
theorem dX6_film_104 : decode cX6_film 104 = .ok (.imul, 1) := by decide +kernel
theorem dX6_film_105 : decode cX6_film 105 = .ok (.iaload, 1) := by decide +kernel
theorem dX6_film_106 : decode cX6_film 106 = .ok (.iastore, 1) := by decide +kernel
theorem dX6_film_107 : decode cX6_film 107 = .ok (.iinc 4 1, 3) := by decide +kernel
theorem dX6_film_110 : decode cX6_film 110 = .ok (.goto (-53), 3) := by decide +kernel
theorem dX6_film_113 : decode cX6_film 113 = .ok (.aload_n 0, 1) := by decide +kernel
theorem dX6_film_114 : decode cX6_film 114 = .ok (.invokevirtual 224, 3) := by decide +kernel
theorem dX6_film_117 : decode cX6_film 117 = .ok (.iload_n 3, 1) := by decide +kernel
theorem dX6_film_118 : decode cX6_film 118 = .ok (.ireturn, 1) := by decide +kernel
theorem dX6_floods_0 : decode cX6_floods 0 = .ok (.iload_n 1, 1) := by decide +kernel
theorem dX6_floods_1 : decode cX6_floods 1 = .ok (.i2l, 1) := by decide +kernel
theorem dX6_floods_2 : decode cX6_floods 2 = .ok (.lconst 1, 1) := by decide +kernel
theorem dX6_floods_3 : decode cX6_floods 3 = .ok (.ladd, 1) := by decide +kernel
theorem dX6_floods_4 : decode cX6_floods 4 = .ok (.lstore_n 2, 1) := by decide +kernel
theorem dX6_floods_5 : decode cX6_floods 5 = .ok (.aload_n 0, 1) := by decide +kernel
theorem dX6_floods_6 : decode cX6_floods 6 = .ok (.getfield 86, 3) := by decide +kernel
theorem dX6_floods_9 : decode cX6_floods 9 = .ok (.lstore 4, 2) := by decide +kernel
theorem dX6_floods_11 : decode cX6_floods 11 = .ok (.aload_n 0, 1) := by decide +kernel
theorem dX6_floods_12 : decode cX6_floods 12 = .ok (.invokevirtual 215, 3) := by decide +kernel
theorem dX6_floods_15 : decode cX6_floods 15 = .ok (.aload_n 0, 1) := by decide +kernel
theorem dX6_floods_16 : decode cX6_floods 16 = .ok (.iconst 0, 1) := by decide +kernel
theorem dX6_floods_17 : decode cX6_floods 17 = .ok (.putfield 199, 3) := by decide +kernel
theorem dX6_floods_20 : decode cX6_floods 20 = .ok (.iconst 0, 1) := by decide +kernel
theorem dX6_floods_21 : decode cX6_floods 21 = .ok (.istore 6, 2) := by decide +kernel
theorem dX6_floods_23 : decode cX6_floods 23 = .ok (.iload 6, 2) := by decide +kernel
theorem dX6_floods_25 : decode cX6_floods 25 = .ok (.bipush 8, 2) := by decide +kernel
theorem dX6_floods_27 : decode cX6_floods 27 = .ok (.if_icmp .ge 40, 3) := by decide +kernel
theorem dX6_floods_30 : decode cX6_floods 30 = .ok (.lload_n 2, 1) := by decide +kernel
theorem dX6_floods_31 : decode cX6_floods 31 = .ok (.ldc2_w 266, 3) := by decide +kernel
theorem dX6_floods_34 : decode cX6_floods 34 = .ok (.lmul, 1) := by decide +kernel
theorem dX6_floods_35 : decode cX6_floods 35 = .ok (.ldc2_w 268, 3) := by decide +kernel
theorem dX6_floods_38 : decode cX6_floods 38 = .ok (.lrem, 1) := by decide +kernel
theorem dX6_floods_39 : decode cX6_floods 39 = .ok (.lstore_n 2, 1) := by decide +kernel
theorem dX6_floods_40 : decode cX6_floods 40 = .ok (.aload_n 0, 1) := by decide +kernel
theorem dX6_floods_41 : decode cX6_floods 41 = .ok (.dup, 1) := by decide +kernel
theorem dX6_floods_42 : decode cX6_floods 42 = .ok (.getfield 86, 3) := by decide +kernel
theorem dX6_floods_45 : decode cX6_floods 45 = .ok (.lconst 1, 1) := by decide +kernel
theorem dX6_floods_46 : decode cX6_floods 46 = .ok (.lload_n 2, 1) := by decide +kernel
theorem dX6_floods_47 : decode cX6_floods 47 = .ok (.ldc2_w 251, 3) := by decide +kernel
theorem dX6_floods_50 : decode cX6_floods 50 = .ok (.lrem, 1) := by decide +kernel
theorem dX6_floods_51 : decode cX6_floods 51 = .ok (.l2i, 1) := by decide +kernel
theorem dX6_floods_52 : decode cX6_floods 52 = .ok (.lshl, 1) := by decide +kernel
theorem dX6_floods_53 : decode cX6_floods 53 = .ok (.lxor, 1) := by decide +kernel
theorem dX6_floods_54 : decode cX6_floods 54 = .ok (.putfield 86, 3) := by decide +kernel
theorem dX6_floods_57 : decode cX6_floods 57 = .ok (.aload_n 0, 1) := by decide +kernel
theorem dX6_floods_58 : decode cX6_floods 58 = .ok (.invokevirtual 205, 3) := by decide +kernel
theorem dX6_floods_61 : decode cX6_floods 61 = .ok (.iinc 6 1, 3) := by decide +kernel
theorem dX6_floods_64 : decode cX6_floods 64 = .ok (.goto (-41), 3) := by decide +kernel
theorem dX6_floods_67 : decode cX6_floods 67 = .ok (.aload_n 0, 1) := by decide +kernel
theorem dX6_floods_68 : decode cX6_floods 68 = .ok (.aload_n 0, 1) := by decide +kernel
theorem dX6_floods_69 : decode cX6_floods 69 = .ok (.invokevirtual 211, 3) := by decide +kernel
theorem dX6_floods_72 : decode cX6_floods 72 = .ok (.putfield 270, 3) := by decide +kernel
theorem dX6_floods_75 : decode cX6_floods 75 = .ok (.aload_n 0, 1) := by decide +kernel
theorem dX6_floods_76 : decode cX6_floods 76 = .ok (.invokevirtual 224, 3) := by decide +kernel
theorem dX6_floods_79 : decode cX6_floods 79 = .ok (.aload_n 0, 1) := by decide +kernel
theorem dX6_floods_80 : decode cX6_floods 80 = .ok (.lload 4, 2) := by decide +kernel
theorem dX6_floods_82 : decode cX6_floods 82 = .ok (.putfield 86, 3) := by decide +kernel
theorem dX6_floods_85 : decode cX6_floods 85 = .ok (.aload_n 0, 1) := by decide +kernel
theorem dX6_floods_86 : decode cX6_floods 86 = .ok (.getfield 199, 3) := by decide +kernel
theorem dX6_floods_89 : decode cX6_floods 89 = .ok (.ireturn, 1) := by decide +kernel
theorem dX6_drawn_0 : decode cX6_drawn 0 = .ok (.iload_n 1, 1) := by decide +kernel
theorem dX6_drawn_1 : decode cX6_drawn 1 = .ok (.iconst 0, 1) := by decide +kernel
theorem dX6_drawn_2 : decode cX6_drawn 2 = .ok (.ldc_w 273, 3) := by decide +kernel
theorem dX6_drawn_5 : decode cX6_drawn 5 = .ok (.invokestatic 79, 3) := by decide +kernel
theorem dX6_drawn_8 : decode cX6_drawn 8 = .ok (.ifCond .eq 12, 3) := by decide +kernel
theorem dX6_drawn_11 : decode cX6_drawn 11 = .ok (.iload_n 2, 1) := by decide +kernel
theorem dX6_drawn_12 : decode cX6_drawn 12 = .ok (.iconst 0, 1) := by decide +kernel
theorem dX6_drawn_13 : decode cX6_drawn 13 = .ok (.iconst 1, 1) := by decide +kernel
theorem dX6_drawn_14 : decode cX6_drawn 14 = .ok (.invokestatic 79, 3) := by decide +kernel
theorem dX6_drawn_17 : decode cX6_drawn 17 = .ok (.ifCond .ne 6, 3) := by decide +kernel
theorem dX6_drawn_20 : decode cX6_drawn 20 = .ok (.bipush (-2), 2) := by decide +kernel
theorem dX6_drawn_22 : decode cX6_drawn 22 = .ok (.ireturn, 1) := by decide +kernel
theorem dX6_drawn_23 : decode cX6_drawn 23 = .ok (.aload_n 0, 1) := by decide +kernel
theorem dX6_drawn_24 : decode cX6_drawn 24 = .ok (.iload_n 1, 1) := by decide +kernel
theorem dX6_drawn_25 : decode cX6_drawn 25 = .ok (.invokevirtual 274, 3) := by decide +kernel
theorem dX6_drawn_28 : decode cX6_drawn 28 = .ok (.istore_n 3, 1) := by decide +kernel
theorem dX6_drawn_29 : decode cX6_drawn 29 = .ok (.iload_n 2, 1) := by decide +kernel
theorem dX6_drawn_30 : decode cX6_drawn 30 = .ok (.ifCond .ne 7, 3) := by decide +kernel
theorem dX6_drawn_33 : decode cX6_drawn 33 = .ok (.iload_n 3, 1) := by decide +kernel
theorem dX6_drawn_34 : decode cX6_drawn 34 = .ok (.goto 7, 3) := by decide +kernel
theorem dX6_drawn_37 : decode cX6_drawn 37 = .ok (.aload_n 0, 1) := by decide +kernel
theorem dX6_drawn_38 : decode cX6_drawn 38 = .ok (.getfield 270, 3) := by decide +kernel
theorem dX6_drawn_41 : decode cX6_drawn 41 = .ok (.ireturn, 1) := by decide +kernel
theorem dX6_odds_0 : decode cX6_odds 0 = .ok (.iload_n 1, 1) := by decide +kernel
theorem dX6_odds_1 : decode cX6_odds 1 = .ok (.iconst 0, 1) := by decide +kernel
theorem dX6_odds_2 : decode cX6_odds 2 = .ok (.ldc_w 273, 3) := by decide +kernel
theorem dX6_odds_5 : decode cX6_odds 5 = .ok (.invokestatic 79, 3) := by decide +kernel
theorem dX6_odds_8 : decode cX6_odds 8 = .ok (.ifCond .eq 34, 3) := by decide +kernel
theorem dX6_odds_11 : decode cX6_odds 11 = .ok (.iload_n 2, 1) := by decide +kernel
theorem dX6_odds_12 : decode cX6_odds 12 = .ok (.iconst 1, 1) := by decide +kernel
theorem dX6_odds_13 : decode cX6_odds 13 = .ok (.bipush 40, 2) := by decide +kernel
theorem dX6_odds_15 : decode cX6_odds 15 = .ok (.invokestatic 79, 3) := by decide +kernel
theorem dX6_odds_18 : decode cX6_odds 18 = .ok (.ifCond .eq 24, 3) := by decide +kernel
theorem dX6_odds_21 : decode cX6_odds 21 = .ok (.iload_n 3, 1) := by decide +kernel
theorem dX6_odds_22 : decode cX6_odds 22 = .ok (.iconst 0, 1) := by decide +kernel
theorem dX6_odds_23 : decode cX6_odds 23 = .ok (.sipush 999, 3) := by decide +kernel
theorem dX6_odds_26 : decode cX6_odds 26 = .ok (.invokestatic 79, 3) := by decide +kernel
theorem dX6_odds_29 : decode cX6_odds 29 = .ok (.ifCond .eq 13, 3) := by decide +kernel
theorem dX6_odds_32 : decode cX6_odds 32 = .ok (.iload 4, 2) := by decide +kernel
theorem dX6_odds_34 : decode cX6_odds 34 = .ok (.iconst 0, 1) := by decide +kernel
theorem dX6_odds_35 : decode cX6_odds 35 = .ok (.iconst 1, 1) := by decide +kernel
theorem dX6_odds_36 : decode cX6_odds 36 = .ok (.invokestatic 79, 3) := by decide +kernel
theorem dX6_odds_39 : decode cX6_odds 39 = .ok (.ifCond .ne 7, 3) := by decide +kernel
theorem dX6_odds_42 : decode cX6_odds 42 = .ok (.ldc2_w 231, 3) := by decide +kernel
theorem dX6_odds_45 : decode cX6_odds 45 = .ok (.lreturn, 1) := by decide +kernel
theorem dX6_odds_46 : decode cX6_odds 46 = .ok (.lconst 0, 1) := by decide +kernel
theorem dX6_odds_47 : decode cX6_odds 47 = .ok (.lstore 5, 2) := by decide +kernel
theorem dX6_odds_49 : decode cX6_odds 49 = .ok (.iconst 0, 1) := by decide +kernel
theorem dX6_odds_50 : decode cX6_odds 50 = .ok (.istore 7, 2) := by decide +kernel
theorem dX6_odds_52 : decode cX6_odds 52 = .ok (.iload 7, 2) := by decide +kernel
theorem dX6_odds_54 : decode cX6_odds 54 = .ok (.iload_n 2, 1) := by decide +kernel
theorem dX6_odds_55 : decode cX6_odds 55 = .ok (.if_icmp .ge 31, 3) := by decide +kernel
theorem dX6_odds_58 : decode cX6_odds 58 = .ok (.lload 5, 2) := by decide +kernel
theorem dX6_odds_60 : decode cX6_odds 60 = .ok (.aload_n 0, 1) := by decide +kernel
theorem dX6_odds_61 : decode cX6_odds 61 = .ok (.iload_n 1, 1) := by decide +kernel
theorem dX6_odds_62 : decode cX6_odds 62 = .ok (.iload 7, 2) := by decide +kernel
theorem dX6_odds_64 : decode cX6_odds 64 = .ok (.iadd, 1) := by decide +kernel
theorem dX6_odds_65 : decode cX6_odds 65 = .ok (.invokevirtual 274, 3) := by decide +kernel
theorem dX6_odds_68 : decode cX6_odds 68 = .ok (.iload_n 3, 1) := by decide +kernel
theorem dX6_odds_69 : decode cX6_odds 69 = .ok (.if_icmp .lt 7, 3) := by decide +kernel
theorem dX6_odds_72 : decode cX6_odds 72 = .ok (.lconst 1, 1) := by decide +kernel
theorem dX6_odds_73 : decode cX6_odds 73 = .ok (.goto 4, 3) := by decide +kernel
theorem dX6_odds_76 : decode cX6_odds 76 = .ok (.lconst 0, 1) := by decide +kernel
theorem dX6_odds_77 : decode cX6_odds 77 = .ok (.ladd, 1) := by decide +kernel
theorem dX6_odds_78 : decode cX6_odds 78 = .ok (.lstore 5, 2) := by decide +kernel
theorem dX6_odds_80 : decode cX6_odds 80 = .ok (.iinc 7 1, 3) := by decide +kernel
theorem dX6_odds_83 : decode cX6_odds 83 = .ok (.goto (-31), 3) := by decide +kernel
theorem dX6_odds_86 : decode cX6_odds 86 = .ok (.lload 5, 2) := by decide +kernel
theorem dX6_odds_88 : decode cX6_odds 88 = .ok (.iload_n 2, 1) := by decide +kernel
theorem dX6_odds_89 : decode cX6_odds 89 = .ok (.i2l, 1) := by decide +kernel
theorem dX6_odds_90 : decode cX6_odds 90 = .ok (.iload 4, 2) := by decide +kernel
theorem dX6_odds_92 : decode cX6_odds 92 = .ok (.invokestatic 253, 3) := by decide +kernel
theorem dX6_odds_95 : decode cX6_odds 95 = .ok (.lreturn, 1) := by decide +kernel
theorem dX6_image_0 : decode cX6_image 0 = .ok (.aload_n 0, 1) := by decide +kernel
theorem dX6_image_1 : decode cX6_image 1 = .ok (.iconst 1, 1) := by decide +kernel
theorem dX6_image_2 : decode cX6_image 2 = .ok (.putfield 277, 3) := by decide +kernel
theorem dX6_image_5 : decode cX6_image 5 = .ok (.iconst 0, 1) := by decide +kernel
theorem dX6_image_6 : decode cX6_image 6 = .ok (.istore_n 1, 1) := by decide +kernel
theorem dX6_image_7 : decode cX6_image 7 = .ok (.iload_n 1, 1) := by decide +kernel
theorem dX6_image_8 : decode cX6_image 8 = .ok (.bipush 30, 2) := by decide +kernel
theorem dX6_image_10 : decode cX6_image 10 = .ok (.if_icmp .ge 21, 3) := by decide +kernel
theorem dX6_image_13 : decode cX6_image 13 = .ok (.aload_n 0, 1) := by decide +kernel
theorem dX6_image_14 : decode cX6_image 14 = .ok (.getfield 34, 3) := by decide +kernel
theorem dX6_image_17 : decode cX6_image 17 = .ok (.iload_n 1, 1) := by decide +kernel
theorem dX6_image_18 : decode cX6_image 18 = .ok (.aload_n 0, 1) := by decide +kernel
theorem dX6_image_19 : decode cX6_image 19 = .ok (.getfield 16, 3) := by decide +kernel
theorem dX6_image_22 : decode cX6_image 22 = .ok (.iload_n 1, 1) := by decide +kernel
theorem dX6_image_23 : decode cX6_image 23 = .ok (.iaload, 1) := by decide +kernel
theorem dX6_image_24 : decode cX6_image 24 = .ok (.iastore, 1) := by decide +kernel
theorem dX6_image_25 : decode cX6_image 25 = .ok (.iinc 1 1, 3) := by decide +kernel
theorem dX6_image_28 : decode cX6_image 28 = .ok (.goto (-21), 3) := by decide +kernel
theorem dX6_image_31 : decode cX6_image 31 = .ok (.iconst 0, 1) := by decide +kernel
theorem dX6_image_32 : decode cX6_image 32 = .ok (.istore_n 1, 1) := by decide +kernel
theorem dX6_image_33 : decode cX6_image 33 = .ok (.iload_n 1, 1) := by decide +kernel
theorem dX6_image_34 : decode cX6_image 34 = .ok (.bipush 96, 2) := by decide +kernel
theorem dX6_image_36 : decode cX6_image 36 = .ok (.if_icmp .ge 24, 3) := by decide +kernel
theorem dX6_image_39 : decode cX6_image 39 = .ok (.aload_n 0, 1) := by decide +kernel
theorem dX6_image_40 : decode cX6_image 40 = .ok (.getfield 34, 3) := by decide +kernel
theorem dX6_image_43 : decode cX6_image 43 = .ok (.bipush 30, 2) := by decide +kernel
theorem dX6_image_45 : decode cX6_image 45 = .ok (.iload_n 1, 1) := by decide +kernel
theorem dX6_image_46 : decode cX6_image 46 = .ok (.iadd, 1) := by decide +kernel
theorem dX6_image_47 : decode cX6_image 47 = .ok (.aload_n 0, 1) := by decide +kernel
theorem dX6_image_48 : decode cX6_image 48 = .ok (.getfield 19, 3) := by decide +kernel
theorem dX6_image_51 : decode cX6_image 51 = .ok (.iload_n 1, 1) := by decide +kernel
theorem dX6_image_52 : decode cX6_image 52 = .ok (.iaload, 1) := by decide +kernel
theorem dX6_image_53 : decode cX6_image 53 = .ok (.iastore, 1) := by decide +kernel
theorem dX6_image_54 : decode cX6_image 54 = .ok (.iinc 1 1, 3) := by decide +kernel
theorem dX6_image_57 : decode cX6_image 57 = .ok (.goto (-24), 3) := by decide +kernel
theorem dX6_image_60 : decode cX6_image 60 = .ok (.iconst 0, 1) := by decide +kernel
theorem dX6_image_61 : decode cX6_image 61 = .ok (.istore_n 1, 1) := by decide +kernel
theorem dX6_image_62 : decode cX6_image 62 = .ok (.iload_n 1, 1) := by decide +kernel
theorem dX6_image_63 : decode cX6_image 63 = .ok (.bipush 6, 2) := by decide +kernel
theorem dX6_image_65 : decode cX6_image 65 = .ok (.if_icmp .ge 24, 3) := by decide +kernel
theorem dX6_image_68 : decode cX6_image 68 = .ok (.aload_n 0, 1) := by decide +kernel
theorem dX6_image_69 : decode cX6_image 69 = .ok (.getfield 34, 3) := by decide +kernel
theorem dX6_image_72 : decode cX6_image 72 = .ok (.bipush 126, 2) := by decide +kernel
theorem dX6_image_74 : decode cX6_image 74 = .ok (.iload_n 1, 1) := by decide +kernel
theorem dX6_image_75 : decode cX6_image 75 = .ok (.iadd, 1) := by decide +kernel
theorem dX6_image_76 : decode cX6_image 76 = .ok (.aload_n 0, 1) := by decide +kernel
theorem dX6_image_77 : decode cX6_image 77 = .ok (.getfield 22, 3) := by decide +kernel
theorem dX6_image_80 : decode cX6_image 80 = .ok (.iload_n 1, 1) := by decide +kernel
theorem dX6_image_81 : decode cX6_image 81 = .ok (.iaload, 1) := by decide +kernel
theorem dX6_image_82 : decode cX6_image 82 = .ok (.iastore, 1) := by decide +kernel
theorem dX6_image_83 : decode cX6_image 83 = .ok (.iinc 1 1, 3) := by decide +kernel
theorem dX6_image_86 : decode cX6_image 86 = .ok (.goto (-24), 3) := by decide +kernel
theorem dX6_image_89 : decode cX6_image 89 = .ok (.aload_n 0, 1) := by decide +kernel
theorem dX6_image_90 : decode cX6_image 90 = .ok (.aload_n 0, 1) := by decide +kernel
theorem dX6_image_91 : decode cX6_image 91 = .ok (.getfield 86, 3) := by decide +kernel
theorem dX6_image_94 : decode cX6_image 94 = .ok (.putfield 281, 3) := by decide +kernel
theorem dX6_image_97 : decode cX6_image 97 = .ok (.aload_n 0, 1) := by decide +kernel
theorem dX6_image_98 : decode cX6_image 98 = .ok (.getfield 37, 3) := by decide +kernel
theorem dX6_image_101 : decode cX6_image 101 = .ok (.iconst 0, 1) := by decide +kernel
theorem dX6_image_102 : decode cX6_image 102 = .ok (.aload_n 0, 1) := by decide +kernel
theorem dX6_image_103 : decode cX6_image 103 = .ok (.getfield 83, 3) := by decide +kernel
theorem dX6_image_106 : decode cX6_image 106 = .ok (.iastore, 1) := by decide +kernel
theorem dX6_image_107 : decode cX6_image 107 = .ok (.aload_n 0, 1) := by decide +kernel
theorem dX6_image_108 : decode cX6_image 108 = .ok (.getfield 37, 3) := by decide +kernel
theorem dX6_image_111 : decode cX6_image 111 = .ok (.iconst 1, 1) := by decide +kernel
theorem dX6_image_112 : decode cX6_image 112 = .ok (.aload_n 0, 1) := by decide +kernel
theorem dX6_image_113 : decode cX6_image 113 = .ok (.getfield 94, 3) := by decide +kernel
theorem dX6_image_116 : decode cX6_image 116 = .ok (.iastore, 1) := by decide +kernel
theorem dX6_image_117 : decode cX6_image 117 = .ok (.aload_n 0, 1) := by decide +kernel
theorem dX6_image_118 : decode cX6_image 118 = .ok (.getfield 37, 3) := by decide +kernel
theorem dX6_image_121 : decode cX6_image 121 = .ok (.iconst 2, 1) := by decide +kernel
theorem dX6_image_122 : decode cX6_image 122 = .ok (.aload_n 0, 1) := by decide +kernel
theorem dX6_image_123 : decode cX6_image 123 = .ok (.getfield 100, 3) := by decide +kernel
theorem dX6_image_126 : decode cX6_image 126 = .ok (.iastore, 1) := by decide +kernel
theorem dX6_image_127 : decode cX6_image 127 = .ok (.aload_n 0, 1) := by decide +kernel
theorem dX6_image_128 : decode cX6_image 128 = .ok (.getfield 83, 3) := by decide +kernel
theorem dX6_image_131 : decode cX6_image 131 = .ok (.ireturn, 1) := by decide +kernel
theorem dX6_back_0 : decode cX6_back 0 = .ok (.aload_n 0, 1) := by decide +kernel
theorem dX6_back_1 : decode cX6_back 1 = .ok (.getfield 277, 3) := by decide +kernel
theorem dX6_back_4 : decode cX6_back 4 = .ok (.ifCond .ne 6, 3) := by decide +kernel
theorem dX6_back_7 : decode cX6_back 7 = .ok (.bipush (-3), 2) := by decide +kernel
theorem dX6_back_9 : decode cX6_back 9 = .ok (.ireturn, 1) := by decide +kernel
theorem dX6_back_10 : decode cX6_back 10 = .ok (.iconst 0, 1) := by decide +kernel
theorem dX6_back_11 : decode cX6_back 11 = .ok (.istore_n 1, 1) := by decide +kernel
theorem dX6_back_12 : decode cX6_back 12 = .ok (.iload_n 1, 1) := by decide +kernel
theorem dX6_back_13 : decode cX6_back 13 = .ok (.bipush 30, 2) := by decide +kernel
theorem dX6_back_15 : decode cX6_back 15 = .ok (.if_icmp .ge 21, 3) := by decide +kernel
theorem dX6_back_18 : decode cX6_back 18 = .ok (.aload_n 0, 1) := by decide +kernel
theorem dX6_back_19 : decode cX6_back 19 = .ok (.getfield 16, 3) := by decide +kernel
theorem dX6_back_22 : decode cX6_back 22 = .ok (.iload_n 1, 1) := by decide +kernel
theorem dX6_back_23 : decode cX6_back 23 = .ok (.aload_n 0, 1) := by decide +kernel
theorem dX6_back_24 : decode cX6_back 24 = .ok (.getfield 34, 3) := by decide +kernel
theorem dX6_back_27 : decode cX6_back 27 = .ok (.iload_n 1, 1) := by decide +kernel
theorem dX6_back_28 : decode cX6_back 28 = .ok (.iaload, 1) := by decide +kernel
theorem dX6_back_29 : decode cX6_back 29 = .ok (.iastore, 1) := by decide +kernel
theorem dX6_back_30 : decode cX6_back 30 = .ok (.iinc 1 1, 3) := by decide +kernel
theorem dX6_back_33 : decode cX6_back 33 = .ok (.goto (-21), 3) := by decide +kernel
theorem dX6_back_36 : decode cX6_back 36 = .ok (.iconst 0, 1) := by decide +kernel
theorem dX6_back_37 : decode cX6_back 37 = .ok (.istore_n 1, 1) := by decide +kernel
theorem dX6_back_38 : decode cX6_back 38 = .ok (.iload_n 1, 1) := by decide +kernel
theorem dX6_back_39 : decode cX6_back 39 = .ok (.bipush 96, 2) := by decide +kernel
theorem dX6_back_41 : decode cX6_back 41 = .ok (.if_icmp .ge 24, 3) := by decide +kernel
theorem dX6_back_44 : decode cX6_back 44 = .ok (.aload_n 0, 1) := by decide +kernel
theorem dX6_back_45 : decode cX6_back 45 = .ok (.getfield 19, 3) := by decide +kernel
theorem dX6_back_48 : decode cX6_back 48 = .ok (.iload_n 1, 1) := by decide +kernel
theorem dX6_back_49 : decode cX6_back 49 = .ok (.aload_n 0, 1) := by decide +kernel
theorem dX6_back_50 : decode cX6_back 50 = .ok (.getfield 34, 3) := by decide +kernel
theorem dX6_back_53 : decode cX6_back 53 = .ok (.bipush 30, 2) := by decide +kernel
theorem dX6_back_55 : decode cX6_back 55 = .ok (.iload_n 1, 1) := by decide +kernel
theorem dX6_back_56 : decode cX6_back 56 = .ok (.iadd, 1) := by decide +kernel
theorem dX6_back_57 : decode cX6_back 57 = .ok (.iaload, 1) := by decide +kernel
theorem dX6_back_58 : decode cX6_back 58 = .ok (.iastore, 1) := by decide +kernel
theorem dX6_back_59 : decode cX6_back 59 = .ok (.iinc 1 1, 3) := by decide +kernel
theorem dX6_back_62 : decode cX6_back 62 = .ok (.goto (-24), 3) := by decide +kernel
theorem dX6_back_65 : decode cX6_back 65 = .ok (.iconst 0, 1) := by decide +kernel
theorem dX6_back_66 : decode cX6_back 66 = .ok (.istore_n 1, 1) := by decide +kernel
theorem dX6_back_67 : decode cX6_back 67 = .ok (.iload_n 1, 1) := by decide +kernel
theorem dX6_back_68 : decode cX6_back 68 = .ok (.bipush 6, 2) := by decide +kernel
theorem dX6_back_70 : decode cX6_back 70 = .ok (.if_icmp .ge 24, 3) := by decide +kernel
theorem dX6_back_73 : decode cX6_back 73 = .ok (.aload_n 0, 1) := by decide +kernel
theorem dX6_back_74 : decode cX6_back 74 = .ok (.getfield 22, 3) := by decide +kernel
theorem dX6_back_77 : decode cX6_back 77 = .ok (.iload_n 1, 1) := by decide +kernel
theorem dX6_back_78 : decode cX6_back 78 = .ok (.aload_n 0, 1) := by decide +kernel
theorem dX6_back_79 : decode cX6_back 79 = .ok (.getfield 34, 3) := by decide +kernel
theorem dX6_back_82 : decode cX6_back 82 = .ok (.bipush 126, 2) := by decide +kernel
theorem dX6_back_84 : decode cX6_back 84 = .ok (.iload_n 1, 1) := by decide +kernel
theorem dX6_back_85 : decode cX6_back 85 = .ok (.iadd, 1) := by decide +kernel
theorem dX6_back_86 : decode cX6_back 86 = .ok (.iaload, 1) := by decide +kernel
theorem dX6_back_87 : decode cX6_back 87 = .ok (.iastore, 1) := by decide +kernel
theorem dX6_back_88 : decode cX6_back 88 = .ok (.iinc 1 1, 3) := by decide +kernel
theorem dX6_back_91 : decode cX6_back 91 = .ok (.goto (-24), 3) := by decide +kernel
theorem dX6_back_94 : decode cX6_back 94 = .ok (.aload_n 0, 1) := by decide +kernel
theorem dX6_back_95 : decode cX6_back 95 = .ok (.aload_n 0, 1) := by decide +kernel
theorem dX6_back_96 : decode cX6_back 96 = .ok (.getfield 281, 3) := by decide +kernel
theorem dX6_back_99 : decode cX6_back 99 = .ok (.putfield 86, 3) := by decide +kernel
theorem dX6_back_102 : decode cX6_back 102 = .ok (.aload_n 0, 1) := by decide +kernel
theorem dX6_back_103 : decode cX6_back 103 = .ok (.aload_n 0, 1) := by decide +kernel
theorem dX6_back_104 : decode cX6_back 104 = .ok (.getfield 37, 3) := by decide +kernel
theorem dX6_back_107 : decode cX6_back 107 = .ok (.iconst 0, 1) := by decide +kernel
theorem dX6_back_108 : decode cX6_back 108 = .ok (.iaload, 1) := by decide +kernel
theorem dX6_back_109 : decode cX6_back 109 = .ok (.putfield 83, 3) := by decide +kernel
theorem dX6_back_112 : decode cX6_back 112 = .ok (.aload_n 0, 1) := by decide +kernel
theorem dX6_back_113 : decode cX6_back 113 = .ok (.aload_n 0, 1) := by decide +kernel
theorem dX6_back_114 : decode cX6_back 114 = .ok (.getfield 37, 3) := by decide +kernel
theorem dX6_back_117 : decode cX6_back 117 = .ok (.iconst 1, 1) := by decide +kernel
theorem dX6_back_118 : decode cX6_back 118 = .ok (.iaload, 1) := by decide +kernel
theorem dX6_back_119 : decode cX6_back 119 = .ok (.putfield 94, 3) := by decide +kernel
theorem dX6_back_122 : decode cX6_back 122 = .ok (.aload_n 0, 1) := by decide +kernel
theorem dX6_back_123 : decode cX6_back 123 = .ok (.aload_n 0, 1) := by decide +kernel
theorem dX6_back_124 : decode cX6_back 124 = .ok (.getfield 37, 3) := by decide +kernel
theorem dX6_back_127 : decode cX6_back 127 = .ok (.iconst 2, 1) := by decide +kernel
theorem dX6_back_128 : decode cX6_back 128 = .ok (.iaload, 1) := by decide +kernel
theorem dX6_back_129 : decode cX6_back 129 = .ok (.putfield 100, 3) := by decide +kernel
theorem dX6_back_132 : decode cX6_back 132 = .ok (.aload_n 0, 1) := by decide +kernel
theorem dX6_back_133 : decode cX6_back 133 = .ok (.getfield 83, 3) := by decide +kernel
theorem dX6_back_136 : decode cX6_back 136 = .ok (.ireturn, 1) := by decide +kernel
theorem dX6_sheet_0 : decode cX6_sheet 0 = .ok (.iload_n 1, 1) := by decide +kernel
theorem dX6_sheet_1 : decode cX6_sheet 1 = .ok (.iconst 0, 1) := by decide +kernel
theorem dX6_sheet_2 : decode cX6_sheet 2 = .ok (.iconst 3, 1) := by decide +kernel
theorem dX6_sheet_3 : decode cX6_sheet 3 = .ok (.invokestatic 79, 3) := by decide +kernel
theorem dX6_sheet_6 : decode cX6_sheet 6 = .ok (.ifCond .eq 23, 3) := by decide +kernel
theorem dX6_sheet_9 : decode cX6_sheet 9 = .ok (.iload_n 2, 1) := by decide +kernel
theorem dX6_sheet_10 : decode cX6_sheet 10 = .ok (.iconst (-1), 1) := by decide +kernel
theorem dX6_sheet_11 : decode cX6_sheet 11 = .ok (.iconst 2, 1) := by decide +kernel
theorem dX6_sheet_12 : decode cX6_sheet 12 = .ok (.invokestatic 79, 3) := by decide +kernel
theorem dX6_sheet_15 : decode cX6_sheet 15 = .ok (.ifCond .eq 14, 3) := by decide +kernel
theorem dX6_sheet_18 : decode cX6_sheet 18 = .ok (.iload_n 2, 1) := by decide +kernel
theorem dX6_sheet_19 : decode cX6_sheet 19 = .ok (.iconst (-1), 1) := by decide +kernel
theorem dX6_sheet_20 : decode cX6_sheet 20 = .ok (.if_icmp .eq 12, 3) := by decide +kernel
theorem dX6_sheet_23 : decode cX6_sheet 23 = .ok (.iload_n 3, 1) := by decide +kernel
theorem dX6_sheet_24 : decode cX6_sheet 24 = .ok (.bipush 40, 2) := by decide +kernel
theorem dX6_sheet_26 : decode cX6_sheet 26 = .ok (.if_icmp .le 6, 3) := by decide +kernel
theorem dX6_sheet_29 : decode cX6_sheet 29 = .ok (.bipush (-2), 2) := by decide +kernel
theorem dX6_sheet_31 : decode cX6_sheet 31 = .ok (.ireturn, 1) := by decide +kernel
theorem dX6_sheet_32 : decode cX6_sheet 32 = .ok (.iload_n 2, 1) := by decide +kernel
theorem dX6_sheet_33 : decode cX6_sheet 33 = .ok (.iconst (-1), 1) := by decide +kernel
theorem dX6_sheet_34 : decode cX6_sheet 34 = .ok (.if_icmp .eq 10, 3) := by decide +kernel
theorem dX6_sheet_37 : decode cX6_sheet 37 = .ok (.iload_n 3, 1) := by decide +kernel
theorem dX6_sheet_38 : decode cX6_sheet 38 = .ok (.ifCond .ge 6, 3) := by decide +kernel
theorem dX6_sheet_41 : decode cX6_sheet 41 = .ok (.bipush (-14), 2) := by decide +kernel
theorem dX6_sheet_43 : decode cX6_sheet 43 = .ok (.ireturn, 1) := by decide +kernel
theorem dX6_sheet_44 : decode cX6_sheet 44 = .ok (.aload_n 0, 1) := by decide +kernel
theorem dX6_sheet_45 : decode cX6_sheet 45 = .ok (.getfield 40, 3) := by decide +kernel
theorem dX6_sheet_48 : decode cX6_sheet 48 = .ok (.iload_n 1, 1) := by decide +kernel
theorem dX6_sheet_49 : decode cX6_sheet 49 = .ok (.iload_n 2, 1) := by decide +kernel
theorem dX6_sheet_50 : decode cX6_sheet 50 = .ok (.iastore, 1) := by decide +kernel
theorem dX6_sheet_51 : decode cX6_sheet 51 = .ok (.aload_n 0, 1) := by decide +kernel
theorem dX6_sheet_52 : decode cX6_sheet 52 = .ok (.getfield 43, 3) := by decide +kernel
theorem dX6_sheet_55 : decode cX6_sheet 55 = .ok (.iload_n 1, 1) := by decide +kernel
theorem dX6_sheet_56 : decode cX6_sheet 56 = .ok (.iload_n 2, 1) := by decide +kernel
theorem dX6_sheet_57 : decode cX6_sheet 57 = .ok (.iconst (-1), 1) := by decide +kernel
theorem dX6_sheet_58 : decode cX6_sheet 58 = .ok (.if_icmp .ne 7, 3) := by decide +kernel
theorem dX6_sheet_61 : decode cX6_sheet 61 = .ok (.iconst 0, 1) := by decide +kernel
theorem dX6_sheet_62 : decode cX6_sheet 62 = .ok (.goto 4, 3) := by decide +kernel
theorem dX6_sheet_65 : decode cX6_sheet 65 = .ok (.iload_n 3, 1) := by decide +kernel
theorem dX6_sheet_66 : decode cX6_sheet 66 = .ok (.iastore, 1) := by decide +kernel
theorem dX6_sheet_67 : decode cX6_sheet 67 = .ok (.iconst 0, 1) := by decide +kernel
theorem dX6_sheet_68 : decode cX6_sheet 68 = .ok (.istore 4, 2) := by decide +kernel
theorem dX6_sheet_70 : decode cX6_sheet 70 = .ok (.iload 4, 2) := by decide +kernel
theorem dX6_sheet_72 : decode cX6_sheet 72 = .ok (.bipush 40, 2) := by decide +kernel
theorem dX6_sheet_74 : decode cX6_sheet 74 = .ok (.if_icmp .ge 22, 3) := by decide +kernel
theorem dX6_sheet_77 : decode cX6_sheet 77 = .ok (.aload_n 0, 1) := by decide +kernel
theorem dX6_sheet_78 : decode cX6_sheet 78 = .ok (.getfield 46, 3) := by decide +kernel
theorem dX6_sheet_81 : decode cX6_sheet 81 = .ok (.bipush 40, 2) := by decide +kernel
theorem dX6_sheet_83 : decode cX6_sheet 83 = .ok (.iload_n 1, 1) := by decide +kernel
theorem dX6_sheet_84 : decode cX6_sheet 84 = .ok (.imul, 1) := by decide +kernel
theorem dX6_sheet_85 : decode cX6_sheet 85 = .ok (.iload 4, 2) := by decide +kernel
theorem dX6_sheet_87 : decode cX6_sheet 87 = .ok (.iadd, 1) := by decide +kernel
theorem dX6_sheet_88 : decode cX6_sheet 88 = .ok (.iconst 0, 1) := by decide +kernel
theorem dX6_sheet_89 : decode cX6_sheet 89 = .ok (.iastore, 1) := by decide +kernel
theorem dX6_sheet_90 : decode cX6_sheet 90 = .ok (.iinc 4 1, 3) := by decide +kernel
theorem dX6_sheet_93 : decode cX6_sheet 93 = .ok (.goto (-23), 3) := by decide +kernel
theorem dX6_sheet_96 : decode cX6_sheet 96 = .ok (.iconst 1, 1) := by decide +kernel
theorem dX6_sheet_97 : decode cX6_sheet 97 = .ok (.ireturn, 1) := by decide +kernel
theorem dX6_cell_0 : decode cX6_cell 0 = .ok (.iload_n 1, 1) := by decide +kernel
theorem dX6_cell_1 : decode cX6_cell 1 = .ok (.iconst 0, 1) := by decide +kernel
theorem dX6_cell_2 : decode cX6_cell 2 = .ok (.iconst 3, 1) := by decide +kernel
theorem dX6_cell_3 : decode cX6_cell 3 = .ok (.invokestatic 79, 3) := by decide +kernel
theorem dX6_cell_6 : decode cX6_cell 6 = .ok (.ifCond .ne 6, 3) := by decide +kernel
theorem dX6_cell_9 : decode cX6_cell 9 = .ok (.bipush (-2), 2) := by decide +kernel
theorem dX6_cell_11 : decode cX6_cell 11 = .ok (.ireturn, 1) := by decide +kernel
theorem dX6_cell_12 : decode cX6_cell 12 = .ok (.aload_n 0, 1) := by decide +kernel
theorem dX6_cell_13 : decode cX6_cell 13 = .ok (.getfield 40, 3) := by decide +kernel
theorem dX6_cell_16 : decode cX6_cell 16 = .ok (.iload_n 1, 1) := by decide +kernel
theorem dX6_cell_17 : decode cX6_cell 17 = .ok (.iaload, 1) := by decide +kernel
theorem dX6_cell_18 : decode cX6_cell 18 = .ok (.iconst (-1), 1) := by decide +kernel
theorem dX6_cell_19 : decode cX6_cell 19 = .ok (.if_icmp .ne 6, 3) := by decide +kernel
theorem dX6_cell_22 : decode cX6_cell 22 = .ok (.bipush (-11), 2) := by decide +kernel
theorem dX6_cell_24 : decode cX6_cell 24 = .ok (.ireturn, 1) := by decide +kernel
theorem dX6_cell_25 : decode cX6_cell 25 = .ok (.iload_n 2, 1) := by decide +kernel
theorem dX6_cell_26 : decode cX6_cell 26 = .ok (.iconst 0, 1) := by decide +kernel
theorem dX6_cell_27 : decode cX6_cell 27 = .ok (.aload_n 0, 1) := by decide +kernel
theorem dX6_cell_28 : decode cX6_cell 28 = .ok (.getfield 43, 3) := by decide +kernel
theorem dX6_cell_31 : decode cX6_cell 31 = .ok (.iload_n 1, 1) := by decide +kernel
theorem dX6_cell_32 : decode cX6_cell 32 = .ok (.iaload, 1) := by decide +kernel
theorem dX6_cell_33 : decode cX6_cell 33 = .ok (.iconst 1, 1) := by decide +kernel
theorem dX6_cell_34 : decode cX6_cell 34 = .ok (.isub, 1) := by decide +kernel
theorem dX6_cell_35 : decode cX6_cell 35 = .ok (.invokestatic 79, 3) := by decide +kernel
theorem dX6_cell_38 : decode cX6_cell 38 = .ok (.ifCond .ne 6, 3) := by decide +kernel
theorem dX6_cell_41 : decode cX6_cell 41 = .ok (.bipush (-12), 2) := by decide +kernel
theorem dX6_cell_43 : decode cX6_cell 43 = .ok (.ireturn, 1) := by decide +kernel
theorem dX6_cell_44 : decode cX6_cell 44 = .ok (.aload_n 0, 1) := by decide +kernel
theorem dX6_cell_45 : decode cX6_cell 45 = .ok (.getfield 46, 3) := by decide +kernel
theorem dX6_cell_48 : decode cX6_cell 48 = .ok (.bipush 40, 2) := by decide +kernel
theorem dX6_cell_50 : decode cX6_cell 50 = .ok (.iload_n 1, 1) := by decide +kernel
theorem dX6_cell_51 : decode cX6_cell 51 = .ok (.imul, 1) := by decide +kernel
theorem dX6_cell_52 : decode cX6_cell 52 = .ok (.iload_n 2, 1) := by decide +kernel
theorem dX6_cell_53 : decode cX6_cell 53 = .ok (.iadd, 1) := by decide +kernel
theorem dX6_cell_54 : decode cX6_cell 54 = .ok (.aload_n 0, 1) := by decide +kernel
theorem dX6_cell_55 : decode cX6_cell 55 = .ok (.getfield 40, 3) := by decide +kernel
theorem dX6_cell_58 : decode cX6_cell 58 = .ok (.iload_n 1, 1) := by decide +kernel
theorem dX6_cell_59 : decode cX6_cell 59 = .ok (.iaload, 1) := by decide +kernel
theorem dX6_cell_60 : decode cX6_cell 60 = .ok (.ifCond .ne 8, 3) := by decide +kernel
theorem dX6_cell_63 : decode cX6_cell 63 = .ok (.iload_n 3, 1) := by decide +kernel
theorem dX6_cell_64 : decode cX6_cell 64 = .ok (.i2b, 1) := by decide +kernel
theorem dX6_cell_65 : decode cX6_cell 65 = .ok (.goto 19, 3) := by decide +kernel
theorem dX6_cell_68 : decode cX6_cell 68 = .ok (.aload_n 0, 1) := by decide +kernel
theorem dX6_cell_69 : decode cX6_cell 69 = .ok (.getfield 40, 3) := by decide +kernel
theorem dX6_cell_72 : decode cX6_cell 72 = .ok (.iload_n 1, 1) := by decide +kernel
theorem dX6_cell_73 : decode cX6_cell 73 = .ok (.iaload, 1) := by decide +kernel
theorem dX6_cell_74 : decode cX6_cell 74 = .ok (.iconst 1, 1) := by decide +kernel
theorem dX6_cell_75 : decode cX6_cell 75 = .ok (.if_icmp .ne 8, 3) := by decide +kernel
theorem dX6_cell_78 : decode cX6_cell 78 = .ok (.iload_n 3, 1) := by decide +kernel
theorem dX6_cell_79 : decode cX6_cell 79 = .ok (.i2s, 1) := by decide +kernel
theorem dX6_cell_80 : decode cX6_cell 80 = .ok (.goto 4, 3) := by decide +kernel
theorem dX6_cell_83 : decode cX6_cell 83 = .ok (.iload_n 3, 1) := by decide +kernel
theorem dX6_cell_84 : decode cX6_cell 84 = .ok (.iastore, 1) := by decide +kernel
theorem dX6_cell_85 : decode cX6_cell 85 = .ok (.iconst 1, 1) := by decide +kernel
theorem dX6_cell_86 : decode cX6_cell 86 = .ok (.ireturn, 1) := by decide +kernel
theorem dX6_copy_0 : decode cX6_copy 0 = .ok (.iload_n 1, 1) := by decide +kernel
theorem dX6_copy_1 : decode cX6_copy 1 = .ok (.iconst 0, 1) := by decide +kernel
theorem dX6_copy_2 : decode cX6_copy 2 = .ok (.iconst 3, 1) := by decide +kernel
theorem dX6_copy_3 : decode cX6_copy 3 = .ok (.invokestatic 79, 3) := by decide +kernel
theorem dX6_copy_6 : decode cX6_copy 6 = .ok (.ifCond .eq 12, 3) := by decide +kernel
theorem dX6_copy_9 : decode cX6_copy 9 = .ok (.iload_n 3, 1) := by decide +kernel
theorem dX6_copy_10 : decode cX6_copy 10 = .ok (.iconst 0, 1) := by decide +kernel
theorem dX6_copy_11 : decode cX6_copy 11 = .ok (.iconst 3, 1) := by decide +kernel
theorem dX6_copy_12 : decode cX6_copy 12 = .ok (.invokestatic 79, 3) := by decide +kernel
theorem dX6_copy_15 : decode cX6_copy 15 = .ok (.ifCond .ne 6, 3) := by decide +kernel
theorem dX6_copy_18 : decode cX6_copy 18 = .ok (.bipush (-2), 2) := by decide +kernel
theorem dX6_copy_20 : decode cX6_copy 20 = .ok (.ireturn, 1) := by decide +kernel
theorem dX6_copy_21 : decode cX6_copy 21 = .ok (.aload_n 0, 1) := by decide +kernel
theorem dX6_copy_22 : decode cX6_copy 22 = .ok (.getfield 40, 3) := by decide +kernel
theorem dX6_copy_25 : decode cX6_copy 25 = .ok (.iload_n 1, 1) := by decide +kernel
theorem dX6_copy_26 : decode cX6_copy 26 = .ok (.iaload, 1) := by decide +kernel
theorem dX6_copy_27 : decode cX6_copy 27 = .ok (.iconst (-1), 1) := by decide +kernel
theorem dX6_copy_28 : decode cX6_copy 28 = .ok (.if_icmp .eq 13, 3) := by decide +kernel
theorem dX6_copy_31 : decode cX6_copy 31 = .ok (.aload_n 0, 1) := by decide +kernel
theorem dX6_copy_32 : decode cX6_copy 32 = .ok (.getfield 40, 3) := by decide +kernel
theorem dX6_copy_35 : decode cX6_copy 35 = .ok (.iload_n 3, 1) := by decide +kernel
theorem dX6_copy_36 : decode cX6_copy 36 = .ok (.iaload, 1) := by decide +kernel
theorem dX6_copy_37 : decode cX6_copy 37 = .ok (.iconst (-1), 1) := by decide +kernel
theorem dX6_copy_38 : decode cX6_copy 38 = .ok (.if_icmp .ne 6, 3) := by decide +kernel
theorem dX6_copy_41 : decode cX6_copy 41 = .ok (.bipush (-11), 2) := by decide +kernel
theorem dX6_copy_43 : decode cX6_copy 43 = .ok (.ireturn, 1) := by decide +kernel
theorem dX6_copy_44 : decode cX6_copy 44 = .ok (.aload_n 0, 1) := by decide +kernel
theorem dX6_copy_45 : decode cX6_copy 45 = .ok (.getfield 40, 3) := by decide +kernel
theorem dX6_copy_48 : decode cX6_copy 48 = .ok (.iload_n 1, 1) := by decide +kernel
theorem dX6_copy_49 : decode cX6_copy 49 = .ok (.iaload, 1) := by decide +kernel
theorem dX6_copy_50 : decode cX6_copy 50 = .ok (.aload_n 0, 1) := by decide +kernel
theorem dX6_copy_51 : decode cX6_copy 51 = .ok (.getfield 40, 3) := by decide +kernel
theorem dX6_copy_54 : decode cX6_copy 54 = .ok (.iload_n 3, 1) := by decide +kernel
theorem dX6_copy_55 : decode cX6_copy 55 = .ok (.iaload, 1) := by decide +kernel
theorem dX6_copy_56 : decode cX6_copy 56 = .ok (.if_icmp .eq 6, 3) := by decide +kernel
theorem dX6_copy_59 : decode cX6_copy 59 = .ok (.bipush (-13), 2) := by decide +kernel
theorem dX6_copy_61 : decode cX6_copy 61 = .ok (.ireturn, 1) := by decide +kernel
theorem dX6_copy_62 : decode cX6_copy 62 = .ok (.iload 5, 2) := by decide +kernel
theorem dX6_copy_64 : decode cX6_copy 64 = .ok (.ifCond .lt 60, 3) := by decide +kernel
theorem dX6_copy_67 : decode cX6_copy 67 = .ok (.iload_n 2, 1) := by decide +kernel
theorem dX6_copy_68 : decode cX6_copy 68 = .ok (.ifCond .lt 56, 3) := by decide +kernel
theorem dX6_copy_71 : decode cX6_copy 71 = .ok (.iload 4, 2) := by decide +kernel
theorem dX6_copy_73 : decode cX6_copy 73 = .ok (.ifCond .lt 51, 3) := by decide +kernel
theorem dX6_copy_76 : decode cX6_copy 76 = .ok (.iload_n 2, 1) := by decide +kernel
theorem dX6_copy_77 : decode cX6_copy 77 = .ok (.aload_n 0, 1) := by decide +kernel
theorem dX6_copy_78 : decode cX6_copy 78 = .ok (.getfield 43, 3) := by decide +kernel
theorem dX6_copy_81 : decode cX6_copy 81 = .ok (.iload_n 1, 1) := by decide +kernel
theorem dX6_copy_82 : decode cX6_copy 82 = .ok (.iaload, 1) := by decide +kernel
theorem dX6_copy_83 : decode cX6_copy 83 = .ok (.if_icmp .gt 41, 3) := by decide +kernel
theorem dX6_copy_86 : decode cX6_copy 86 = .ok (.iload 4, 2) := by decide +kernel
theorem dX6_copy_88 : decode cX6_copy 88 = .ok (.aload_n 0, 1) := by decide +kernel
theorem dX6_copy_89 : decode cX6_copy 89 = .ok (.getfield 43, 3) := by decide +kernel
theorem dX6_copy_92 : decode cX6_copy 92 = .ok (.iload_n 3, 1) := by decide +kernel
theorem dX6_copy_93 : decode cX6_copy 93 = .ok (.iaload, 1) := by decide +kernel
theorem dX6_copy_94 : decode cX6_copy 94 = .ok (.if_icmp .gt 30, 3) := by decide +kernel
theorem dX6_copy_97 : decode cX6_copy 97 = .ok (.iload 5, 2) := by decide +kernel
theorem dX6_copy_99 : decode cX6_copy 99 = .ok (.aload_n 0, 1) := by decide +kernel
theorem dX6_copy_100 : decode cX6_copy 100 = .ok (.getfield 43, 3) := by decide +kernel
theorem dX6_copy_103 : decode cX6_copy 103 = .ok (.iload_n 1, 1) := by decide +kernel
theorem dX6_copy_104 : decode cX6_copy 104 = .ok (.iaload, 1) := by decide +kernel
theorem dX6_copy_105 : decode cX6_copy 105 = .ok (.iload_n 2, 1) := by decide +kernel
theorem dX6_copy_106 : decode cX6_copy 106 = .ok (.isub, 1) := by decide +kernel
theorem dX6_copy_107 : decode cX6_copy 107 = .ok (.if_icmp .gt 17, 3) := by decide +kernel
theorem dX6_copy_110 : decode cX6_copy 110 = .ok (.iload 5, 2) := by decide +kernel
theorem dX6_copy_112 : decode cX6_copy 112 = .ok (.aload_n 0, 1) := by decide +kernel
theorem dX6_copy_113 : decode cX6_copy 113 = .ok (.getfield 43, 3) := by decide +kernel
theorem dX6_copy_116 : decode cX6_copy 116 = .ok (.iload_n 3, 1) := by decide +kernel
theorem dX6_copy_117 : decode cX6_copy 117 = .ok (.iaload, 1) := by decide +kernel
theorem dX6_copy_118 : decode cX6_copy 118 = .ok (.iload 4, 2) := by decide +kernel
theorem dX6_copy_120 : decode cX6_copy 120 = .ok (.isub, 1) := by decide +kernel
theorem dX6_copy_121 : decode cX6_copy 121 = .ok (.if_icmp .le 6, 3) := by decide +kernel
theorem dX6_copy_124 : decode cX6_copy 124 = .ok (.bipush (-12), 2) := by decide +kernel
theorem dX6_copy_126 : decode cX6_copy 126 = .ok (.ireturn, 1) := by decide +kernel
theorem dX6_copy_127 : decode cX6_copy 127 = .ok (.bipush 40, 2) := by decide +kernel
theorem dX6_copy_129 : decode cX6_copy 129 = .ok (.iload_n 1, 1) := by decide +kernel
theorem dX6_copy_130 : decode cX6_copy 130 = .ok (.imul, 1) := by decide +kernel
theorem dX6_copy_131 : decode cX6_copy 131 = .ok (.iload_n 2, 1) := by decide +kernel
theorem dX6_copy_132 : decode cX6_copy 132 = .ok (.iadd, 1) := by decide +kernel
theorem dX6_copy_133 : decode cX6_copy 133 = .ok (.istore 6, 2) := by decide +kernel
theorem dX6_copy_135 : decode cX6_copy 135 = .ok (.bipush 40, 2) := by decide +kernel
theorem dX6_copy_137 : decode cX6_copy 137 = .ok (.iload_n 3, 1) := by decide +kernel
theorem dX6_copy_138 : decode cX6_copy 138 = .ok (.imul, 1) := by decide +kernel
theorem dX6_copy_139 : decode cX6_copy 139 = .ok (.iload 4, 2) := by decide +kernel
theorem dX6_copy_141 : decode cX6_copy 141 = .ok (.iadd, 1) := by decide +kernel
theorem dX6_copy_142 : decode cX6_copy 142 = .ok (.istore 7, 2) := by decide +kernel
theorem dX6_copy_144 : decode cX6_copy 144 = .ok (.iconst 0, 1) := by decide +kernel
theorem dX6_copy_145 : decode cX6_copy 145 = .ok (.istore 8, 2) := by decide +kernel
theorem dX6_copy_147 : decode cX6_copy 147 = .ok (.iload 8, 2) := by decide +kernel
theorem dX6_copy_149 : decode cX6_copy 149 = .ok (.iload 5, 2) := by decide +kernel
theorem dX6_copy_151 : decode cX6_copy 151 = .ok (.if_icmp .ge 50, 3) := by decide +kernel
theorem dX6_copy_154 : decode cX6_copy 154 = .ok (.iload 6, 2) := by decide +kernel
theorem dX6_copy_156 : decode cX6_copy 156 = .ok (.iload 7, 2) := by decide +kernel
theorem dX6_copy_158 : decode cX6_copy 158 = .ok (.if_icmp .ge 13, 3) := by decide +kernel
theorem dX6_copy_161 : decode cX6_copy 161 = .ok (.iload 5, 2) := by decide +kernel
theorem dX6_copy_163 : decode cX6_copy 163 = .ok (.iconst 1, 1) := by decide +kernel
theorem dX6_copy_164 : decode cX6_copy 164 = .ok (.isub, 1) := by decide +kernel
theorem dX6_copy_165 : decode cX6_copy 165 = .ok (.iload 8, 2) := by decide +kernel
theorem dX6_copy_167 : decode cX6_copy 167 = .ok (.isub, 1) := by decide +kernel
theorem dX6_copy_168 : decode cX6_copy 168 = .ok (.goto 5, 3) := by decide +kernel
theorem dX6_copy_171 : decode cX6_copy 171 = .ok (.iload 8, 2) := by decide +kernel
theorem dX6_copy_173 : decode cX6_copy 173 = .ok (.istore 9, 2) := by decide +kernel
theorem dX6_copy_175 : decode cX6_copy 175 = .ok (.aload_n 0, 1) := by decide +kernel
theorem dX6_copy_176 : decode cX6_copy 176 = .ok (.getfield 46, 3) := by decide +kernel
theorem dX6_copy_179 : decode cX6_copy 179 = .ok (.iload 7, 2) := by decide +kernel
theorem dX6_copy_181 : decode cX6_copy 181 = .ok (.iload 9, 2) := by decide +kernel
theorem dX6_copy_183 : decode cX6_copy 183 = .ok (.iadd, 1) := by decide +kernel
theorem dX6_copy_184 : decode cX6_copy 184 = .ok (.aload_n 0, 1) := by decide +kernel
theorem dX6_copy_185 : decode cX6_copy 185 = .ok (.getfield 46, 3) := by decide +kernel
theorem dX6_copy_188 : decode cX6_copy 188 = .ok (.iload 6, 2) := by decide +kernel
theorem dX6_copy_190 : decode cX6_copy 190 = .ok (.iload 9, 2) := by decide +kernel
theorem dX6_copy_192 : decode cX6_copy 192 = .ok (.iadd, 1) := by decide +kernel
theorem dX6_copy_193 : decode cX6_copy 193 = .ok (.iaload, 1) := by decide +kernel
theorem dX6_copy_194 : decode cX6_copy 194 = .ok (.iastore, 1) := by decide +kernel
theorem dX6_copy_195 : decode cX6_copy 195 = .ok (.iinc 8 1, 3) := by decide +kernel
theorem dX6_copy_198 : decode cX6_copy 198 = .ok (.goto (-51), 3) := by decide +kernel
theorem dX6_copy_201 : decode cX6_copy 201 = .ok (.iload 5, 2) := by decide +kernel
theorem dX6_copy_203 : decode cX6_copy 203 = .ok (.ireturn, 1) := by decide +kernel
theorem dX6_sleepersBy_0 : decode cX6_sleepersBy 0 = .ok (.iload_n 1, 1) := by decide +kernel
theorem dX6_sleepersBy_1 : decode cX6_sleepersBy 1 = .ok (.iconst 0, 1) := by decide +kernel
theorem dX6_sleepersBy_2 : decode cX6_sleepersBy 2 = .ok (.iconst 3, 1) := by decide +kernel
theorem dX6_sleepersBy_3 : decode cX6_sleepersBy 3 = .ok (.invokestatic 79, 3) := by decide +kernel
theorem dX6_sleepersBy_6 : decode cX6_sleepersBy 6 = .ok (.ifCond .eq 23, 3) := by decide +kernel
theorem dX6_sleepersBy_9 : decode cX6_sleepersBy 9 = .ok (.iload_n 2, 1) := by decide +kernel
theorem dX6_sleepersBy_10 : decode cX6_sleepersBy 10 = .ok (.iconst 0, 1) := by decide +kernel
theorem dX6_sleepersBy_11 : decode cX6_sleepersBy 11 = .ok (.iconst 2, 1) := by decide +kernel
theorem dX6_sleepersBy_12 : decode cX6_sleepersBy 12 = .ok (.invokestatic 79, 3) := by decide +kernel
theorem dX6_sleepersBy_15 : decode cX6_sleepersBy 15 = .ok (.ifCond .eq 14, 3) := by decide +kernel
theorem dX6_sleepersBy_18 : decode cX6_sleepersBy 18 = .ok (.iload 4, 2) := by decide +kernel
theorem dX6_sleepersBy_20 : decode cX6_sleepersBy 20 = .ok (.iconst 0, 1) := by decide +kernel
theorem dX6_sleepersBy_21 : decode cX6_sleepersBy 21 = .ok (.bipush 6, 2) := by decide +kernel
theorem dX6_sleepersBy_23 : decode cX6_sleepersBy 23 = .ok (.invokestatic 79, 3) := by decide +kernel
theorem dX6_sleepersBy_26 : decode cX6_sleepersBy 26 = .ok (.ifCond .ne 6, 3) := by decide +kernel
theorem dX6_sleepersBy_29 : decode cX6_sleepersBy 29 = .ok (.bipush (-2), 2) := by decide +kernel
theorem dX6_sleepersBy_31 : decode cX6_sleepersBy 31 = .ok (.ireturn, 1) := by decide +kernel
theorem dX6_sleepersBy_32 : decode cX6_sleepersBy 32 = .ok (.aload_n 0, 1) := by decide +kernel
theorem dX6_sleepersBy_33 : decode cX6_sleepersBy 33 = .ok (.getfield 40, 3) := by decide +kernel
theorem dX6_sleepersBy_36 : decode cX6_sleepersBy 36 = .ok (.iload_n 1, 1) := by decide +kernel
theorem dX6_sleepersBy_37 : decode cX6_sleepersBy 37 = .ok (.iaload, 1) := by decide +kernel
theorem dX6_sleepersBy_38 : decode cX6_sleepersBy 38 = .ok (.iconst (-1), 1) := by decide +kernel
theorem dX6_sleepersBy_39 : decode cX6_sleepersBy 39 = .ok (.if_icmp .ne 6, 3) := by decide +kernel
theorem dX6_sleepersBy_42 : decode cX6_sleepersBy 42 = .ok (.bipush (-11), 2) := by decide +kernel
theorem dX6_sleepersBy_44 : decode cX6_sleepersBy 44 = .ok (.ireturn, 1) := by decide +kernel
theorem dX6_sleepersBy_45 : decode cX6_sleepersBy 45 = .ok (.aload_n 0, 1) := by decide +kernel
theorem dX6_sleepersBy_46 : decode cX6_sleepersBy 46 = .ok (.getfield 40, 3) := by decide +kernel
theorem dX6_sleepersBy_49 : decode cX6_sleepersBy 49 = .ok (.iload_n 1, 1) := by decide +kernel
theorem dX6_sleepersBy_50 : decode cX6_sleepersBy 50 = .ok (.iaload, 1) := by decide +kernel
theorem dX6_sleepersBy_51 : decode cX6_sleepersBy 51 = .ok (.iload_n 2, 1) := by decide +kernel
theorem dX6_sleepersBy_52 : decode cX6_sleepersBy 52 = .ok (.if_icmp .eq 6, 3) := by decide +kernel
theorem dX6_sleepersBy_55 : decode cX6_sleepersBy 55 = .ok (.bipush (-13), 2) := by decide +kernel
theorem dX6_sleepersBy_57 : decode cX6_sleepersBy 57 = .ok (.ireturn, 1) := by decide +kernel
theorem dX6_sleepersBy_58 : decode cX6_sleepersBy 58 = .ok (.iconst 0, 1) := by decide +kernel
theorem dX6_sleepersBy_59 : decode cX6_sleepersBy 59 = .ok (.istore 5, 2) := by decide +kernel
theorem dX6_sleepersBy_61 : decode cX6_sleepersBy 61 = .ok (.iconst 0, 1) := by decide +kernel
theorem dX6_sleepersBy_62 : decode cX6_sleepersBy 62 = .ok (.istore 6, 2) := by decide +kernel
theorem dX6_sleepersBy_64 : decode cX6_sleepersBy 64 = .ok (.iload 6, 2) := by decide +kernel
theorem dX6_sleepersBy_66 : decode cX6_sleepersBy 66 = .ok (.iload 4, 2) := by decide +kernel
theorem dX6_sleepersBy_68 : decode cX6_sleepersBy 68 = .ok (.if_icmp .ge 85, 3) := by decide +kernel
theorem dX6_sleepersBy_71 : decode cX6_sleepersBy 71 = .ok (.iload_n 3, 1) := by decide +kernel
theorem dX6_sleepersBy_72 : decode cX6_sleepersBy 72 = .ok (.iconst 2, 1) := by decide +kernel
theorem dX6_sleepersBy_73 : decode cX6_sleepersBy 73 = .ok (.iload 6, 2) := by decide +kernel
theorem dX6_sleepersBy_75 : decode cX6_sleepersBy 75 = .ok (.imul, 1) := by decide +kernel
theorem dX6_sleepersBy_76 : decode cX6_sleepersBy 76 = .ok (.iadd, 1) := by decide +kernel
theorem dX6_sleepersBy_77 : decode cX6_sleepersBy 77 = .ok (.istore 7, 2) := by decide +kernel
theorem dX6_sleepersBy_79 : decode cX6_sleepersBy 79 = .ok (.iload_n 3, 1) := by decide +kernel
theorem dX6_sleepersBy_80 : decode cX6_sleepersBy 80 = .ok (.ifCond .lt 22, 3) := by decide +kernel
theorem dX6_sleepersBy_83 : decode cX6_sleepersBy 83 = .ok (.iload 7, 2) := by decide +kernel
theorem dX6_sleepersBy_85 : decode cX6_sleepersBy 85 = .ok (.iload_n 3, 1) := by decide +kernel
theorem dX6_sleepersBy_86 : decode cX6_sleepersBy 86 = .ok (.if_icmp .lt 16, 3) := by decide +kernel
theorem dX6_sleepersBy_89 : decode cX6_sleepersBy 89 = .ok (.iload 7, 2) := by decide +kernel
theorem dX6_sleepersBy_91 : decode cX6_sleepersBy 91 = .ok (.aload_n 0, 1) := by decide +kernel
theorem dX6_sleepersBy_92 : decode cX6_sleepersBy 92 = .ok (.getfield 43, 3) := by decide +kernel
theorem dX6_sleepersBy_95 : decode cX6_sleepersBy 95 = .ok (.iload_n 1, 1) := by decide +kernel
theorem dX6_sleepersBy_96 : decode cX6_sleepersBy 96 = .ok (.iaload, 1) := by decide +kernel
theorem dX6_sleepersBy_97 : decode cX6_sleepersBy 97 = .ok (.iconst 2, 1) := by decide +kernel
theorem dX6_sleepersBy_98 : decode cX6_sleepersBy 98 = .ok (.isub, 1) := by decide +kernel
theorem dX6_sleepersBy_99 : decode cX6_sleepersBy 99 = .ok (.if_icmp .le 6, 3) := by decide +kernel
theorem dX6_sleepersBy_102 : decode cX6_sleepersBy 102 = .ok (.bipush (-12), 2) := by decide +kernel
theorem dX6_sleepersBy_104 : decode cX6_sleepersBy 104 = .ok (.ireturn, 1) := by decide +kernel
theorem dX6_sleepersBy_105 : decode cX6_sleepersBy 105 = .ok (.bipush 40, 2) := by decide +kernel
theorem dX6_sleepersBy_107 : decode cX6_sleepersBy 107 = .ok (.iload_n 1, 1) := by decide +kernel
theorem dX6_sleepersBy_108 : decode cX6_sleepersBy 108 = .ok (.imul, 1) := by decide +kernel
theorem dX6_sleepersBy_109 : decode cX6_sleepersBy 109 = .ok (.iload 7, 2) := by decide +kernel
theorem dX6_sleepersBy_111 : decode cX6_sleepersBy 111 = .ok (.iadd, 1) := by decide +kernel
theorem dX6_sleepersBy_112 : decode cX6_sleepersBy 112 = .ok (.istore 8, 2) := by decide +kernel
theorem dX6_sleepersBy_114 : decode cX6_sleepersBy 114 = .ok (.iload 5, 2) := by decide +kernel
theorem dX6_sleepersBy_116 : decode cX6_sleepersBy 116 = .ok (.aload_n 0, 1) := by decide +kernel
theorem dX6_sleepersBy_117 : decode cX6_sleepersBy 117 = .ok (.aload_n 0, 1) := by decide +kernel
theorem dX6_sleepersBy_118 : decode cX6_sleepersBy 118 = .ok (.getfield 46, 3) := by decide +kernel
theorem dX6_sleepersBy_121 : decode cX6_sleepersBy 121 = .ok (.iload 8, 2) := by decide +kernel
theorem dX6_sleepersBy_123 : decode cX6_sleepersBy 123 = .ok (.iaload, 1) := by decide +kernel
theorem dX6_sleepersBy_124 : decode cX6_sleepersBy 124 = .ok (.aload_n 0, 1) := by decide +kernel
theorem dX6_sleepersBy_125 : decode cX6_sleepersBy 125 = .ok (.getfield 46, 3) := by decide +kernel
theorem dX6_sleepersBy_128 : decode cX6_sleepersBy 128 = .ok (.iload 8, 2) := by decide +kernel
theorem dX6_sleepersBy_130 : decode cX6_sleepersBy 130 = .ok (.iconst 1, 1) := by decide +kernel
theorem dX6_sleepersBy_131 : decode cX6_sleepersBy 131 = .ok (.iadd, 1) := by decide +kernel
theorem dX6_sleepersBy_132 : decode cX6_sleepersBy 132 = .ok (.iaload, 1) := by decide +kernel
theorem dX6_sleepersBy_133 : decode cX6_sleepersBy 133 = .ok (.invokevirtual 284, 3) := by decide +kernel
theorem dX6_sleepersBy_136 : decode cX6_sleepersBy 136 = .ok (.ifCond .lt 7, 3) := by decide +kernel
theorem dX6_sleepersBy_139 : decode cX6_sleepersBy 139 = .ok (.iconst 1, 1) := by decide +kernel
theorem dX6_sleepersBy_140 : decode cX6_sleepersBy 140 = .ok (.goto 4, 3) := by decide +kernel
theorem dX6_sleepersBy_143 : decode cX6_sleepersBy 143 = .ok (.iconst 0, 1) := by decide +kernel
theorem dX6_sleepersBy_144 : decode cX6_sleepersBy 144 = .ok (.iadd, 1) := by decide +kernel
theorem dX6_sleepersBy_145 : decode cX6_sleepersBy 145 = .ok (.istore 5, 2) := by decide +kernel
theorem dX6_sleepersBy_147 : decode cX6_sleepersBy 147 = .ok (.iinc 6 1, 3) := by decide +kernel
theorem dX6_sleepersBy_150 : decode cX6_sleepersBy 150 = .ok (.goto (-86), 3) := by decide +kernel
theorem dX6_sleepersBy_153 : decode cX6_sleepersBy 153 = .ok (.iload 5, 2) := by decide +kernel
theorem dX6_sleepersBy_155 : decode cX6_sleepersBy 155 = .ok (.ireturn, 1) := by decide +kernel
theorem dX6_isUnder_0 : decode cX6_isUnder 0 = .ok (.iload_n 1, 1) := by decide +kernel
theorem dX6_isUnder_1 : decode cX6_isUnder 1 = .ok (.ifCond .eq 28, 3) := by decide +kernel
theorem dX6_isUnder_4 : decode cX6_isUnder 4 = .ok (.iload_n 0, 1) := by decide +kernel
theorem dX6_isUnder_5 : decode cX6_isUnder 5 = .ok (.iload_n 1, 1) := by decide +kernel
theorem dX6_isUnder_6 : decode cX6_isUnder 6 = .ok (.if_icmp .eq 23, 3) := by decide +kernel
theorem dX6_isUnder_9 : decode cX6_isUnder 9 = .ok (.iload_n 1, 1) := by decide +kernel
theorem dX6_isUnder_10 : decode cX6_isUnder 10 = .ok (.iconst 1, 1) := by decide +kernel
theorem dX6_isUnder_11 : decode cX6_isUnder 11 = .ok (.if_icmp .ne 8, 3) := by decide +kernel
theorem dX6_isUnder_14 : decode cX6_isUnder 14 = .ok (.iload_n 0, 1) := by decide +kernel
theorem dX6_isUnder_15 : decode cX6_isUnder 15 = .ok (.iconst 3, 1) := by decide +kernel
theorem dX6_isUnder_16 : decode cX6_isUnder 16 = .ok (.if_icmp .eq 13, 3) := by decide +kernel
theorem dX6_isUnder_19 : decode cX6_isUnder 19 = .ok (.iload_n 1, 1) := by decide +kernel
theorem dX6_isUnder_20 : decode cX6_isUnder 20 = .ok (.iconst 2, 1) := by decide +kernel
theorem dX6_isUnder_21 : decode cX6_isUnder 21 = .ok (.if_icmp .ne 12, 3) := by decide +kernel
theorem dX6_isUnder_24 : decode cX6_isUnder 24 = .ok (.iload_n 0, 1) := by decide +kernel
theorem dX6_isUnder_25 : decode cX6_isUnder 25 = .ok (.iconst 4, 1) := by decide +kernel
theorem dX6_isUnder_26 : decode cX6_isUnder 26 = .ok (.if_icmp .ne 7, 3) := by decide +kernel
theorem dX6_isUnder_29 : decode cX6_isUnder 29 = .ok (.iconst 1, 1) := by decide +kernel
theorem dX6_isUnder_30 : decode cX6_isUnder 30 = .ok (.goto 4, 3) := by decide +kernel
theorem dX6_isUnder_33 : decode cX6_isUnder 33 = .ok (.iconst 0, 1) := by decide +kernel
theorem dX6_isUnder_34 : decode cX6_isUnder 34 = .ok (.ireturn, 1) := by decide +kernel
theorem dX6_taken_0 : decode cX6_taken 0 = .ok (.iload_n 2, 1) := by decide +kernel
theorem dX6_taken_1 : decode cX6_taken 1 = .ok (.iconst 0, 1) := by decide +kernel
theorem dX6_taken_2 : decode cX6_taken 2 = .ok (.bipush 6, 2) := by decide +kernel
theorem dX6_taken_4 : decode cX6_taken 4 = .ok (.invokestatic 79, 3) := by decide +kernel
theorem dX6_taken_7 : decode cX6_taken 7 = .ok (.ifCond .ne 6, 3) := by decide +kernel
theorem dX6_taken_10 : decode cX6_taken 10 = .ok (.bipush (-2), 2) := by decide +kernel
theorem dX6_taken_12 : decode cX6_taken 12 = .ok (.ireturn, 1) := by decide +kernel
theorem dX6_taken_13 : decode cX6_taken 13 = .ok (.iload_n 1, 1) := by decide +kernel
theorem dX6_taken_14 : decode cX6_taken 14 = .ok (.iconst 0, 1) := by decide +kernel
theorem dX6_taken_15 : decode cX6_taken 15 = .ok (.bipush 11, 2) := by decide +kernel
theorem dX6_taken_17 : decode cX6_taken 17 = .ok (.invokestatic 79, 3) := by decide +kernel
theorem dX6_taken_20 : decode cX6_taken 20 = .ok (.ifCond .ne 6, 3) := by decide +kernel
theorem dX6_taken_23 : decode cX6_taken 23 = .ok (.bipush (-12), 2) := by decide +kernel
theorem dX6_taken_25 : decode cX6_taken 25 = .ok (.ireturn, 1) := by decide +kernel
theorem dX6_taken_26 : decode cX6_taken 26 = .ok (.iload_n 1, 1) := by decide +kernel
theorem dX6_taken_27 : decode cX6_taken 27 = .ok (.bipush 6, 2) := by decide +kernel
theorem dX6_taken_29 : decode cX6_taken 29 = .ok (.irem, 1) := by decide +kernel
theorem dX6_taken_30 : decode cX6_taken 30 = .ok (.aload_n 0, 1) := by decide +kernel
theorem dX6_taken_31 : decode cX6_taken 31 = .ok (.getfield 83, 3) := by decide +kernel
theorem dX6_taken_34 : decode cX6_taken 34 = .ok (.if_icmp .lt 6, 3) := by decide +kernel
theorem dX6_taken_37 : decode cX6_taken 37 = .ok (.bipush (-11), 2) := by decide +kernel
theorem dX6_taken_39 : decode cX6_taken 39 = .ok (.ireturn, 1) := by decide +kernel
theorem dX6_taken_40 : decode cX6_taken 40 = .ok (.iload_n 1, 1) := by decide +kernel
theorem dX6_taken_41 : decode cX6_taken 41 = .ok (.bipush 6, 2) := by decide +kernel
theorem dX6_taken_43 : decode cX6_taken 43 = .ok (.if_icmp .lt 28, 3) := by decide +kernel
theorem dX6_taken_46 : decode cX6_taken 46 = .ok (.iload_n 2, 1) := by decide +kernel
theorem dX6_taken_47 : decode cX6_taken 47 = .ok (.bipush 6, 2) := by decide +kernel
theorem dX6_taken_49 : decode cX6_taken 49 = .ok (.if_icmp .ne 19, 3) := by decide +kernel
theorem dX6_taken_52 : decode cX6_taken 52 = .ok (.aload_n 0, 1) := by decide +kernel
theorem dX6_taken_53 : decode cX6_taken 53 = .ok (.getfield 16, 3) := by decide +kernel
theorem dX6_taken_56 : decode cX6_taken 56 = .ok (.iconst 5, 1) := by decide +kernel
theorem dX6_taken_57 : decode cX6_taken 57 = .ok (.iload_n 1, 1) := by decide +kernel
theorem dX6_taken_58 : decode cX6_taken 58 = .ok (.bipush 6, 2) := by decide +kernel
theorem dX6_taken_60 : decode cX6_taken 60 = .ok (.isub, 1) := by decide +kernel
theorem dX6_taken_61 : decode cX6_taken 61 = .ok (.imul, 1) := by decide +kernel
theorem dX6_taken_62 : decode cX6_taken 62 = .ok (.iconst 4, 1) := by decide +kernel
theorem dX6_taken_63 : decode cX6_taken 63 = .ok (.iadd, 1) := by decide +kernel
theorem dX6_taken_64 : decode cX6_taken 64 = .ok (.iaload, 1) := by decide +kernel
theorem dX6_taken_65 : decode cX6_taken 65 = .ok (.goto 5, 3) := by decide +kernel
theorem dX6_taken_68 : decode cX6_taken 68 = .ok (.bipush (-13), 2) := by decide +kernel
theorem dX6_taken_70 : decode cX6_taken 70 = .ok (.ireturn, 1) := by decide +kernel
theorem dX6_taken_71 : decode cX6_taken 71 = .ok (.iload_n 2, 1) := by decide +kernel
theorem dX6_taken_72 : decode cX6_taken 72 = .ok (.bipush 6, 2) := by decide +kernel
theorem dX6_taken_74 : decode cX6_taken 74 = .ok (.if_icmp .ge 20, 3) := by decide +kernel
theorem dX6_taken_77 : decode cX6_taken 77 = .ok (.aload_n 0, 1) := by decide +kernel
theorem dX6_taken_78 : decode cX6_taken 78 = .ok (.getfield 7, 3) := by decide +kernel
theorem dX6_taken_81 : decode cX6_taken 81 = .ok (.iload_n 1, 1) := by decide +kernel
theorem dX6_taken_82 : decode cX6_taken 82 = .ok (.iaload, 1) := by decide +kernel
theorem dX6_taken_83 : decode cX6_taken 83 = .ok (.iload_n 2, 1) := by decide +kernel
theorem dX6_taken_84 : decode cX6_taken 84 = .ok (.invokestatic 287, 3) := by decide +kernel
theorem dX6_taken_87 : decode cX6_taken 87 = .ok (.ifCond .eq 7, 3) := by decide +kernel
theorem dX6_taken_90 : decode cX6_taken 90 = .ok (.iload_n 1, 1) := by decide +kernel
theorem dX6_taken_91 : decode cX6_taken 91 = .ok (.goto 5, 3) := by decide +kernel
theorem dX6_taken_94 : decode cX6_taken 94 = .ok (.bipush (-13), 2) := by decide +kernel
theorem dX6_taken_96 : decode cX6_taken 96 = .ok (.ireturn, 1) := by decide +kernel
