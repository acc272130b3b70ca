theorem dX5_init_0 : decode cX5_init 0 = .ok (.aload_n 0, 1) := by decide +kernel
theorem dX5_init_1 : decode cX5_init 1 = .ok (.invokespecial 1, 3) := by decide +kernel
theorem dX5_init_4 : decode cX5_init 4 = .ok (.aload_n 0, 1) := by decide +kernel
theorem dX5_init_5 : decode cX5_init 5 = .ok (.new 7, 3) := by decide +kernel
theorem dX5_init_8 : decode cX5_init 8 = .ok (.dup, 1) := by decide +kernel
theorem dX5_init_9 : decode cX5_init 9 = .ok (.invokespecial 9, 3) := by decide +kernel
theorem dX5_init_12 : decode cX5_init 12 = .ok (.putfield 10, 3) := by decide +kernel
theorem dX5_init_15 : decode cX5_init 15 = .ok (.aload_n 0, 1) := by decide +kernel
theorem dX5_init_16 : decode cX5_init 16 = .ok (.new 7, 3) := by decide +kernel
theorem dX5_init_19 : decode cX5_init 19 = .ok (.dup, 1) := by decide +kernel
theorem dX5_init_20 : decode cX5_init 20 = .ok (.invokespecial 9, 3) := by decide +kernel
theorem dX5_init_23 : decode cX5_init 23 = .ok (.putfield 16, 3) := by decide +kernel
theorem dX5_init_26 : decode cX5_init 26 = .ok (.aload_n 0, 1) := by decide +kernel
theorem dX5_init_27 : decode cX5_init 27 = .ok (.new 7, 3) := by decide +kernel
theorem dX5_init_30 : decode cX5_init 30 = .ok (.dup, 1) := by decide +kernel
theorem dX5_init_31 : decode cX5_init 31 = .ok (.invokespecial 9, 3) := by decide +kernel
theorem dX5_init_34 : decode cX5_init 34 = .ok (.putfield 19, 3) := by decide +kernel
theorem dX5_init_37 : decode cX5_init 37 = .ok (.aload_n 0, 1) := by decide +kernel
theorem dX5_init_38 : decode cX5_init 38 = .ok (.new 22, 3) := by decide +kernel
theorem dX5_init_41 : decode cX5_init 41 = .ok (.dup, 1) := by decide +kernel
theorem dX5_init_42 : decode cX5_init 42 = .ok (.invokespecial 24, 3) := by decide +kernel
theorem dX5_init_45 : decode cX5_init 45 = .ok (.putfield 25, 3) := by decide +kernel
theorem dX5_init_48 : decode cX5_init 48 = .ok (.aload_n 0, 1) := by decide +kernel
theorem dX5_init_49 : decode cX5_init 49 = .ok (.bipush 6, 2) := by decide +kernel
theorem dX5_init_51 : decode cX5_init 51 = .ok (.anewarray 29, 3) := by decide +kernel
theorem dX5_init_54 : decode cX5_init 54 = .ok (.putfield 31, 3) := by decide +kernel
theorem dX5_init_57 : decode cX5_init 57 = .ok (.aload_n 0, 1) := by decide +kernel
theorem dX5_init_58 : decode cX5_init 58 = .ok (.sipush 160, 3) := by decide +kernel
theorem dX5_init_61 : decode cX5_init 61 = .ok (.newarray .int, 2) := by decide +kernel
theorem dX5_init_63 : decode cX5_init 63 = .ok (.putfield 35, 3) := by decide +kernel
theorem dX5_init_66 : decode cX5_init 66 = .ok (.aload_n 0, 1) := by decide +kernel
theorem dX5_init_67 : decode cX5_init 67 = .ok (.iconst 4, 1) := by decide +kernel
theorem dX5_init_68 : decode cX5_init 68 = .ok (.anewarray 39, 3) := by decide +kernel
theorem dX5_init_71 : decode cX5_init 71 = .ok (.putfield 41, 3) := by decide +kernel
theorem dX5_init_74 : decode cX5_init 74 = .ok (.sipush 160, 3) := by decide +kernel
theorem dX5_init_77 : decode cX5_init 77 = .ok (.newarray .int, 2) := by decide +kernel
theorem dX5_init_79 : decode cX5_init 79 = .ok (.astore_n 1, 1) := by decide +kernel
theorem dX5_init_80 : decode cX5_init 80 = .ok (.iconst 0, 1) := by decide +kernel
theorem dX5_init_81 : decode cX5_init 81 = .ok (.istore_n 2, 1) := by decide +kernel
theorem dX5_init_82 : decode cX5_init 82 = .ok (.iload_n 2, 1) := by decide +kernel
theorem dX5_init_83 : decode cX5_init 83 = .ok (.bipush 6, 2) := by decide +kernel
theorem dX5_init_85 : decode cX5_init 85 = .ok (.if_icmp .ge 23, 3) := by decide +kernel
theorem dX5_init_88 : decode cX5_init 88 = .ok (.aload_n 0, 1) := by decide +kernel
theorem dX5_init_89 : decode cX5_init 89 = .ok (.getfield 31, 3) := by decide +kernel
theorem dX5_init_92 : decode cX5_init 92 = .ok (.iload_n 2, 1) := by decide +kernel
theorem dX5_init_93 : decode cX5_init 93 = .ok (.new 29, 3) := by decide +kernel
theorem dX5_init_96 : decode cX5_init 96 = .ok (.dup, 1) := by decide +kernel
theorem dX5_init_97 : decode cX5_init 97 = .ok (.aload_n 1, 1) := by decide +kernel
theorem dX5_init_98 : decode cX5_init 98 = .ok (.invokespecial 45, 3) := by decide +kernel
theorem dX5_init_101 : decode cX5_init 101 = .ok (.aastore, 1) := by decide +kernel
theorem dX5_init_102 : decode cX5_init 102 = .ok (.iinc 2 1, 3) := by decide +kernel
theorem dX5_init_105 : decode cX5_init 105 = .ok (.goto (-23), 3) := by decide +kernel
theorem dX5_init_108 : decode cX5_init 108 = .ok (.iconst 0, 1) := by decide +kernel
theorem dX5_init_109 : decode cX5_init 109 = .ok (.istore_n 2, 1) := by decide +kernel
theorem dX5_init_110 : decode cX5_init 110 = .ok (.iload_n 2, 1) := by decide +kernel
theorem dX5_init_111 : decode cX5_init 111 = .ok (.iconst 4, 1) := by decide +kernel
theorem dX5_init_112 : decode cX5_init 112 = .ok (.if_icmp .ge 22, 3) := by decide +kernel
theorem dX5_init_115 : decode cX5_init 115 = .ok (.aload_n 0, 1) := by decide +kernel
theorem dX5_init_116 : decode cX5_init 116 = .ok (.getfield 41, 3) := by decide +kernel
theorem dX5_init_119 : decode cX5_init 119 = .ok (.iload_n 2, 1) := by decide +kernel
theorem dX5_init_120 : decode cX5_init 120 = .ok (.new 39, 3) := by decide +kernel
theorem dX5_init_123 : decode cX5_init 123 = .ok (.dup, 1) := by decide +kernel
theorem dX5_init_124 : decode cX5_init 124 = .ok (.invokespecial 48, 3) := by decide +kernel
theorem dX5_init_127 : decode cX5_init 127 = .ok (.aastore, 1) := by decide +kernel
theorem dX5_init_128 : decode cX5_init 128 = .ok (.iinc 2 1, 3) := by decide +kernel
theorem dX5_init_131 : decode cX5_init 131 = .ok (.goto (-21), 3) := by decide +kernel
theorem dX5_init_134 : decode cX5_init 134 = .ok (.sipush 160, 3) := by decide +kernel
theorem dX5_init_137 : decode cX5_init 137 = .ok (.ldc 49, 2) := by decide +kernel
theorem dX5_init_139 : decode cX5_init 139 = .ok (.invokevirtual 51, 3) := by decide +kernel
theorem dX5_init_142 : decode cX5_init 142 = .ok (.invokestatic 57, 3) := by decide +kernel
theorem dX5_init_145 : decode cX5_init 145 = .ok (.istore_n 2, 1) := by decide +kernel
theorem dX5_init_146 : decode cX5_init 146 = .ok (.iconst 0, 1) := by decide +kernel
theorem dX5_init_147 : decode cX5_init 147 = .ok (.istore_n 3, 1) := by decide +kernel
theorem dX5_init_148 : decode cX5_init 148 = .ok (.iload_n 3, 1) := by decide +kernel
theorem dX5_init_149 : decode cX5_init 149 = .ok (.iload_n 2, 1) := by decide +kernel
theorem dX5_init_150 : decode cX5_init 150 = .ok (.if_icmp .ge 21, 3) := by decide +kernel
theorem dX5_init_153 : decode cX5_init 153 = .ok (.aload_n 0, 1) := by decide +kernel
theorem dX5_init_154 : decode cX5_init 154 = .ok (.getfield 35, 3) := by decide +kernel
theorem dX5_init_157 : decode cX5_init 157 = .ok (.iload_n 3, 1) := by decide +kernel
theorem dX5_init_158 : decode cX5_init 158 = .ok (.ldc 49, 2) := by decide +kernel
theorem dX5_init_160 : decode cX5_init 160 = .ok (.iload_n 3, 1) := by decide +kernel
theorem dX5_init_161 : decode cX5_init 161 = .ok (.invokevirtual 63, 3) := by decide +kernel
theorem dX5_init_164 : decode cX5_init 164 = .ok (.iastore, 1) := by decide +kernel
theorem dX5_init_165 : decode cX5_init 165 = .ok (.iinc 3 1, 3) := by decide +kernel
theorem dX5_init_168 : decode cX5_init 168 = .ok (.goto (-20), 3) := by decide +kernel
theorem dX5_init_171 : decode cX5_init 171 = .ok (.aload_n 0, 1) := by decide +kernel
theorem dX5_init_172 : decode cX5_init 172 = .ok (.new 67, 3) := by decide +kernel
theorem dX5_init_175 : decode cX5_init 175 = .ok (.dup, 1) := by decide +kernel
theorem dX5_init_176 : decode cX5_init 176 = .ok (.aload_n 0, 1) := by decide +kernel
theorem dX5_init_177 : decode cX5_init 177 = .ok (.getfield 35, 3) := by decide +kernel
theorem dX5_init_180 : decode cX5_init 180 = .ok (.aload_n 0, 1) := by decide +kernel
theorem dX5_init_181 : decode cX5_init 181 = .ok (.getfield 31, 3) := by decide +kernel
theorem dX5_init_184 : decode cX5_init 184 = .ok (.iconst 0, 1) := by decide +kernel
theorem dX5_init_185 : decode cX5_init 185 = .ok (.aaload, 1) := by decide +kernel
theorem dX5_init_186 : decode cX5_init 186 = .ok (.invokespecial 69, 3) := by decide +kernel
theorem dX5_init_189 : decode cX5_init 189 = .ok (.putfield 72, 3) := by decide +kernel
theorem dX5_init_192 : decode cX5_init 192 = .ok (.aload_n 0, 1) := by decide +kernel
theorem dX5_init_193 : decode cX5_init 193 = .ok (.getfield 72, 3) := by decide +kernel
theorem dX5_init_196 : decode cX5_init 196 = .ok (.iload_n 2, 1) := by decide +kernel
theorem dX5_init_197 : decode cX5_init 197 = .ok (.aload_n 0, 1) := by decide +kernel
theorem dX5_init_198 : decode cX5_init 198 = .ok (.getfield 31, 3) := by decide +kernel
theorem dX5_init_201 : decode cX5_init 201 = .ok (.iconst 0, 1) := by decide +kernel
theorem dX5_init_202 : decode cX5_init 202 = .ok (.aaload, 1) := by decide +kernel
theorem dX5_init_203 : decode cX5_init 203 = .ok (.invokevirtual 76, 3) := by decide +kernel
theorem dX5_init_206 : decode cX5_init 206 = .ok (.pop, 1) := by decide +kernel
theorem dX5_init_207 : decode cX5_init 207 = .ok (.aload_n 0, 1) := by decide +kernel
theorem dX5_init_208 : decode cX5_init 208 = .ok (.iconst 1, 1) := by decide +kernel
theorem dX5_init_209 : decode cX5_init 209 = .ok (.putfield 80, 3) := by decide +kernel
theorem dX5_init_212 : decode cX5_init 212 = .ok (.return_, 1) := by decide +kernel
theorem dX5_count_0 : decode cX5_count 0 = .ok (.iload_n 1, 1) := by decide +kernel
theorem dX5_count_1 : decode cX5_count 1 = .ok (.tableswitch 84 0 5 #[39, 47, 58, 66, 71, 79], 39) := by decide +kernel
theorem dX5_count_40 : decode cX5_count 40 = .ok (.aload_n 0, 1) := by decide +kernel
theorem dX5_count_41 : decode cX5_count 41 = .ok (.getfield 10, 3) := by decide +kernel
theorem dX5_count_44 : decode cX5_count 44 = .ok (.getfield 84, 3) := by decide +kernel
theorem dX5_count_47 : decode cX5_count 47 = .ok (.ireturn, 1) := by decide +kernel
theorem dX5_count_48 : decode cX5_count 48 = .ok (.aload_n 0, 1) := by decide +kernel
theorem dX5_count_49 : decode cX5_count 49 = .ok (.getfield 10, 3) := by decide +kernel
theorem dX5_count_52 : decode cX5_count 52 = .ok (.getfield 87, 3) := by decide +kernel
theorem dX5_count_55 : decode cX5_count 55 = .ok (.invokestatic 91, 3) := by decide +kernel
theorem dX5_count_58 : decode cX5_count 58 = .ok (.ireturn, 1) := by decide +kernel
theorem dX5_count_59 : decode cX5_count 59 = .ok (.aload_n 0, 1) := by decide +kernel
theorem dX5_count_60 : decode cX5_count 60 = .ok (.getfield 10, 3) := by decide +kernel
theorem dX5_count_63 : decode cX5_count 63 = .ok (.getfield 97, 3) := by decide +kernel
theorem dX5_count_66 : decode cX5_count 66 = .ok (.ireturn, 1) := by decide +kernel
theorem dX5_count_67 : decode cX5_count 67 = .ok (.aload_n 0, 1) := by decide +kernel
theorem dX5_count_68 : decode cX5_count 68 = .ok (.getfield 80, 3) := by decide +kernel
theorem dX5_count_71 : decode cX5_count 71 = .ok (.ireturn, 1) := by decide +kernel
theorem dX5_count_72 : decode cX5_count 72 = .ok (.aload_n 0, 1) := by decide +kernel
theorem dX5_count_73 : decode cX5_count 73 = .ok (.getfield 10, 3) := by decide +kernel
theorem dX5_count_76 : decode cX5_count 76 = .ok (.getfield 100, 3) := by decide +kernel
theorem dX5_count_79 : decode cX5_count 79 = .ok (.ireturn, 1) := by decide +kernel
theorem dX5_count_80 : decode cX5_count 80 = .ok (.aload_n 0, 1) := by decide +kernel
theorem dX5_count_81 : decode cX5_count 81 = .ok (.getfield 103, 3) := by decide +kernel
theorem dX5_count_84 : decode cX5_count 84 = .ok (.ireturn, 1) := by decide +kernel
theorem dX5_count_85 : decode cX5_count 85 = .ok (.bipush (-2), 2) := by decide +kernel
theorem dX5_count_87 : decode cX5_count 87 = .ok (.ireturn, 1) := by decide +kernel
theorem dX5_dusk_0 : decode cX5_dusk 0 = .ok (.iload_n 1, 1) := by decide +kernel
theorem dX5_dusk_1 : decode cX5_dusk 1 = .ok (.ifCond .lt 10, 3) := by decide +kernel
theorem dX5_dusk_4 : decode cX5_dusk 4 = .ok (.iload_n 1, 1) := by decide +kernel
theorem dX5_dusk_5 : decode cX5_dusk 5 = .ok (.sipush 999, 3) := by decide +kernel
theorem dX5_dusk_8 : decode cX5_dusk 8 = .ok (.if_icmp .le 6, 3) := by decide +kernel
theorem dX5_dusk_11 : decode cX5_dusk 11 = .ok (.bipush (-2), 2) := by decide +kernel
theorem dX5_dusk_13 : decode cX5_dusk 13 = .ok (.ireturn, 1) := by decide +kernel
theorem dX5_dusk_14 : decode cX5_dusk 14 = .ok (.aload_n 0, 1) := by decide +kernel
theorem dX5_dusk_15 : decode cX5_dusk 15 = .ok (.getfield 10, 3) := by decide +kernel
theorem dX5_dusk_18 : decode cX5_dusk 18 = .ok (.getfield 97, 3) := by decide +kernel
theorem dX5_dusk_21 : decode cX5_dusk 21 = .ok (.istore_n 2, 1) := by decide +kernel
theorem dX5_dusk_22 : decode cX5_dusk 22 = .ok (.aload_n 0, 1) := by decide +kernel
theorem dX5_dusk_23 : decode cX5_dusk 23 = .ok (.getfield 10, 3) := by decide +kernel
theorem dX5_dusk_26 : decode cX5_dusk 26 = .ok (.iload_n 1, 1) := by decide +kernel
theorem dX5_dusk_27 : decode cX5_dusk 27 = .ok (.putfield 97, 3) := by decide +kernel
theorem dX5_dusk_30 : decode cX5_dusk 30 = .ok (.iload_n 2, 1) := by decide +kernel
theorem dX5_dusk_31 : decode cX5_dusk 31 = .ok (.ireturn, 1) := by decide +kernel
theorem dX5_flood_0 : decode cX5_flood 0 = .ok (.iload_n 1, 1) := by decide +kernel
theorem dX5_flood_1 : decode cX5_flood 1 = .ok (.invokestatic 106, 3) := by decide +kernel
theorem dX5_flood_4 : decode cX5_flood 4 = .ok (.ifCond .ne 6, 3) := by decide +kernel
theorem dX5_flood_7 : decode cX5_flood 7 = .ok (.bipush (-5), 2) := by decide +kernel
theorem dX5_flood_9 : decode cX5_flood 9 = .ok (.ireturn, 1) := by decide +kernel
theorem dX5_flood_10 : decode cX5_flood 10 = .ok (.iload_n 2, 1) := by decide +kernel
theorem dX5_flood_11 : decode cX5_flood 11 = .ok (.ifCond .eq 11, 3) := by decide +kernel
theorem dX5_flood_14 : decode cX5_flood 14 = .ok (.iload_n 2, 1) := by decide +kernel
theorem dX5_flood_15 : decode cX5_flood 15 = .ok (.iconst 1, 1) := by decide +kernel
theorem dX5_flood_16 : decode cX5_flood 16 = .ok (.if_icmp .eq 6, 3) := by decide +kernel
theorem dX5_flood_19 : decode cX5_flood 19 = .ok (.bipush (-7), 2) := by decide +kernel
theorem dX5_flood_21 : decode cX5_flood 21 = .ok (.ireturn, 1) := by decide +kernel
theorem dX5_flood_22 : decode cX5_flood 22 = .ok (.aload_n 0, 1) := by decide +kernel
theorem dX5_flood_23 : decode cX5_flood 23 = .ok (.getfield 10, 3) := by decide +kernel
theorem dX5_flood_26 : decode cX5_flood 26 = .ok (.getfield 87, 3) := by decide +kernel
theorem dX5_flood_29 : decode cX5_flood 29 = .ok (.iload_n 1, 1) := by decide +kernel
theorem dX5_flood_30 : decode cX5_flood 30 = .ok (.invokestatic 110, 3) := by decide +kernel
theorem dX5_flood_33 : decode cX5_flood 33 = .ok (.ifCond .eq 7, 3) := by decide +kernel
theorem dX5_flood_36 : decode cX5_flood 36 = .ok (.iconst 1, 1) := by decide +kernel
theorem dX5_flood_37 : decode cX5_flood 37 = .ok (.goto 4, 3) := by decide +kernel
theorem dX5_flood_40 : decode cX5_flood 40 = .ok (.iconst 0, 1) := by decide +kernel
theorem dX5_flood_41 : decode cX5_flood 41 = .ok (.istore_n 3, 1) := by decide +kernel
theorem dX5_flood_42 : decode cX5_flood 42 = .ok (.iload_n 3, 1) := by decide +kernel
theorem dX5_flood_43 : decode cX5_flood 43 = .ok (.iload_n 2, 1) := by decide +kernel
theorem dX5_flood_44 : decode cX5_flood 44 = .ok (.if_icmp .eq 18, 3) := by decide +kernel
theorem dX5_flood_47 : decode cX5_flood 47 = .ok (.aload_n 0, 1) := by decide +kernel
theorem dX5_flood_48 : decode cX5_flood 48 = .ok (.getfield 10, 3) := by decide +kernel
theorem dX5_flood_51 : decode cX5_flood 51 = .ok (.dup, 1) := by decide +kernel
theorem dX5_flood_52 : decode cX5_flood 52 = .ok (.getfield 87, 3) := by decide +kernel
theorem dX5_flood_55 : decode cX5_flood 55 = .ok (.lconst 1, 1) := by decide +kernel
theorem dX5_flood_56 : decode cX5_flood 56 = .ok (.iload_n 1, 1) := by decide +kernel
theorem dX5_flood_57 : decode cX5_flood 57 = .ok (.lshl, 1) := by decide +kernel
theorem dX5_flood_58 : decode cX5_flood 58 = .ok (.lxor, 1) := by decide +kernel
theorem dX5_flood_59 : decode cX5_flood 59 = .ok (.putfield 87, 3) := by decide +kernel
theorem dX5_flood_62 : decode cX5_flood 62 = .ok (.iload_n 3, 1) := by decide +kernel
theorem dX5_flood_63 : decode cX5_flood 63 = .ok (.ireturn, 1) := by decide +kernel
theorem dX5_feed_0 : decode cX5_feed 0 = .ok (.iload_n 1, 1) := by decide +kernel
theorem dX5_feed_1 : decode cX5_feed 1 = .ok (.iconst 1, 1) := by decide +kernel
theorem dX5_feed_2 : decode cX5_feed 2 = .ok (.if_icmp .lt 46, 3) := by decide +kernel
theorem dX5_feed_5 : decode cX5_feed 5 = .ok (.iload_n 1, 1) := by decide +kernel
theorem dX5_feed_6 : decode cX5_feed 6 = .ok (.iconst 5, 1) := by decide +kernel
theorem dX5_feed_7 : decode cX5_feed 7 = .ok (.if_icmp .gt 41, 3) := by decide +kernel
theorem dX5_feed_10 : decode cX5_feed 10 = .ok (.iload_n 2, 1) := by decide +kernel
theorem dX5_feed_11 : decode cX5_feed 11 = .ok (.invokestatic 114, 3) := by decide +kernel
theorem dX5_feed_14 : decode cX5_feed 14 = .ok (.ifCond .eq 34, 3) := by decide +kernel
theorem dX5_feed_17 : decode cX5_feed 17 = .ok (.iload_n 3, 1) := by decide +kernel
theorem dX5_feed_18 : decode cX5_feed 18 = .ok (.invokestatic 114, 3) := by decide +kernel
theorem dX5_feed_21 : decode cX5_feed 21 = .ok (.ifCond .eq 27, 3) := by decide +kernel
theorem dX5_feed_24 : decode cX5_feed 24 = .ok (.iload 4, 2) := by decide +kernel
theorem dX5_feed_26 : decode cX5_feed 26 = .ok (.invokestatic 114, 3) := by decide +kernel
theorem dX5_feed_29 : decode cX5_feed 29 = .ok (.ifCond .eq 19, 3) := by decide +kernel
theorem dX5_feed_32 : decode cX5_feed 32 = .ok (.iload 5, 2) := by decide +kernel
theorem dX5_feed_34 : decode cX5_feed 34 = .ok (.invokestatic 114, 3) := by decide +kernel
theorem dX5_feed_37 : decode cX5_feed 37 = .ok (.ifCond .eq 11, 3) := by decide +kernel
theorem dX5_feed_40 : decode cX5_feed 40 = .ok (.iload 6, 2) := by decide +kernel
theorem dX5_feed_42 : decode cX5_feed 42 = .ok (.invokestatic 114, 3) := by decide +kernel
theorem dX5_feed_45 : decode cX5_feed 45 = .ok (.ifCond .ne 6, 3) := by decide +kernel
theorem dX5_feed_48 : decode cX5_feed 48 = .ok (.bipush (-2), 2) := by decide +kernel
theorem dX5_feed_50 : decode cX5_feed 50 = .ok (.ireturn, 1) := by decide +kernel
theorem dX5_feed_51 : decode cX5_feed 51 = .ok (.aload_n 0, 1) := by decide +kernel
theorem dX5_feed_52 : decode cX5_feed 52 = .ok (.getfield 103, 3) := by decide +kernel
theorem dX5_feed_55 : decode cX5_feed 55 = .ok (.iload_n 1, 1) := by decide +kernel
theorem dX5_feed_56 : decode cX5_feed 56 = .ok (.iadd, 1) := by decide +kernel
theorem dX5_feed_57 : decode cX5_feed 57 = .ok (.sipush 160, 3) := by decide +kernel
theorem dX5_feed_60 : decode cX5_feed 60 = .ok (.if_icmp .le 6, 3) := by decide +kernel
theorem dX5_feed_63 : decode cX5_feed 63 = .ok (.bipush (-4), 2) := by decide +kernel
theorem dX5_feed_65 : decode cX5_feed 65 = .ok (.ireturn, 1) := by decide +kernel
theorem dX5_feed_66 : decode cX5_feed 66 = .ok (.aload_n 0, 1) := by decide +kernel
theorem dX5_feed_67 : decode cX5_feed 67 = .ok (.iload_n 2, 1) := by decide +kernel
theorem dX5_feed_68 : decode cX5_feed 68 = .ok (.invokevirtual 117, 3) := by decide +kernel
theorem dX5_feed_71 : decode cX5_feed 71 = .ok (.iload_n 1, 1) := by decide +kernel
theorem dX5_feed_72 : decode cX5_feed 72 = .ok (.iconst 1, 1) := by decide +kernel
theorem dX5_feed_73 : decode cX5_feed 73 = .ok (.if_icmp .le 8, 3) := by decide +kernel
theorem dX5_feed_76 : decode cX5_feed 76 = .ok (.aload_n 0, 1) := by decide +kernel
theorem dX5_feed_77 : decode cX5_feed 77 = .ok (.iload_n 3, 1) := by decide +kernel
theorem dX5_feed_78 : decode cX5_feed 78 = .ok (.invokevirtual 117, 3) := by decide +kernel
theorem dX5_feed_81 : decode cX5_feed 81 = .ok (.iload_n 1, 1) := by decide +kernel
theorem dX5_feed_82 : decode cX5_feed 82 = .ok (.iconst 2, 1) := by decide +kernel
theorem dX5_feed_83 : decode cX5_feed 83 = .ok (.if_icmp .le 9, 3) := by decide +kernel
theorem dX5_feed_86 : decode cX5_feed 86 = .ok (.aload_n 0, 1) := by decide +kernel
theorem dX5_feed_87 : decode cX5_feed 87 = .ok (.iload 4, 2) := by decide +kernel
theorem dX5_feed_89 : decode cX5_feed 89 = .ok (.invokevirtual 117, 3) := by decide +kernel
theorem dX5_feed_92 : decode cX5_feed 92 = .ok (.iload_n 1, 1) := by decide +kernel
theorem dX5_feed_93 : decode cX5_feed 93 = .ok (.iconst 3, 1) := by decide +kernel
theorem dX5_feed_94 : decode cX5_feed 94 = .ok (.if_icmp .le 9, 3) := by decide +kernel
theorem dX5_feed_97 : decode cX5_feed 97 = .ok (.aload_n 0, 1) := by decide +kernel
theorem dX5_feed_98 : decode cX5_feed 98 = .ok (.iload 5, 2) := by decide +kernel
theorem dX5_feed_100 : decode cX5_feed 100 = .ok (.invokevirtual 117, 3) := by decide +kernel
theorem dX5_feed_103 : decode cX5_feed 103 = .ok (.iload_n 1, 1) := by decide +kernel
theorem dX5_feed_104 : decode cX5_feed 104 = .ok (.iconst 4, 1) := by decide +kernel
theorem dX5_feed_105 : decode cX5_feed 105 = .ok (.if_icmp .le 9, 3) := by decide +kernel
theorem dX5_feed_108 : decode cX5_feed 108 = .ok (.aload_n 0, 1) := by decide +kernel
theorem dX5_feed_109 : decode cX5_feed 109 = .ok (.iload 6, 2) := by decide +kernel
theorem dX5_feed_111 : decode cX5_feed 111 = .ok (.invokevirtual 117, 3) := by decide +kernel
theorem dX5_feed_114 : decode cX5_feed 114 = .ok (.aload_n 0, 1) := by decide +kernel
theorem dX5_feed_115 : decode cX5_feed 115 = .ok (.getfield 103, 3) := by decide +kernel
theorem dX5_feed_118 : decode cX5_feed 118 = .ok (.ireturn, 1) := by decide +kernel
theorem dX5_text_0 : decode cX5_text 0 = .ok (.aload_n 0, 1) := by decide +kernel
theorem dX5_text_1 : decode cX5_text 1 = .ok (.getfield 80, 3) := by decide +kernel
theorem dX5_text_4 : decode cX5_text 4 = .ok (.bipush 6, 2) := by decide +kernel
theorem dX5_text_6 : decode cX5_text 6 = .ok (.if_icmp .ge 10, 3) := by decide +kernel
theorem dX5_text_9 : decode cX5_text 9 = .ok (.aload_n 0, 1) := by decide +kernel
theorem dX5_text_10 : decode cX5_text 10 = .ok (.getfield 80, 3) := by decide +kernel
theorem dX5_text_13 : decode cX5_text 13 = .ok (.ifCond .ge 6, 3) := by decide +kernel
theorem dX5_text_16 : decode cX5_text 16 = .ok (.bipush (-4), 2) := by decide +kernel
theorem dX5_text_18 : decode cX5_text 18 = .ok (.ireturn, 1) := by decide +kernel
theorem dX5_text_19 : decode cX5_text 19 = .ok (.aload_n 0, 1) := by decide +kernel
theorem dX5_text_20 : decode cX5_text 20 = .ok (.getfield 103, 3) := by decide +kernel
theorem dX5_text_23 : decode cX5_text 23 = .ok (.istore_n 1, 1) := by decide +kernel
theorem dX5_text_24 : decode cX5_text 24 = .ok (.aload_n 0, 1) := by decide +kernel
theorem dX5_text_25 : decode cX5_text 25 = .ok (.iconst 0, 1) := by decide +kernel
theorem dX5_text_26 : decode cX5_text 26 = .ok (.putfield 103, 3) := by decide +kernel
theorem dX5_text_29 : decode cX5_text 29 = .ok (.aload_n 0, 1) := by decide +kernel
theorem dX5_text_30 : decode cX5_text 30 = .ok (.getfield 72, 3) := by decide +kernel
theorem dX5_text_33 : decode cX5_text 33 = .ok (.iload_n 1, 1) := by decide +kernel
theorem dX5_text_34 : decode cX5_text 34 = .ok (.aload_n 0, 1) := by decide +kernel
theorem dX5_text_35 : decode cX5_text 35 = .ok (.getfield 31, 3) := by decide +kernel
theorem dX5_text_38 : decode cX5_text 38 = .ok (.aload_n 0, 1) := by decide +kernel
theorem dX5_text_39 : decode cX5_text 39 = .ok (.getfield 80, 3) := by decide +kernel
theorem dX5_text_42 : decode cX5_text 42 = .ok (.aaload, 1) := by decide +kernel
theorem dX5_text_43 : decode cX5_text 43 = .ok (.invokevirtual 76, 3) := by decide +kernel
theorem dX5_text_46 : decode cX5_text 46 = .ok (.istore_n 2, 1) := by decide +kernel
theorem dX5_text_47 : decode cX5_text 47 = .ok (.iload_n 2, 1) := by decide +kernel
theorem dX5_text_48 : decode cX5_text 48 = .ok (.iconst (-1), 1) := by decide +kernel
theorem dX5_text_49 : decode cX5_text 49 = .ok (.if_icmp .eq 8, 3) := by decide +kernel
theorem dX5_text_52 : decode cX5_text 52 = .ok (.bipush (-100), 2) := by decide +kernel
theorem dX5_text_54 : decode cX5_text 54 = .ok (.iload_n 2, 1) := by decide +kernel
theorem dX5_text_55 : decode cX5_text 55 = .ok (.isub, 1) := by decide +kernel
theorem dX5_text_56 : decode cX5_text 56 = .ok (.ireturn, 1) := by decide +kernel
theorem dX5_text_57 : decode cX5_text 57 = .ok (.aload_n 0, 1) := by decide +kernel
theorem dX5_text_58 : decode cX5_text 58 = .ok (.dup, 1) := by decide +kernel
theorem dX5_text_59 : decode cX5_text 59 = .ok (.getfield 80, 3) := by decide +kernel
theorem dX5_text_62 : decode cX5_text 62 = .ok (.iconst 1, 1) := by decide +kernel
theorem dX5_text_63 : decode cX5_text 63 = .ok (.iadd, 1) := by decide +kernel
theorem dX5_text_64 : decode cX5_text 64 = .ok (.putfield 80, 3) := by decide +kernel
theorem dX5_text_67 : decode cX5_text 67 = .ok (.aload_n 0, 1) := by decide +kernel
theorem dX5_text_68 : decode cX5_text 68 = .ok (.getfield 80, 3) := by decide +kernel
theorem dX5_text_71 : decode cX5_text 71 = .ok (.iconst 1, 1) := by decide +kernel
theorem dX5_text_72 : decode cX5_text 72 = .ok (.isub, 1) := by decide +kernel
theorem dX5_text_73 : decode cX5_text 73 = .ok (.ireturn, 1) := by decide +kernel
theorem dX5_force_0 : decode cX5_force 0 = .ok (.iload_n 1, 1) := by decide +kernel
theorem dX5_force_1 : decode cX5_force 1 = .ok (.ifCond .lt 11, 3) := by decide +kernel
theorem dX5_force_4 : decode cX5_force 4 = .ok (.iload_n 1, 1) := by decide +kernel
theorem dX5_force_5 : decode cX5_force 5 = .ok (.aload_n 0, 1) := by decide +kernel
theorem dX5_force_6 : decode cX5_force 6 = .ok (.getfield 80, 3) := by decide +kernel
theorem dX5_force_9 : decode cX5_force 9 = .ok (.if_icmp .lt 6, 3) := by decide +kernel
theorem dX5_force_12 : decode cX5_force 12 = .ok (.bipush (-2), 2) := by decide +kernel
theorem dX5_force_14 : decode cX5_force 14 = .ok (.ireturn, 1) := by decide +kernel
theorem dX5_force_15 : decode cX5_force 15 = .ok (.aload_n 0, 1) := by decide +kernel
theorem dX5_force_16 : decode cX5_force 16 = .ok (.getfield 10, 3) := by decide +kernel
theorem dX5_force_19 : decode cX5_force 19 = .ok (.getfield 100, 3) := by decide +kernel
theorem dX5_force_22 : decode cX5_force 22 = .ok (.istore_n 2, 1) := by decide +kernel
theorem dX5_force_23 : decode cX5_force 23 = .ok (.aload_n 0, 1) := by decide +kernel
theorem dX5_force_24 : decode cX5_force 24 = .ok (.getfield 10, 3) := by decide +kernel
theorem dX5_force_27 : decode cX5_force 27 = .ok (.iload_n 1, 1) := by decide +kernel
theorem dX5_force_28 : decode cX5_force 28 = .ok (.putfield 100, 3) := by decide +kernel
theorem dX5_force_31 : decode cX5_force 31 = .ok (.iload_n 2, 1) := by decide +kernel
theorem dX5_force_32 : decode cX5_force 32 = .ok (.ireturn, 1) := by decide +kernel
theorem dX5_asks_0 : decode cX5_asks 0 = .ok (.aload_n 0, 1) := by decide +kernel
theorem dX5_asks_1 : decode cX5_asks 1 = .ok (.getfield 10, 3) := by decide +kernel
theorem dX5_asks_4 : decode cX5_asks 4 = .ok (.iload_n 2, 1) := by decide +kernel
theorem dX5_asks_5 : decode cX5_asks 5 = .ok (.invokevirtual 121, 3) := by decide +kernel
theorem dX5_asks_8 : decode cX5_asks 8 = .ok (.astore_n 3, 1) := by decide +kernel
theorem dX5_asks_9 : decode cX5_asks 9 = .ok (.aload_n 3, 1) := by decide +kernel
theorem dX5_asks_10 : decode cX5_asks 10 = .ok (.ifnull 12, 3) := by decide +kernel
theorem dX5_asks_13 : decode cX5_asks 13 = .ok (.iload_n 1, 1) := by decide +kernel
theorem dX5_asks_14 : decode cX5_asks 14 = .ok (.ifCond .lt 8, 3) := by decide +kernel
theorem dX5_asks_17 : decode cX5_asks 17 = .ok (.iload_n 1, 1) := by decide +kernel
theorem dX5_asks_18 : decode cX5_asks 18 = .ok (.iconst 3, 1) := by decide +kernel
theorem dX5_asks_19 : decode cX5_asks 19 = .ok (.if_icmp .lt 7, 3) := by decide +kernel
theorem dX5_asks_22 : decode cX5_asks 22 = .ok (.sipush (-1000), 3) := by decide +kernel
theorem dX5_asks_25 : decode cX5_asks 25 = .ok (.ireturn, 1) := by decide +kernel
theorem dX5_asks_26 : decode cX5_asks 26 = .ok (.aload_n 0, 1) := by decide +kernel
theorem dX5_asks_27 : decode cX5_asks 27 = .ok (.invokevirtual 125, 3) := by decide +kernel
theorem dX5_asks_30 : decode cX5_asks 30 = .ok (.iload_n 1, 1) := by decide +kernel
theorem dX5_asks_31 : decode cX5_asks 31 = .ok (.aload_n 3, 1) := by decide +kernel
theorem dX5_asks_32 : decode cX5_asks 32 = .ok (.invokevirtual 129, 3) := by decide +kernel
theorem dX5_asks_35 : decode cX5_asks 35 = .ok (.ireturn, 1) := by decide +kernel
theorem dX5_sleeper_0 : decode cX5_sleeper 0 = .ok (.iload_n 1, 1) := by decide +kernel
theorem dX5_sleeper_1 : decode cX5_sleeper 1 = .ok (.invokestatic 133, 3) := by decide +kernel
theorem dX5_sleeper_4 : decode cX5_sleeper 4 = .ok (.ifCond .eq 10, 3) := by decide +kernel
theorem dX5_sleeper_7 : decode cX5_sleeper 7 = .ok (.iload_n 2, 1) := by decide +kernel
theorem dX5_sleeper_8 : decode cX5_sleeper 8 = .ok (.invokestatic 136, 3) := by decide +kernel
theorem dX5_sleeper_11 : decode cX5_sleeper 11 = .ok (.ifCond .ne 6, 3) := by decide +kernel
theorem dX5_sleeper_14 : decode cX5_sleeper 14 = .ok (.bipush (-2), 2) := by decide +kernel
theorem dX5_sleeper_16 : decode cX5_sleeper 16 = .ok (.ireturn, 1) := by decide +kernel
theorem dX5_sleeper_17 : decode cX5_sleeper 17 = .ok (.aload_n 0, 1) := by decide +kernel
theorem dX5_sleeper_18 : decode cX5_sleeper 18 = .ok (.getfield 10, 3) := by decide +kernel
theorem dX5_sleeper_21 : decode cX5_sleeper 21 = .ok (.getfield 84, 3) := by decide +kernel
theorem dX5_sleeper_24 : decode cX5_sleeper 24 = .ok (.bipush 6, 2) := by decide +kernel
theorem dX5_sleeper_26 : decode cX5_sleeper 26 = .ok (.if_icmp .lt 6, 3) := by decide +kernel
theorem dX5_sleeper_29 : decode cX5_sleeper 29 = .ok (.bipush (-4), 2) := by decide +kernel
theorem dX5_sleeper_31 : decode cX5_sleeper 31 = .ok (.ireturn, 1) := by decide +kernel
theorem dX5_sleeper_32 : decode cX5_sleeper 32 = .ok (.aload_n 0, 1) := by decide +kernel
theorem dX5_sleeper_33 : decode cX5_sleeper 33 = .ok (.getfield 10, 3) := by decide +kernel
theorem dX5_sleeper_36 : decode cX5_sleeper 36 = .ok (.iload_n 1, 1) := by decide +kernel
theorem dX5_sleeper_37 : decode cX5_sleeper 37 = .ok (.iload_n 2, 1) := by decide +kernel
theorem dX5_sleeper_38 : decode cX5_sleeper 38 = .ok (.invokevirtual 139, 3) := by decide +kernel
theorem dX5_sleeper_41 : decode cX5_sleeper 41 = .ok (.ireturn, 1) := by decide +kernel
theorem dX5_put_0 : decode cX5_put 0 = .ok (.aload_n 0, 1) := by decide +kernel
theorem dX5_put_1 : decode cX5_put 1 = .ok (.getfield 10, 3) := by decide +kernel
theorem dX5_put_4 : decode cX5_put 4 = .ok (.iload_n 1, 1) := by decide +kernel
theorem dX5_put_5 : decode cX5_put 5 = .ok (.invokevirtual 121, 3) := by decide +kernel
theorem dX5_put_8 : decode cX5_put 8 = .ok (.astore 4, 2) := by decide +kernel
theorem dX5_put_10 : decode cX5_put 10 = .ok (.aload 4, 2) := by decide +kernel
theorem dX5_put_12 : decode cX5_put 12 = .ok (.ifnonnull 6, 3) := by decide +kernel
theorem dX5_put_15 : decode cX5_put 15 = .ok (.bipush (-5), 2) := by decide +kernel
theorem dX5_put_17 : decode cX5_put 17 = .ok (.ireturn, 1) := by decide +kernel
theorem dX5_put_18 : decode cX5_put 18 = .ok (.iload_n 3, 1) := by decide +kernel
theorem dX5_put_19 : decode cX5_put 19 = .ok (.ifCond .lt 13, 3) := by decide +kernel
theorem dX5_put_22 : decode cX5_put 22 = .ok (.iload_n 3, 1) := by decide +kernel
theorem dX5_put_23 : decode cX5_put 23 = .ok (.aload 4, 2) := by decide +kernel
theorem dX5_put_25 : decode cX5_put 25 = .ok (.iload_n 2, 1) := by decide +kernel
theorem dX5_put_26 : decode cX5_put 26 = .ok (.invokevirtual 142, 3) := by decide +kernel
theorem dX5_put_29 : decode cX5_put 29 = .ok (.if_icmp .lt 6, 3) := by decide +kernel
theorem dX5_put_32 : decode cX5_put 32 = .ok (.bipush (-7), 2) := by decide +kernel
theorem dX5_put_34 : decode cX5_put 34 = .ok (.ireturn, 1) := by decide +kernel
theorem dX5_put_35 : decode cX5_put 35 = .ok (.aload 4, 2) := by decide +kernel
theorem dX5_put_37 : decode cX5_put 37 = .ok (.iload_n 2, 1) := by decide +kernel
theorem dX5_put_38 : decode cX5_put 38 = .ok (.invokevirtual 146, 3) := by decide +kernel
theorem dX5_put_41 : decode cX5_put 41 = .ok (.istore 5, 2) := by decide +kernel
theorem dX5_put_43 : decode cX5_put 43 = .ok (.aload 4, 2) := by decide +kernel
theorem dX5_put_45 : decode cX5_put 45 = .ok (.iload_n 2, 1) := by decide +kernel
theorem dX5_put_46 : decode cX5_put 46 = .ok (.iload_n 3, 1) := by decide +kernel
theorem dX5_put_47 : decode cX5_put 47 = .ok (.invokevirtual 149, 3) := by decide +kernel
theorem dX5_put_50 : decode cX5_put 50 = .ok (.iload 5, 2) := by decide +kernel
theorem dX5_put_52 : decode cX5_put 52 = .ok (.ireturn, 1) := by decide +kernel
theorem dX5_told_0 : decode cX5_told 0 = .ok (.aload_n 0, 1) := by decide +kernel
theorem dX5_told_1 : decode cX5_told 1 = .ok (.getfield 10, 3) := by decide +kernel
theorem dX5_told_4 : decode cX5_told 4 = .ok (.iload_n 1, 1) := by decide +kernel
theorem dX5_told_5 : decode cX5_told 5 = .ok (.invokevirtual 121, 3) := by decide +kernel
theorem dX5_told_8 : decode cX5_told 8 = .ok (.astore_n 3, 1) := by decide +kernel
theorem dX5_told_9 : decode cX5_told 9 = .ok (.aload_n 3, 1) := by decide +kernel
theorem dX5_told_10 : decode cX5_told 10 = .ok (.ifnonnull 7, 3) := by decide +kernel
theorem dX5_told_13 : decode cX5_told 13 = .ok (.sipush (-5000), 3) := by decide +kernel
theorem dX5_told_16 : decode cX5_told 16 = .ok (.ireturn, 1) := by decide +kernel
theorem dX5_told_17 : decode cX5_told 17 = .ok (.iload_n 2, 1) := by decide +kernel
theorem dX5_told_18 : decode cX5_told 18 = .ok (.tableswitch 113 0 10 #[58, 58, 58, 58, 58, 64, 69, 74, 83, 92, 108], 58) := by decide +kernel
theorem dX5_told_76 : decode cX5_told 76 = .ok (.aload_n 3, 1) := by decide +kernel
theorem dX5_told_77 : decode cX5_told 77 = .ok (.iload_n 2, 1) := by decide +kernel
theorem dX5_told_78 : decode cX5_told 78 = .ok (.invokevirtual 146, 3) := by decide +kernel
theorem dX5_told_81 : decode cX5_told 81 = .ok (.ireturn, 1) := by decide +kernel
theorem dX5_told_82 : decode cX5_told 82 = .ok (.aload_n 3, 1) := by decide +kernel
theorem dX5_told_83 : decode cX5_told 83 = .ok (.getfield 153, 3) := by decide +kernel
theorem dX5_told_86 : decode cX5_told 86 = .ok (.ireturn, 1) := by decide +kernel
theorem dX5_told_87 : decode cX5_told 87 = .ok (.aload_n 3, 1) := by decide +kernel
theorem dX5_told_88 : decode cX5_told 88 = .ok (.getfield 156, 3) := by decide +kernel
theorem dX5_told_91 : decode cX5_told 91 = .ok (.ireturn, 1) := by decide +kernel
theorem dX5_told_92 : decode cX5_told 92 = .ok (.aload_n 3, 1) := by decide +kernel
theorem dX5_told_93 : decode cX5_told 93 = .ok (.aload_n 0, 1) := by decide +kernel
theorem dX5_told_94 : decode cX5_told 94 = .ok (.invokevirtual 125, 3) := by decide +kernel
theorem dX5_told_97 : decode cX5_told 97 = .ok (.invokevirtual 159, 3) := by decide +kernel
theorem dX5_told_100 : decode cX5_told 100 = .ok (.ireturn, 1) := by decide +kernel
theorem dX5_told_101 : decode cX5_told 101 = .ok (.aload_n 3, 1) := by decide +kernel
theorem dX5_told_102 : decode cX5_told 102 = .ok (.aload_n 0, 1) := by decide +kernel
theorem dX5_told_103 : decode cX5_told 103 = .ok (.invokevirtual 125, 3) := by decide +kernel
theorem dX5_told_106 : decode cX5_told 106 = .ok (.invokevirtual 163, 3) := by decide +kernel
theorem dX5_told_109 : decode cX5_told 109 = .ok (.ireturn, 1) := by decide +kernel
theorem dX5_told_110 : decode cX5_told 110 = .ok (.aload_n 3, 1) := by decide +kernel
theorem dX5_told_111 : decode cX5_told 111 = .ok (.aload_n 0, 1) := by decide +kernel
theorem dX5_told_112 : decode cX5_told 112 = .ok (.invokevirtual 125, 3) := by decide +kernel
theorem dX5_told_115 : decode cX5_told 115 = .ok (.aload_n 0, 1) := by decide +kernel
theorem dX5_told_116 : decode cX5_told 116 = .ok (.getfield 10, 3) := by decide +kernel
theorem dX5_told_119 : decode cX5_told 119 = .ok (.getfield 97, 3) := by decide +kernel
theorem dX5_told_122 : decode cX5_told 122 = .ok (.invokevirtual 166, 3) := by decide +kernel
theorem dX5_told_125 : decode cX5_told 125 = .ok (.ireturn, 1) := by decide +kernel
theorem dX5_told_126 : decode cX5_told 126 = .ok (.aload_n 3, 1) := by decide +kernel
theorem dX5_told_127 : decode cX5_told 127 = .ok (.getfield 170, 3) := by decide +kernel
theorem dX5_told_130 : decode cX5_told 130 = .ok (.ireturn, 1) := by decide +kernel
theorem dX5_told_131 : decode cX5_told 131 = .ok (.iload_n 2, 1) := by decide +kernel
theorem dX5_told_132 : decode cX5_told 132 = .ok (.bipush 20, 2) := by decide +kernel
theorem dX5_told_134 : decode cX5_told 134 = .ok (.if_icmp .lt 25, 3) := by decide +kernel
theorem dX5_told_137 : decode cX5_told 137 = .ok (.iload_n 2, 1) := by decide +kernel
theorem dX5_told_138 : decode cX5_told 138 = .ok (.bipush 20, 2) := by decide +kernel
theorem dX5_told_140 : decode cX5_told 140 = .ok (.isub, 1) := by decide +kernel
theorem dX5_told_141 : decode cX5_told 141 = .ok (.aload_n 3, 1) := by decide +kernel
theorem dX5_told_142 : decode cX5_told 142 = .ok (.getfield 170, 3) := by decide +kernel
theorem dX5_told_145 : decode cX5_told 145 = .ok (.if_icmp .ge 14, 3) := by decide +kernel
theorem dX5_told_148 : decode cX5_told 148 = .ok (.aload_n 3, 1) := by decide +kernel
theorem dX5_told_149 : decode cX5_told 149 = .ok (.iload_n 2, 1) := by decide +kernel
theorem dX5_told_150 : decode cX5_told 150 = .ok (.bipush 20, 2) := by decide +kernel
theorem dX5_told_152 : decode cX5_told 152 = .ok (.isub, 1) := by decide +kernel
theorem dX5_told_153 : decode cX5_told 153 = .ok (.invokevirtual 173, 3) := by decide +kernel
theorem dX5_told_156 : decode cX5_told 156 = .ok (.goto 6, 3) := by decide +kernel
theorem dX5_told_159 : decode cX5_told 159 = .ok (.sipush (-7000), 3) := by decide +kernel
theorem dX5_told_162 : decode cX5_told 162 = .ok (.ireturn, 1) := by decide +kernel
theorem dX5_knit_0 : decode cX5_knit 0 = .ok (.aload_n 0, 1) := by decide +kernel
theorem dX5_knit_1 : decode cX5_knit 1 = .ok (.iload_n 1, 1) := by decide +kernel
theorem dX5_knit_2 : decode cX5_knit 2 = .ok (.invokevirtual 176, 3) := by decide +kernel
theorem dX5_knit_5 : decode cX5_knit 5 = .ok (.istore_n 3, 1) := by decide +kernel
theorem dX5_knit_6 : decode cX5_knit 6 = .ok (.iload_n 3, 1) := by decide +kernel
theorem dX5_knit_7 : decode cX5_knit 7 = .ok (.ifCond .eq 5, 3) := by decide +kernel
theorem dX5_knit_10 : decode cX5_knit 10 = .ok (.iload_n 3, 1) := by decide +kernel
theorem dX5_knit_11 : decode cX5_knit 11 = .ok (.ireturn, 1) := by decide +kernel
theorem dX5_knit_12 : decode cX5_knit 12 = .ok (.aload_n 0, 1) := by decide +kernel
theorem dX5_knit_13 : decode cX5_knit 13 = .ok (.getfield 41, 3) := by decide +kernel
theorem dX5_knit_16 : decode cX5_knit 16 = .ok (.iload_n 1, 1) := by decide +kernel
theorem dX5_knit_17 : decode cX5_knit 17 = .ok (.aaload, 1) := by decide +kernel
theorem dX5_knit_18 : decode cX5_knit 18 = .ok (.astore 4, 2) := by decide +kernel
theorem dX5_knit_20 : decode cX5_knit 20 = .ok (.aload 4, 2) := by decide +kernel
theorem dX5_knit_22 : decode cX5_knit 22 = .ok (.invokevirtual 179, 3) := by decide +kernel
theorem dX5_knit_25 : decode cX5_knit 25 = .ok (.ifCond .ne 6, 3) := by decide +kernel
theorem dX5_knit_28 : decode cX5_knit 28 = .ok (.bipush (-2), 2) := by decide +kernel
theorem dX5_knit_30 : decode cX5_knit 30 = .ok (.ireturn, 1) := by decide +kernel
theorem dX5_knit_31 : decode cX5_knit 31 = .ok (.aload_n 0, 1) := by decide +kernel
theorem dX5_knit_32 : decode cX5_knit 32 = .ok (.getfield 10, 3) := by decide +kernel
theorem dX5_knit_35 : decode cX5_knit 35 = .ok (.iload_n 2, 1) := by decide +kernel
theorem dX5_knit_36 : decode cX5_knit 36 = .ok (.invokevirtual 121, 3) := by decide +kernel
theorem dX5_knit_39 : decode cX5_knit 39 = .ok (.astore 5, 2) := by decide +kernel
theorem dX5_knit_41 : decode cX5_knit 41 = .ok (.aload 5, 2) := by decide +kernel
theorem dX5_knit_43 : decode cX5_knit 43 = .ok (.ifnonnull 6, 3) := by decide +kernel
theorem dX5_knit_46 : decode cX5_knit 46 = .ok (.bipush (-5), 2) := by decide +kernel
theorem dX5_knit_48 : decode cX5_knit 48 = .ok (.ireturn, 1) := by decide +kernel
theorem dX5_knit_49 : decode cX5_knit 49 = .ok (.aload 5, 2) := by decide +kernel
theorem dX5_knit_51 : decode cX5_knit 51 = .ok (.aload 4, 2) := by decide +kernel
theorem dX5_knit_53 : decode cX5_knit 53 = .ok (.invokevirtual 183, 3) := by decide +kernel
theorem dX5_knit_56 : decode cX5_knit 56 = .ok (.aload 5, 2) := by decide +kernel
theorem dX5_knit_58 : decode cX5_knit 58 = .ok (.getfield 170, 3) := by decide +kernel
theorem dX5_knit_61 : decode cX5_knit 61 = .ok (.ireturn, 1) := by decide +kernel
theorem dX5_darn_0 : decode cX5_darn 0 = .ok (.aload_n 0, 1) := by decide +kernel
theorem dX5_darn_1 : decode cX5_darn 1 = .ok (.getfield 10, 3) := by decide +kernel
theorem dX5_darn_4 : decode cX5_darn 4 = .ok (.iload_n 1, 1) := by decide +kernel
theorem dX5_darn_5 : decode cX5_darn 5 = .ok (.invokevirtual 121, 3) := by decide +kernel
theorem dX5_darn_8 : decode cX5_darn 8 = .ok (.astore 4, 2) := by decide +kernel
theorem dX5_darn_10 : decode cX5_darn 10 = .ok (.aload 4, 2) := by decide +kernel
theorem dX5_darn_12 : decode cX5_darn 12 = .ok (.ifnonnull 6, 3) := by decide +kernel
theorem dX5_darn_15 : decode cX5_darn 15 = .ok (.bipush (-5), 2) := by decide +kernel
theorem dX5_darn_17 : decode cX5_darn 17 = .ok (.ireturn, 1) := by decide +kernel
theorem dX5_darn_18 : decode cX5_darn 18 = .ok (.iload_n 2, 1) := by decide +kernel
theorem dX5_darn_19 : decode cX5_darn 19 = .ok (.ifCond .lt 21, 3) := by decide +kernel
theorem dX5_darn_22 : decode cX5_darn 22 = .ok (.iload_n 2, 1) := by decide +kernel
theorem dX5_darn_23 : decode cX5_darn 23 = .ok (.aload 4, 2) := by decide +kernel
theorem dX5_darn_25 : decode cX5_darn 25 = .ok (.getfield 170, 3) := by decide +kernel
theorem dX5_darn_28 : decode cX5_darn 28 = .ok (.if_icmp .ge 12, 3) := by decide +kernel
theorem dX5_darn_31 : decode cX5_darn 31 = .ok (.iload_n 3, 1) := by decide +kernel
theorem dX5_darn_32 : decode cX5_darn 32 = .ok (.ifCond .lt 8, 3) := by decide +kernel
theorem dX5_darn_35 : decode cX5_darn 35 = .ok (.iload_n 3, 1) := by decide +kernel
theorem dX5_darn_36 : decode cX5_darn 36 = .ok (.iconst 5, 1) := by decide +kernel
theorem dX5_darn_37 : decode cX5_darn 37 = .ok (.if_icmp .lt 6, 3) := by decide +kernel
theorem dX5_darn_40 : decode cX5_darn 40 = .ok (.bipush (-7), 2) := by decide +kernel
theorem dX5_darn_42 : decode cX5_darn 42 = .ok (.ireturn, 1) := by decide +kernel
theorem dX5_darn_43 : decode cX5_darn 43 = .ok (.aload 4, 2) := by decide +kernel
theorem dX5_darn_45 : decode cX5_darn 45 = .ok (.iload_n 2, 1) := by decide +kernel
theorem dX5_darn_46 : decode cX5_darn 46 = .ok (.invokevirtual 173, 3) := by decide +kernel
theorem dX5_darn_49 : decode cX5_darn 49 = .ok (.istore 5, 2) := by decide +kernel
theorem dX5_darn_51 : decode cX5_darn 51 = .ok (.aload 4, 2) := by decide +kernel
theorem dX5_darn_53 : decode cX5_darn 53 = .ok (.iload_n 2, 1) := by decide +kernel
theorem dX5_darn_54 : decode cX5_darn 54 = .ok (.iload_n 3, 1) := by decide +kernel
theorem dX5_darn_55 : decode cX5_darn 55 = .ok (.invokevirtual 187, 3) := by decide +kernel
theorem dX5_darn_58 : decode cX5_darn 58 = .ok (.iload 5, 2) := by decide +kernel
theorem dX5_darn_60 : decode cX5_darn 60 = .ok (.ireturn, 1) := by decide +kernel
theorem dX5_night_0 : decode cX5_night 0 = .ok (.aload_n 0, 1) := by decide +kernel
theorem dX5_night_1 : decode cX5_night 1 = .ok (.getfield 10, 3) := by decide +kernel
theorem dX5_night_4 : decode cX5_night 4 = .ok (.getfield 97, 3) := by decide +kernel
theorem dX5_night_7 : decode cX5_night 7 = .ok (.sipush 999, 3) := by decide +kernel
theorem dX5_night_10 : decode cX5_night 10 = .ok (.if_icmp .lt 6, 3) := by decide +kernel
theorem dX5_night_13 : decode cX5_night 13 = .ok (.bipush (-3), 2) := by decide +kernel
theorem dX5_night_15 : decode cX5_night 15 = .ok (.ireturn, 1) := by decide +kernel
theorem dX5_night_16 : decode cX5_night 16 = .ok (.aload_n 0, 1) := by decide +kernel
theorem dX5_night_17 : decode cX5_night 17 = .ok (.getfield 10, 3) := by decide +kernel
theorem dX5_night_20 : decode cX5_night 20 = .ok (.aload_n 0, 1) := by decide +kernel
theorem dX5_night_21 : decode cX5_night 21 = .ok (.invokevirtual 125, 3) := by decide +kernel
theorem dX5_night_24 : decode cX5_night 24 = .ok (.invokevirtual 190, 3) := by decide +kernel
theorem dX5_night_27 : decode cX5_night 27 = .ok (.ireturn, 1) := by decide +kernel
theorem dX5_run_0 : decode cX5_run 0 = .ok (.iload_n 2, 1) := by decide +kernel
theorem dX5_run_1 : decode cX5_run 1 = .ok (.bipush 10, 2) := by decide +kernel
theorem dX5_run_3 : decode cX5_run 3 = .ok (.if_icmp .lt 7, 3) := by decide +kernel
theorem dX5_run_6 : decode cX5_run 6 = .ok (.iconst 1, 1) := by decide +kernel
theorem dX5_run_7 : decode cX5_run 7 = .ok (.goto 4, 3) := by decide +kernel
theorem dX5_run_10 : decode cX5_run 10 = .ok (.iconst 0, 1) := by decide +kernel
theorem dX5_run_11 : decode cX5_run 11 = .ok (.istore_n 3, 1) := by decide +kernel
theorem dX5_run_12 : decode cX5_run 12 = .ok (.iload_n 2, 1) := by decide +kernel
theorem dX5_run_13 : decode cX5_run 13 = .ok (.bipush 20, 2) := by decide +kernel
theorem dX5_run_15 : decode cX5_run 15 = .ok (.if_icmp .ge 10, 3) := by decide +kernel
theorem dX5_run_18 : decode cX5_run 18 = .ok (.iload_n 2, 1) := by decide +kernel
theorem dX5_run_19 : decode cX5_run 19 = .ok (.bipush 10, 2) := by decide +kernel
theorem dX5_run_21 : decode cX5_run 21 = .ok (.isub, 1) := by decide +kernel
theorem dX5_run_22 : decode cX5_run 22 = .ok (.goto 7, 3) := by decide +kernel
theorem dX5_run_25 : decode cX5_run 25 = .ok (.iload_n 2, 1) := by decide +kernel
theorem dX5_run_26 : decode cX5_run 26 = .ok (.bipush 20, 2) := by decide +kernel
theorem dX5_run_28 : decode cX5_run 28 = .ok (.isub, 1) := by decide +kernel
theorem dX5_run_29 : decode cX5_run 29 = .ok (.istore 4, 2) := by decide +kernel
theorem dX5_run_31 : decode cX5_run 31 = .ok (.iload_n 1, 1) := by decide +kernel
theorem dX5_run_32 : decode cX5_run 32 = .ok (.ifCond .lt 38, 3) := by decide +kernel
theorem dX5_run_35 : decode cX5_run 35 = .ok (.iload_n 1, 1) := by decide +kernel
theorem dX5_run_36 : decode cX5_run 36 = .ok (.bipush 40, 2) := by decide +kernel
theorem dX5_run_38 : decode cX5_run 38 = .ok (.if_icmp .gt 32, 3) := by decide +kernel
theorem dX5_run_41 : decode cX5_run 41 = .ok (.iload_n 2, 1) := by decide +kernel
theorem dX5_run_42 : decode cX5_run 42 = .ok (.ifCond .lt 28, 3) := by decide +kernel
theorem dX5_run_45 : decode cX5_run 45 = .ok (.iload_n 3, 1) := by decide +kernel
theorem dX5_run_46 : decode cX5_run 46 = .ok (.ifCond .ne 8, 3) := by decide +kernel
theorem dX5_run_49 : decode cX5_run 49 = .ok (.iload_n 2, 1) := by decide +kernel
theorem dX5_run_50 : decode cX5_run 50 = .ok (.iconst 2, 1) := by decide +kernel
theorem dX5_run_51 : decode cX5_run 51 = .ok (.if_icmp .gt 19, 3) := by decide +kernel
theorem dX5_run_54 : decode cX5_run 54 = .ok (.iload_n 3, 1) := by decide +kernel
theorem dX5_run_55 : decode cX5_run 55 = .ok (.ifCond .eq 18, 3) := by decide +kernel
theorem dX5_run_58 : decode cX5_run 58 = .ok (.iload 4, 2) := by decide +kernel
theorem dX5_run_60 : decode cX5_run 60 = .ok (.aload_n 0, 1) := by decide +kernel
theorem dX5_run_61 : decode cX5_run 61 = .ok (.getfield 10, 3) := by decide +kernel
theorem dX5_run_64 : decode cX5_run 64 = .ok (.getfield 84, 3) := by decide +kernel
theorem dX5_run_67 : decode cX5_run 67 = .ok (.if_icmp .lt 6, 3) := by decide +kernel
theorem dX5_run_70 : decode cX5_run 70 = .ok (.ldc 193, 2) := by decide +kernel
theorem dX5_run_72 : decode cX5_run 72 = .ok (.ireturn, 1) := by decide +kernel
theorem dX5_run_73 : decode cX5_run 73 = .ok (.aload_n 0, 1) := by decide +kernel
theorem dX5_run_74 : decode cX5_run 74 = .ok (.getfield 16, 3) := by decide +kernel
theorem dX5_run_77 : decode cX5_run 77 = .ok (.aload_n 0, 1) := by decide +kernel
theorem dX5_run_78 : decode cX5_run 78 = .ok (.getfield 10, 3) := by decide +kernel
theorem dX5_run_81 : decode cX5_run 81 = .ok (.invokevirtual 194, 3) := by decide +kernel
theorem dX5_run_84 : decode cX5_run 84 = .ok (.aload_n 0, 1) := by decide +kernel
theorem dX5_run_85 : decode cX5_run 85 = .ok (.iload_n 1, 1) := by decide +kernel
theorem dX5_run_86 : decode cX5_run 86 = .ok (.invokevirtual 198, 3) := by decide +kernel
theorem dX5_run_89 : decode cX5_run 89 = .ok (.istore 5, 2) := by decide +kernel
theorem dX5_run_91 : decode cX5_run 91 = .ok (.iload_n 2, 1) := by decide +kernel
theorem dX5_run_92 : decode cX5_run 92 = .ok (.ifCond .ne 6, 3) := by decide +kernel
theorem dX5_run_95 : decode cX5_run 95 = .ok (.iload 5, 2) := by decide +kernel
theorem dX5_run_97 : decode cX5_run 97 = .ok (.ireturn, 1) := by decide +kernel
theorem dX5_run_98 : decode cX5_run 98 = .ok (.iload_n 2, 1) := by decide +kernel
theorem dX5_run_99 : decode cX5_run 99 = .ok (.iconst 1, 1) := by decide +kernel
theorem dX5_run_100 : decode cX5_run 100 = .ok (.if_icmp .ne 15, 3) := by decide +kernel
theorem dX5_run_103 : decode cX5_run 103 = .ok (.aload_n 0, 1) := by decide +kernel
theorem dX5_run_104 : decode cX5_run 104 = .ok (.getfield 16, 3) := by decide +kernel
theorem dX5_run_107 : decode cX5_run 107 = .ok (.aload_n 0, 1) := by decide +kernel
theorem dX5_run_108 : decode cX5_run 108 = .ok (.invokevirtual 125, 3) := by decide +kernel
theorem dX5_run_111 : decode cX5_run 111 = .ok (.invokevirtual 201, 3) := by decide +kernel
theorem dX5_run_114 : decode cX5_run 114 = .ok (.ireturn, 1) := by decide +kernel
theorem dX5_run_115 : decode cX5_run 115 = .ok (.iload_n 2, 1) := by decide +kernel
theorem dX5_run_116 : decode cX5_run 116 = .ok (.iconst 2, 1) := by decide +kernel
theorem dX5_run_117 : decode cX5_run 117 = .ok (.if_icmp .ne 11, 3) := by decide +kernel
theorem dX5_run_120 : decode cX5_run 120 = .ok (.aload_n 0, 1) := by decide +kernel
theorem dX5_run_121 : decode cX5_run 121 = .ok (.getfield 16, 3) := by decide +kernel
theorem dX5_run_124 : decode cX5_run 124 = .ok (.invokevirtual 204, 3) := by decide +kernel
theorem dX5_run_127 : decode cX5_run 127 = .ok (.ireturn, 1) := by decide +kernel
theorem dX5_run_128 : decode cX5_run 128 = .ok (.aload_n 0, 1) := by decide +kernel
theorem dX5_run_129 : decode cX5_run 129 = .ok (.getfield 16, 3) := by decide +kernel
theorem dX5_run_132 : decode cX5_run 132 = .ok (.iload 4, 2) := by decide +kernel
theorem dX5_run_134 : decode cX5_run 134 = .ok (.invokevirtual 121, 3) := by decide +kernel
theorem dX5_run_137 : decode cX5_run 137 = .ok (.astore 6, 2) := by decide +kernel
theorem dX5_run_139 : decode cX5_run 139 = .ok (.aload 6, 2) := by decide +kernel
theorem dX5_run_141 : decode cX5_run 141 = .ok (.ifnonnull 6, 3) := by decide +kernel
theorem dX5_run_144 : decode cX5_run 144 = .ok (.ldc 193, 2) := by decide +kernel
theorem dX5_run_146 : decode cX5_run 146 = .ok (.ireturn, 1) := by decide +kernel
theorem dX5_run_147 : decode cX5_run 147 = .ok (.iload_n 2, 1) := by decide +kernel
theorem dX5_run_148 : decode cX5_run 148 = .ok (.bipush 20, 2) := by decide +kernel
theorem dX5_run_150 : decode cX5_run 150 = .ok (.if_icmp .ge 11, 3) := by decide +kernel
theorem dX5_run_153 : decode cX5_run 153 = .ok (.aload 6, 2) := by decide +kernel
theorem dX5_run_155 : decode cX5_run 155 = .ok (.getfield 207, 3) := by decide +kernel
theorem dX5_run_158 : decode cX5_run 158 = .ok (.goto 8, 3) := by decide +kernel
theorem dX5_run_161 : decode cX5_run 161 = .ok (.aload 6, 2) := by decide +kernel
theorem dX5_run_163 : decode cX5_run 163 = .ok (.getfield 210, 3) := by decide +kernel
theorem dX5_run_166 : decode cX5_run 166 = .ok (.ireturn, 1) := by decide +kernel
theorem dX5_track_0 : decode cX5_track 0 = .ok (.iload_n 2, 1) := by decide +kernel
theorem dX5_track_1 : decode cX5_track 1 = .ok (.bipush (-2), 2) := by decide +kernel
theorem dX5_track_3 : decode cX5_track 3 = .ok (.if_icmp .ne 11, 3) := by decide +kernel
theorem dX5_track_6 : decode cX5_track 6 = .ok (.aload_n 0, 1) := by decide +kernel
theorem dX5_track_7 : decode cX5_track 7 = .ok (.getfield 10, 3) := by decide +kernel
theorem dX5_track_10 : decode cX5_track 10 = .ok (.getfield 87, 3) := by decide +kernel
theorem dX5_track_13 : decode cX5_track 13 = .ok (.lreturn, 1) := by decide +kernel
theorem dX5_track_14 : decode cX5_track 14 = .ok (.iload_n 1, 1) := by decide +kernel
theorem dX5_track_15 : decode cX5_track 15 = .ok (.ifCond .lt 25, 3) := by decide +kernel
theorem dX5_track_18 : decode cX5_track 18 = .ok (.iload_n 1, 1) := by decide +kernel
theorem dX5_track_19 : decode cX5_track 19 = .ok (.bipush 40, 2) := by decide +kernel
theorem dX5_track_21 : decode cX5_track 21 = .ok (.if_icmp .gt 19, 3) := by decide +kernel
theorem dX5_track_24 : decode cX5_track 24 = .ok (.iload_n 2, 1) := by decide +kernel
theorem dX5_track_25 : decode cX5_track 25 = .ok (.iconst (-1), 1) := by decide +kernel
theorem dX5_track_26 : decode cX5_track 26 = .ok (.if_icmp .lt 14, 3) := by decide +kernel
theorem dX5_track_29 : decode cX5_track 29 = .ok (.iload_n 2, 1) := by decide +kernel
theorem dX5_track_30 : decode cX5_track 30 = .ok (.aload_n 0, 1) := by decide +kernel
theorem dX5_track_31 : decode cX5_track 31 = .ok (.getfield 10, 3) := by decide +kernel
theorem dX5_track_34 : decode cX5_track 34 = .ok (.getfield 84, 3) := by decide +kernel
theorem dX5_track_37 : decode cX5_track 37 = .ok (.if_icmp .lt 7, 3) := by decide +kernel
theorem dX5_track_40 : decode cX5_track 40 = .ok (.ldc2_w 213, 3) := by decide +kernel
theorem dX5_track_43 : decode cX5_track 43 = .ok (.lreturn, 1) := by decide +kernel
theorem dX5_track_44 : decode cX5_track 44 = .ok (.iload_n 2, 1) := by decide +kernel
theorem dX5_track_45 : decode cX5_track 45 = .ok (.iconst (-1), 1) := by decide +kernel
theorem dX5_track_46 : decode cX5_track 46 = .ok (.if_icmp .ne 19, 3) := by decide +kernel
theorem dX5_track_49 : decode cX5_track 49 = .ok (.aload_n 0, 1) := by decide +kernel
theorem dX5_track_50 : decode cX5_track 50 = .ok (.iconst 0, 1) := by decide +kernel
theorem dX5_track_51 : decode cX5_track 51 = .ok (.aload_n 0, 1) := by decide +kernel
theorem dX5_track_52 : decode cX5_track 52 = .ok (.getfield 10, 3) := by decide +kernel
theorem dX5_track_55 : decode cX5_track 55 = .ok (.getfield 84, 3) := by decide +kernel
theorem dX5_track_58 : decode cX5_track 58 = .ok (.iload_n 1, 1) := by decide +kernel
theorem dX5_track_59 : decode cX5_track 59 = .ok (.invokevirtual 215, 3) := by decide +kernel
theorem dX5_track_62 : decode cX5_track 62 = .ok (.goto 12, 3) := by decide +kernel
theorem dX5_track_65 : decode cX5_track 65 = .ok (.aload_n 0, 1) := by decide +kernel
theorem dX5_track_66 : decode cX5_track 66 = .ok (.iload_n 2, 1) := by decide +kernel
theorem dX5_track_67 : decode cX5_track 67 = .ok (.iload_n 2, 1) := by decide +kernel
theorem dX5_track_68 : decode cX5_track 68 = .ok (.iconst 1, 1) := by decide +kernel
theorem dX5_track_69 : decode cX5_track 69 = .ok (.iadd, 1) := by decide +kernel
theorem dX5_track_70 : decode cX5_track 70 = .ok (.iload_n 1, 1) := by decide +kernel
theorem dX5_track_71 : decode cX5_track 71 = .ok (.invokevirtual 215, 3) := by decide +kernel
theorem dX5_track_74 : decode cX5_track 74 = .ok (.lreturn, 1) := by decide +kernel
theorem dX5_comes_0 : decode cX5_comes 0 = .ok (.aload_n 0, 1) := by decide +kernel
theorem dX5_comes_1 : decode cX5_comes 1 = .ok (.iload_n 1, 1) := by decide +kernel
theorem dX5_comes_2 : decode cX5_comes 2 = .ok (.invokevirtual 219, 3) := by decide +kernel
theorem dX5_comes_5 : decode cX5_comes 5 = .ok (.ifCond .ne 6, 3) := by decide +kernel
theorem dX5_comes_8 : decode cX5_comes 8 = .ok (.bipush (-5), 2) := by decide +kernel
theorem dX5_comes_10 : decode cX5_comes 10 = .ok (.ireturn, 1) := by decide +kernel
theorem dX5_comes_11 : decode cX5_comes 11 = .ok (.iload_n 2, 1) := by decide +kernel
theorem dX5_comes_12 : decode cX5_comes 12 = .ok (.invokestatic 106, 3) := by decide +kernel
theorem dX5_comes_15 : decode cX5_comes 15 = .ok (.ifCond .ne 6, 3) := by decide +kernel
theorem dX5_comes_18 : decode cX5_comes 18 = .ok (.bipush (-7), 2) := by decide +kernel
theorem dX5_comes_20 : decode cX5_comes 20 = .ok (.ireturn, 1) := by decide +kernel
theorem dX5_comes_21 : decode cX5_comes 21 = .ok (.iconst 0, 1) := by decide +kernel
theorem dX5_comes_22 : decode cX5_comes 22 = .ok (.istore_n 3, 1) := by decide +kernel
theorem dX5_comes_23 : decode cX5_comes 23 = .ok (.iload_n 3, 1) := by decide +kernel
theorem dX5_comes_24 : decode cX5_comes 24 = .ok (.bipush 60, 2) := by decide +kernel
theorem dX5_comes_26 : decode cX5_comes 26 = .ok (.if_icmp .gt 50, 3) := by decide +kernel
theorem dX5_comes_29 : decode cX5_comes 29 = .ok (.aload_n 0, 1) := by decide +kernel
theorem dX5_comes_30 : decode cX5_comes 30 = .ok (.getfield 25, 3) := by decide +kernel
theorem dX5_comes_33 : decode cX5_comes 33 = .ok (.getfield 207, 3) := by decide +kernel
theorem dX5_comes_36 : decode cX5_comes 36 = .ok (.iload_n 2, 1) := by decide +kernel
theorem dX5_comes_37 : decode cX5_comes 37 = .ok (.if_icmp .ne 5, 3) := by decide +kernel
theorem dX5_comes_40 : decode cX5_comes 40 = .ok (.iload_n 3, 1) := by decide +kernel
theorem dX5_comes_41 : decode cX5_comes 41 = .ok (.ireturn, 1) := by decide +kernel
theorem dX5_comes_42 : decode cX5_comes 42 = .ok (.aload_n 0, 1) := by decide +kernel
theorem dX5_comes_43 : decode cX5_comes 43 = .ok (.getfield 25, 3) := by decide +kernel
theorem dX5_comes_46 : decode cX5_comes 46 = .ok (.aload_n 0, 1) := by decide +kernel
theorem dX5_comes_47 : decode cX5_comes 47 = .ok (.invokevirtual 125, 3) := by decide +kernel
theorem dX5_comes_50 : decode cX5_comes 50 = .ok (.aload_n 0, 1) := by decide +kernel
theorem dX5_comes_51 : decode cX5_comes 51 = .ok (.getfield 10, 3) := by decide +kernel
theorem dX5_comes_54 : decode cX5_comes 54 = .ok (.getfield 97, 3) := by decide +kernel
theorem dX5_comes_57 : decode cX5_comes 57 = .ok (.iload_n 3, 1) := by decide +kernel
theorem dX5_comes_58 : decode cX5_comes 58 = .ok (.iadd, 1) := by decide +kernel
theorem dX5_comes_59 : decode cX5_comes 59 = .ok (.aload_n 0, 1) := by decide +kernel
theorem dX5_comes_60 : decode cX5_comes 60 = .ok (.getfield 10, 3) := by decide +kernel
theorem dX5_comes_63 : decode cX5_comes 63 = .ok (.getfield 87, 3) := by decide +kernel
theorem dX5_comes_66 : decode cX5_comes 66 = .ok (.invokevirtual 222, 3) := by decide +kernel
theorem dX5_comes_69 : decode cX5_comes 69 = .ok (.pop, 1) := by decide +kernel
theorem dX5_comes_70 : decode cX5_comes 70 = .ok (.iinc 3 1, 3) := by decide +kernel
theorem dX5_comes_73 : decode cX5_comes 73 = .ok (.goto (-50), 3) := by decide +kernel
theorem dX5_comes_76 : decode cX5_comes 76 = .ok (.iconst (-1), 1) := by decide +kernel
theorem dX5_comes_77 : decode cX5_comes 77 = .ok (.ireturn, 1) := by decide +kernel
theorem dX5_meet_0 : decode cX5_meet 0 = .ok (.iload_n 1, 1) := by decide +kernel
theorem dX5_meet_1 : decode cX5_meet 1 = .ok (.iload_n 2, 1) := by decide +kernel
theorem dX5_meet_2 : decode cX5_meet 2 = .ok (.if_icmp .eq 25, 3) := by decide +kernel
theorem dX5_meet_5 : decode cX5_meet 5 = .ok (.aload_n 0, 1) := by decide +kernel
theorem dX5_meet_6 : decode cX5_meet 6 = .ok (.getfield 10, 3) := by decide +kernel
theorem dX5_meet_9 : decode cX5_meet 9 = .ok (.iload_n 1, 1) := by decide +kernel
theorem dX5_meet_10 : decode cX5_meet 10 = .ok (.invokevirtual 121, 3) := by decide +kernel
theorem dX5_meet_13 : decode cX5_meet 13 = .ok (.ifnull 14, 3) := by decide +kernel
theorem dX5_meet_16 : decode cX5_meet 16 = .ok (.aload_n 0, 1) := by decide +kernel
theorem dX5_meet_17 : decode cX5_meet 17 = .ok (.getfield 10, 3) := by decide +kernel
theorem dX5_meet_20 : decode cX5_meet 20 = .ok (.iload_n 2, 1) := by decide +kernel
theorem dX5_meet_21 : decode cX5_meet 21 = .ok (.invokevirtual 121, 3) := by decide +kernel
theorem dX5_meet_24 : decode cX5_meet 24 = .ok (.ifnonnull 6, 3) := by decide +kernel
theorem dX5_meet_27 : decode cX5_meet 27 = .ok (.bipush (-5), 2) := by decide +kernel
theorem dX5_meet_29 : decode cX5_meet 29 = .ok (.ireturn, 1) := by decide +kernel
theorem dX5_meet_30 : decode cX5_meet 30 = .ok (.aload_n 0, 1) := by decide +kernel
theorem dX5_meet_31 : decode cX5_meet 31 = .ok (.getfield 16, 3) := by decide +kernel
theorem dX5_meet_34 : decode cX5_meet 34 = .ok (.aload_n 0, 1) := by decide +kernel
theorem dX5_meet_35 : decode cX5_meet 35 = .ok (.getfield 10, 3) := by decide +kernel
theorem dX5_meet_38 : decode cX5_meet 38 = .ok (.invokevirtual 194, 3) := by decide +kernel
theorem dX5_meet_41 : decode cX5_meet 41 = .ok (.aload_n 0, 1) := by decide +kernel
theorem dX5_meet_42 : decode cX5_meet 42 = .ok (.getfield 16, 3) := by decide +kernel
theorem dX5_meet_45 : decode cX5_meet 45 = .ok (.iload_n 1, 1) := by decide +kernel
theorem dX5_meet_46 : decode cX5_meet 46 = .ok (.invokevirtual 121, 3) := by decide +kernel
theorem dX5_meet_49 : decode cX5_meet 49 = .ok (.astore_n 3, 1) := by decide +kernel
theorem dX5_meet_50 : decode cX5_meet 50 = .ok (.aload_n 0, 1) := by decide +kernel
theorem dX5_meet_51 : decode cX5_meet 51 = .ok (.getfield 16, 3) := by decide +kernel
theorem dX5_meet_54 : decode cX5_meet 54 = .ok (.iload_n 2, 1) := by decide +kernel
theorem dX5_meet_55 : decode cX5_meet 55 = .ok (.invokevirtual 121, 3) := by decide +kernel
theorem dX5_meet_58 : decode cX5_meet 58 = .ok (.astore 4, 2) := by decide +kernel
theorem dX5_meet_60 : decode cX5_meet 60 = .ok (.aload_n 3, 1) := by decide +kernel
theorem dX5_meet_61 : decode cX5_meet 61 = .ok (.ifnull 8, 3) := by decide +kernel
theorem dX5_meet_64 : decode cX5_meet 64 = .ok (.aload 4, 2) := by decide +kernel
theorem dX5_meet_66 : decode cX5_meet 66 = .ok (.ifnonnull 6, 3) := by decide +kernel
theorem dX5_meet_69 : decode cX5_meet 69 = .ok (.bipush (-5), 2) := by decide +kernel
theorem dX5_meet_71 : decode cX5_meet 71 = .ok (.ireturn, 1) := by decide +kernel
theorem dX5_meet_72 : decode cX5_meet 72 = .ok (.iconst 0, 1) := by decide +kernel
theorem dX5_meet_73 : decode cX5_meet 73 = .ok (.istore 5, 2) := by decide +kernel
theorem dX5_meet_75 : decode cX5_meet 75 = .ok (.iload 5, 2) := by decide +kernel
theorem dX5_meet_77 : decode cX5_meet 77 = .ok (.bipush 60, 2) := by decide +kernel
theorem dX5_meet_79 : decode cX5_meet 79 = .ok (.if_icmp .gt 36, 3) := by decide +kernel
theorem dX5_meet_82 : decode cX5_meet 82 = .ok (.aload_n 3, 1) := by decide +kernel
theorem dX5_meet_83 : decode cX5_meet 83 = .ok (.getfield 207, 3) := by decide +kernel
theorem dX5_meet_86 : decode cX5_meet 86 = .ok (.aload 4, 2) := by decide +kernel
theorem dX5_meet_88 : decode cX5_meet 88 = .ok (.getfield 207, 3) := by decide +kernel
theorem dX5_meet_91 : decode cX5_meet 91 = .ok (.if_icmp .ne 6, 3) := by decide +kernel
theorem dX5_meet_94 : decode cX5_meet 94 = .ok (.iload 5, 2) := by decide +kernel
theorem dX5_meet_96 : decode cX5_meet 96 = .ok (.ireturn, 1) := by decide +kernel
theorem dX5_meet_97 : decode cX5_meet 97 = .ok (.aload_n 0, 1) := by decide +kernel
theorem dX5_meet_98 : decode cX5_meet 98 = .ok (.getfield 16, 3) := by decide +kernel
theorem dX5_meet_101 : decode cX5_meet 101 = .ok (.aload_n 0, 1) := by decide +kernel
theorem dX5_meet_102 : decode cX5_meet 102 = .ok (.invokevirtual 125, 3) := by decide +kernel
theorem dX5_meet_105 : decode cX5_meet 105 = .ok (.invokevirtual 190, 3) := by decide +kernel
theorem dX5_meet_108 : decode cX5_meet 108 = .ok (.pop, 1) := by decide +kernel
theorem dX5_meet_109 : decode cX5_meet 109 = .ok (.iinc 5 1, 3) := by decide +kernel
theorem dX5_meet_112 : decode cX5_meet 112 = .ok (.goto (-37), 3) := by decide +kernel
theorem dX5_meet_115 : decode cX5_meet 115 = .ok (.iconst (-1), 1) := by decide +kernel
theorem dX5_meet_116 : decode cX5_meet 116 = .ok (.ireturn, 1) := by decide +kernel
theorem dX5_alike_0 : decode cX5_alike 0 = .ok (.aload_n 0, 1) := by decide +kernel
theorem dX5_alike_1 : decode cX5_alike 1 = .ok (.getfield 10, 3) := by decide +kernel
theorem dX5_alike_4 : decode cX5_alike 4 = .ok (.iload_n 1, 1) := by decide +kernel
theorem dX5_alike_5 : decode cX5_alike 5 = .ok (.invokevirtual 121, 3) := by decide +kernel
theorem dX5_alike_8 : decode cX5_alike 8 = .ok (.astore 4, 2) := by decide +kernel
theorem dX5_alike_10 : decode cX5_alike 10 = .ok (.aload_n 0, 1) := by decide +kernel
theorem dX5_alike_11 : decode cX5_alike 11 = .ok (.getfield 10, 3) := by decide +kernel
theorem dX5_alike_14 : decode cX5_alike 14 = .ok (.iload_n 2, 1) := by decide +kernel
theorem dX5_alike_15 : decode cX5_alike 15 = .ok (.invokevirtual 121, 3) := by decide +kernel
theorem dX5_alike_18 : decode cX5_alike 18 = .ok (.astore 5, 2) := by decide +kernel
theorem dX5_alike_20 : decode cX5_alike 20 = .ok (.aload 4, 2) := by decide +kernel
theorem dX5_alike_22 : decode cX5_alike 22 = .ok (.ifnull 8, 3) := by decide +kernel
theorem dX5_alike_25 : decode cX5_alike 25 = .ok (.aload 5, 2) := by decide +kernel
theorem dX5_alike_27 : decode cX5_alike 27 = .ok (.ifnonnull 6, 3) := by decide +kernel
theorem dX5_alike_30 : decode cX5_alike 30 = .ok (.bipush (-5), 2) := by decide +kernel
theorem dX5_alike_32 : decode cX5_alike 32 = .ok (.ireturn, 1) := by decide +kernel
theorem dX5_alike_33 : decode cX5_alike 33 = .ok (.iload_n 3, 1) := by decide +kernel
theorem dX5_alike_34 : decode cX5_alike 34 = .ok (.ifCond .ne 11, 3) := by decide +kernel
theorem dX5_alike_37 : decode cX5_alike 37 = .ok (.aload 4, 2) := by decide +kernel
theorem dX5_alike_39 : decode cX5_alike 39 = .ok (.aload 5, 2) := by decide +kernel
theorem dX5_alike_41 : decode cX5_alike 41 = .ok (.invokestatic 226, 3) := by decide +kernel
theorem dX5_alike_44 : decode cX5_alike 44 = .ok (.ireturn, 1) := by decide +kernel
theorem dX5_alike_45 : decode cX5_alike 45 = .ok (.iload_n 3, 1) := by decide +kernel
theorem dX5_alike_46 : decode cX5_alike 46 = .ok (.iconst 1, 1) := by decide +kernel
theorem dX5_alike_47 : decode cX5_alike 47 = .ok (.if_icmp .ne 13, 3) := by decide +kernel
theorem dX5_alike_50 : decode cX5_alike 50 = .ok (.aload 4, 2) := by decide +kernel
theorem dX5_alike_52 : decode cX5_alike 52 = .ok (.aload 5, 2) := by decide +kernel
theorem dX5_alike_54 : decode cX5_alike 54 = .ok (.invokestatic 230, 3) := by decide +kernel
theorem dX5_alike_57 : decode cX5_alike 57 = .ok (.goto 5, 3) := by decide +kernel
theorem dX5_alike_60 : decode cX5_alike 60 = .ok (.bipush (-7), 2) := by decide +kernel
theorem dX5_alike_62 : decode cX5_alike 62 = .ok (.ireturn, 1) := by decide +kernel
theorem dX5_anew_0 : decode cX5_anew 0 = .ok (.aload_n 0, 1) := by decide +kernel
theorem dX5_anew_1 : decode cX5_anew 1 = .ok (.getfield 10, 3) := by decide +kernel
theorem dX5_anew_4 : decode cX5_anew 4 = .ok (.iload_n 1, 1) := by decide +kernel
theorem dX5_anew_5 : decode cX5_anew 5 = .ok (.invokevirtual 121, 3) := by decide +kernel
theorem dX5_anew_8 : decode cX5_anew 8 = .ok (.astore 5, 2) := by decide +kernel
theorem dX5_anew_10 : decode cX5_anew 10 = .ok (.aload 5, 2) := by decide +kernel
theorem dX5_anew_12 : decode cX5_anew 12 = .ok (.ifnonnull 6, 3) := by decide +kernel
theorem dX5_anew_15 : decode cX5_anew 15 = .ok (.bipush (-5), 2) := by decide +kernel
theorem dX5_anew_17 : decode cX5_anew 17 = .ok (.ireturn, 1) := by decide +kernel
theorem dX5_anew_18 : decode cX5_anew 18 = .ok (.iload_n 2, 1) := by decide +kernel
theorem dX5_anew_19 : decode cX5_anew 19 = .ok (.invokestatic 106, 3) := by decide +kernel
theorem dX5_anew_22 : decode cX5_anew 22 = .ok (.ifCond .eq 24, 3) := by decide +kernel
theorem dX5_anew_25 : decode cX5_anew 25 = .ok (.iload_n 3, 1) := by decide +kernel
theorem dX5_anew_26 : decode cX5_anew 26 = .ok (.ifCond .lt 20, 3) := by decide +kernel
theorem dX5_anew_29 : decode cX5_anew 29 = .ok (.iload_n 3, 1) := by decide +kernel
theorem dX5_anew_30 : decode cX5_anew 30 = .ok (.bipush 20, 2) := by decide +kernel
theorem dX5_anew_32 : decode cX5_anew 32 = .ok (.if_icmp .gt 14, 3) := by decide +kernel
theorem dX5_anew_35 : decode cX5_anew 35 = .ok (.iload 4, 2) := by decide +kernel
theorem dX5_anew_37 : decode cX5_anew 37 = .ok (.ifCond .eq 12, 3) := by decide +kernel
theorem dX5_anew_40 : decode cX5_anew 40 = .ok (.iload 4, 2) := by decide +kernel
theorem dX5_anew_42 : decode cX5_anew 42 = .ok (.iconst 1, 1) := by decide +kernel
theorem dX5_anew_43 : decode cX5_anew 43 = .ok (.if_icmp .eq 6, 3) := by decide +kernel
theorem dX5_anew_46 : decode cX5_anew 46 = .ok (.bipush (-7), 2) := by decide +kernel
theorem dX5_anew_48 : decode cX5_anew 48 = .ok (.ireturn, 1) := by decide +kernel
theorem dX5_anew_49 : decode cX5_anew 49 = .ok (.aload_n 0, 1) := by decide +kernel
theorem dX5_anew_50 : decode cX5_anew 50 = .ok (.iload_n 1, 1) := by decide +kernel
theorem dX5_anew_51 : decode cX5_anew 51 = .ok (.iconst (-1), 1) := by decide +kernel
theorem dX5_anew_52 : decode cX5_anew 52 = .ok (.iconst 0, 1) := by decide +kernel
theorem dX5_anew_53 : decode cX5_anew 53 = .ok (.iload_n 2, 1) := by decide +kernel
theorem dX5_anew_54 : decode cX5_anew 54 = .ok (.iload_n 3, 1) := by decide +kernel
theorem dX5_anew_55 : decode cX5_anew 55 = .ok (.invokevirtual 233, 3) := by decide +kernel
theorem dX5_anew_58 : decode cX5_anew 58 = .ok (.istore 6, 2) := by decide +kernel
theorem dX5_anew_60 : decode cX5_anew 60 = .ok (.iconst (-1), 1) := by decide +kernel
theorem dX5_anew_61 : decode cX5_anew 61 = .ok (.istore 7, 2) := by decide +kernel
theorem dX5_anew_63 : decode cX5_anew 63 = .ok (.iconst 0, 1) := by decide +kernel
theorem dX5_anew_64 : decode cX5_anew 64 = .ok (.istore 8, 2) := by decide +kernel
theorem dX5_anew_66 : decode cX5_anew 66 = .ok (.iload 8, 2) := by decide +kernel
theorem dX5_anew_68 : decode cX5_anew 68 = .ok (.aload 5, 2) := by decide +kernel
theorem dX5_anew_70 : decode cX5_anew 70 = .ok (.getfield 170, 3) := by decide +kernel
theorem dX5_anew_73 : decode cX5_anew 73 = .ok (.if_icmp .ge 58, 3) := by decide +kernel
theorem dX5_anew_76 : decode cX5_anew 76 = .ok (.iconst 0, 1) := by decide +kernel
theorem dX5_anew_77 : decode cX5_anew 77 = .ok (.istore 9, 2) := by decide +kernel
theorem dX5_anew_79 : decode cX5_anew 79 = .ok (.iload 9, 2) := by decide +kernel
theorem dX5_anew_81 : decode cX5_anew 81 = .ok (.iconst 5, 1) := by decide +kernel
theorem dX5_anew_82 : decode cX5_anew 82 = .ok (.if_icmp .ge 43, 3) := by decide +kernel
theorem dX5_anew_85 : decode cX5_anew 85 = .ok (.aload_n 0, 1) := by decide +kernel
theorem dX5_anew_86 : decode cX5_anew 86 = .ok (.iload_n 1, 1) := by decide +kernel
theorem dX5_anew_87 : decode cX5_anew 87 = .ok (.iload 8, 2) := by decide +kernel
theorem dX5_anew_89 : decode cX5_anew 89 = .ok (.iload 9, 2) := by decide +kernel
theorem dX5_anew_91 : decode cX5_anew 91 = .ok (.iload_n 2, 1) := by decide +kernel
theorem dX5_anew_92 : decode cX5_anew 92 = .ok (.iload_n 3, 1) := by decide +kernel
theorem dX5_anew_93 : decode cX5_anew 93 = .ok (.invokevirtual 233, 3) := by decide +kernel
theorem dX5_anew_96 : decode cX5_anew 96 = .ok (.istore 10, 2) := by decide +kernel
theorem dX5_anew_98 : decode cX5_anew 98 = .ok (.iload 10, 2) := by decide +kernel
theorem dX5_anew_100 : decode cX5_anew 100 = .ok (.iload 6, 2) := by decide +kernel
theorem dX5_anew_102 : decode cX5_anew 102 = .ok (.if_icmp .ge 17, 3) := by decide +kernel
theorem dX5_anew_105 : decode cX5_anew 105 = .ok (.iload 10, 2) := by decide +kernel
theorem dX5_anew_107 : decode cX5_anew 107 = .ok (.istore 6, 2) := by decide +kernel
theorem dX5_anew_109 : decode cX5_anew 109 = .ok (.bipush 10, 2) := by decide +kernel
theorem dX5_anew_111 : decode cX5_anew 111 = .ok (.iload 8, 2) := by decide +kernel
theorem dX5_anew_113 : decode cX5_anew 113 = .ok (.imul, 1) := by decide +kernel
theorem dX5_anew_114 : decode cX5_anew 114 = .ok (.iload 9, 2) := by decide +kernel
theorem dX5_anew_116 : decode cX5_anew 116 = .ok (.iadd, 1) := by decide +kernel
theorem dX5_anew_117 : decode cX5_anew 117 = .ok (.istore 7, 2) := by decide +kernel
theorem dX5_anew_119 : decode cX5_anew 119 = .ok (.iinc 9 1, 3) := by decide +kernel
theorem dX5_anew_122 : decode cX5_anew 122 = .ok (.goto (-43), 3) := by decide +kernel
theorem dX5_anew_125 : decode cX5_anew 125 = .ok (.iinc 8 1, 3) := by decide +kernel
theorem dX5_anew_128 : decode cX5_anew 128 = .ok (.goto (-62), 3) := by decide +kernel
theorem dX5_anew_131 : decode cX5_anew 131 = .ok (.iload 4, 2) := by decide +kernel
theorem dX5_anew_133 : decode cX5_anew 133 = .ok (.ifCond .ne 8, 3) := by decide +kernel
theorem dX5_anew_136 : decode cX5_anew 136 = .ok (.iload 7, 2) := by decide +kernel
theorem dX5_anew_138 : decode cX5_anew 138 = .ok (.goto 5, 3) := by decide +kernel
theorem dX5_anew_141 : decode cX5_anew 141 = .ok (.iload 6, 2) := by decide +kernel
theorem dX5_anew_143 : decode cX5_anew 143 = .ok (.ireturn, 1) := by decide +kernel
theorem dX5_drain_0 : decode cX5_drain 0 = .ok (.iload_n 1, 1) := by decide +kernel
theorem dX5_drain_1 : decode cX5_drain 1 = .ok (.ifCond .lt 18, 3) := by decide +kernel
theorem dX5_drain_4 : decode cX5_drain 4 = .ok (.iload_n 1, 1) := by decide +kernel
theorem dX5_drain_5 : decode cX5_drain 5 = .ok (.bipush 20, 2) := by decide +kernel
theorem dX5_drain_7 : decode cX5_drain 7 = .ok (.if_icmp .gt 12, 3) := by decide +kernel
theorem dX5_drain_10 : decode cX5_drain 10 = .ok (.iload_n 2, 1) := by decide +kernel
theorem dX5_drain_11 : decode cX5_drain 11 = .ok (.ifCond .eq 11, 3) := by decide +kernel
theorem dX5_drain_14 : decode cX5_drain 14 = .ok (.iload_n 2, 1) := by decide +kernel
theorem dX5_drain_15 : decode cX5_drain 15 = .ok (.iconst 1, 1) := by decide +kernel
theorem dX5_drain_16 : decode cX5_drain 16 = .ok (.if_icmp .eq 6, 3) := by decide +kernel
theorem dX5_drain_19 : decode cX5_drain 19 = .ok (.bipush (-2), 2) := by decide +kernel
theorem dX5_drain_21 : decode cX5_drain 21 = .ok (.ireturn, 1) := by decide +kernel
theorem dX5_drain_22 : decode cX5_drain 22 = .ok (.aload_n 0, 1) := by decide +kernel
theorem dX5_drain_23 : decode cX5_drain 23 = .ok (.getfield 16, 3) := by decide +kernel
theorem dX5_drain_26 : decode cX5_drain 26 = .ok (.aload_n 0, 1) := by decide +kernel
theorem dX5_drain_27 : decode cX5_drain 27 = .ok (.getfield 10, 3) := by decide +kernel
theorem dX5_drain_30 : decode cX5_drain 30 = .ok (.invokevirtual 194, 3) := by decide +kernel
theorem dX5_drain_33 : decode cX5_drain 33 = .ok (.aload_n 0, 1) := by decide +kernel
theorem dX5_drain_34 : decode cX5_drain 34 = .ok (.iload_n 1, 1) := by decide +kernel
theorem dX5_drain_35 : decode cX5_drain 35 = .ok (.invokevirtual 198, 3) := by decide +kernel
theorem dX5_drain_38 : decode cX5_drain 38 = .ok (.istore_n 3, 1) := by decide +kernel
theorem dX5_drain_39 : decode cX5_drain 39 = .ok (.iconst (-1), 1) := by decide +kernel
theorem dX5_drain_40 : decode cX5_drain 40 = .ok (.istore 4, 2) := by decide +kernel
theorem dX5_drain_42 : decode cX5_drain 42 = .ok (.iconst 0, 1) := by decide +kernel
theorem dX5_drain_43 : decode cX5_drain 43 = .ok (.istore 5, 2) := by decide +kernel
theorem dX5_drain_45 : decode cX5_drain 45 = .ok (.iload 5, 2) := by decide +kernel
theorem dX5_drain_47 : decode cX5_drain 47 = .ok (.bipush 64, 2) := by decide +kernel
theorem dX5_drain_49 : decode cX5_drain 49 = .ok (.if_icmp .ge 78, 3) := by decide +kernel
theorem dX5_drain_52 : decode cX5_drain 52 = .ok (.aload_n 0, 1) := by decide +kernel
theorem dX5_drain_53 : decode cX5_drain 53 = .ok (.getfield 10, 3) := by decide +kernel
theorem dX5_drain_56 : decode cX5_drain 56 = .ok (.getfield 87, 3) := by decide +kernel
theorem dX5_drain_59 : decode cX5_drain 59 = .ok (.iload 5, 2) := by decide +kernel
theorem dX5_drain_61 : decode cX5_drain 61 = .ok (.invokestatic 110, 3) := by decide +kernel
theorem dX5_drain_64 : decode cX5_drain 64 = .ok (.ifCond .ne 6, 3) := by decide +kernel
theorem dX5_drain_67 : decode cX5_drain 67 = .ok (.goto 54, 3) := by decide +kernel
theorem dX5_drain_70 : decode cX5_drain 70 = .ok (.aload_n 0, 1) := by decide +kernel
theorem dX5_drain_71 : decode cX5_drain 71 = .ok (.getfield 16, 3) := by decide +kernel
theorem dX5_drain_74 : decode cX5_drain 74 = .ok (.aload_n 0, 1) := by decide +kernel
theorem dX5_drain_75 : decode cX5_drain 75 = .ok (.getfield 10, 3) := by decide +kernel
theorem dX5_drain_78 : decode cX5_drain 78 = .ok (.invokevirtual 194, 3) := by decide +kernel
theorem dX5_drain_81 : decode cX5_drain 81 = .ok (.aload_n 0, 1) := by decide +kernel
theorem dX5_drain_82 : decode cX5_drain 82 = .ok (.getfield 16, 3) := by decide +kernel
theorem dX5_drain_85 : decode cX5_drain 85 = .ok (.dup, 1) := by decide +kernel
theorem dX5_drain_86 : decode cX5_drain 86 = .ok (.getfield 87, 3) := by decide +kernel
theorem dX5_drain_89 : decode cX5_drain 89 = .ok (.lconst 1, 1) := by decide +kernel
theorem dX5_drain_90 : decode cX5_drain 90 = .ok (.iload 5, 2) := by decide +kernel
theorem dX5_drain_92 : decode cX5_drain 92 = .ok (.lshl, 1) := by decide +kernel
theorem dX5_drain_93 : decode cX5_drain 93 = .ok (.ldc2_w 237, 3) := by decide +kernel
theorem dX5_drain_96 : decode cX5_drain 96 = .ok (.lxor, 1) := by decide +kernel
theorem dX5_drain_97 : decode cX5_drain 97 = .ok (.land, 1) := by decide +kernel
theorem dX5_drain_98 : decode cX5_drain 98 = .ok (.putfield 87, 3) := by decide +kernel
theorem dX5_drain_101 : decode cX5_drain 101 = .ok (.aload_n 0, 1) := by decide +kernel
theorem dX5_drain_102 : decode cX5_drain 102 = .ok (.iload_n 1, 1) := by decide +kernel
theorem dX5_drain_103 : decode cX5_drain 103 = .ok (.invokevirtual 198, 3) := by decide +kernel
theorem dX5_drain_106 : decode cX5_drain 106 = .ok (.istore 6, 2) := by decide +kernel
theorem dX5_drain_108 : decode cX5_drain 108 = .ok (.iload 6, 2) := by decide +kernel
theorem dX5_drain_110 : decode cX5_drain 110 = .ok (.iload_n 3, 1) := by decide +kernel
theorem dX5_drain_111 : decode cX5_drain 111 = .ok (.if_icmp .le 10, 3) := by decide +kernel
theorem dX5_drain_114 : decode cX5_drain 114 = .ok (.iload 6, 2) := by decide +kernel
theorem dX5_drain_116 : decode cX5_drain 116 = .ok (.istore_n 3, 1) := by decide +kernel
theorem dX5_drain_117 : decode cX5_drain 117 = .ok (.iload 5, 2) := by decide +kernel
theorem dX5_drain_119 : decode cX5_drain 119 = .ok (.istore 4, 2) := by decide +kernel
theorem dX5_drain_121 : decode cX5_drain 121 = .ok (.iinc 5 1, 3) := by decide +kernel
theorem dX5_drain_124 : decode cX5_drain 124 = .ok (.goto (-79), 3) := by decide +kernel
theorem dX5_drain_127 : decode cX5_drain 127 = .ok (.iload_n 2, 1) := by decide +kernel
theorem dX5_drain_128 : decode cX5_drain 128 = .ok (.ifCond .ne 8, 3) := by decide +kernel
theorem dX5_drain_131 : decode cX5_drain 131 = .ok (.iload 4, 2) := by decide +kernel
theorem dX5_drain_133 : decode cX5_drain 133 = .ok (.goto 4, 3) := by decide +kernel
theorem dX5_drain_136 : decode cX5_drain 136 = .ok (.iload_n 3, 1) := by decide +kernel
theorem dX5_drain_137 : decode cX5_drain 137 = .ok (.ireturn, 1) := by decide +kernel
theorem dX5_turn_0 : decode cX5_turn 0 = .ok (.aload_n 0, 1) := by decide +kernel
theorem dX5_turn_1 : decode cX5_turn 1 = .ok (.getfield 10, 3) := by decide +kernel
theorem dX5_turn_4 : decode cX5_turn 4 = .ok (.iload_n 1, 1) := by decide +kernel
theorem dX5_turn_5 : decode cX5_turn 5 = .ok (.invokevirtual 121, 3) := by decide +kernel
theorem dX5_turn_8 : decode cX5_turn 8 = .ok (.ifnonnull 6, 3) := by decide +kernel
theorem dX5_turn_11 : decode cX5_turn 11 = .ok (.bipush (-5), 2) := by decide +kernel
theorem dX5_turn_13 : decode cX5_turn 13 = .ok (.ireturn, 1) := by decide +kernel
theorem dX5_turn_14 : decode cX5_turn 14 = .ok (.iload_n 2, 1) := by decide +kernel
theorem dX5_turn_15 : decode cX5_turn 15 = .ok (.ifCond .lt 18, 3) := by decide +kernel
theorem dX5_turn_18 : decode cX5_turn 18 = .ok (.iload_n 2, 1) := by decide +kernel
theorem dX5_turn_19 : decode cX5_turn 19 = .ok (.bipush 40, 2) := by decide +kernel
theorem dX5_turn_21 : decode cX5_turn 21 = .ok (.if_icmp .gt 12, 3) := by decide +kernel
theorem dX5_turn_24 : decode cX5_turn 24 = .ok (.iload_n 3, 1) := by decide +kernel
theorem dX5_turn_25 : decode cX5_turn 25 = .ok (.ifCond .eq 11, 3) := by decide +kernel
theorem dX5_turn_28 : decode cX5_turn 28 = .ok (.iload_n 3, 1) := by decide +kernel
theorem dX5_turn_29 : decode cX5_turn 29 = .ok (.iconst 1, 1) := by decide +kernel
theorem dX5_turn_30 : decode cX5_turn 30 = .ok (.if_icmp .eq 6, 3) := by decide +kernel
theorem dX5_turn_33 : decode cX5_turn 33 = .ok (.bipush (-7), 2) := by decide +kernel
theorem dX5_turn_35 : decode cX5_turn 35 = .ok (.ireturn, 1) := by decide +kernel
theorem dX5_turn_36 : decode cX5_turn 36 = .ok (.iconst (-1), 1) := by decide +kernel
theorem dX5_turn_37 : decode cX5_turn 37 = .ok (.istore 4, 2) := by decide +kernel
theorem dX5_turn_39 : decode cX5_turn 39 = .ok (.iconst 0, 1) := by decide +kernel
theorem dX5_turn_40 : decode cX5_turn 40 = .ok (.istore 5, 2) := by decide +kernel
theorem dX5_turn_42 : decode cX5_turn 42 = .ok (.iconst 0, 1) := by decide +kernel
theorem dX5_turn_43 : decode cX5_turn 43 = .ok (.istore 6, 2) := by decide +kernel
theorem dX5_turn_45 : decode cX5_turn 45 = .ok (.iload 6, 2) := by decide +kernel
theorem dX5_turn_47 : decode cX5_turn 47 = .ok (.iconst 4, 1) := by decide +kernel
theorem dX5_turn_48 : decode cX5_turn 48 = .ok (.if_icmp .ge 60, 3) := by decide +kernel
theorem dX5_turn_51 : decode cX5_turn 51 = .ok (.aload_n 0, 1) := by decide +kernel
theorem dX5_turn_52 : decode cX5_turn 52 = .ok (.iload_n 1, 1) := by decide +kernel
theorem dX5_turn_53 : decode cX5_turn 53 = .ok (.invokevirtual 219, 3) := by decide +kernel
theorem dX5_turn_56 : decode cX5_turn 56 = .ok (.pop, 1) := by decide +kernel
theorem dX5_turn_57 : decode cX5_turn 57 = .ok (.aload_n 0, 1) := by decide +kernel
theorem dX5_turn_58 : decode cX5_turn 58 = .ok (.getfield 25, 3) := by decide +kernel
theorem dX5_turn_61 : decode cX5_turn 61 = .ok (.iload 6, 2) := by decide +kernel
theorem dX5_turn_63 : decode cX5_turn 63 = .ok (.putfield 239, 3) := by decide +kernel
theorem dX5_turn_66 : decode cX5_turn 66 = .ok (.aload_n 0, 1) := by decide +kernel
theorem dX5_turn_67 : decode cX5_turn 67 = .ok (.iload_n 2, 1) := by decide +kernel
theorem dX5_turn_68 : decode cX5_turn 68 = .ok (.invokevirtual 242, 3) := by decide +kernel
theorem dX5_turn_71 : decode cX5_turn 71 = .ok (.iload 4, 2) := by decide +kernel
theorem dX5_turn_73 : decode cX5_turn 73 = .ok (.iconst (-1), 1) := by decide +kernel
theorem dX5_turn_74 : decode cX5_turn 74 = .ok (.if_icmp .eq 15, 3) := by decide +kernel
theorem dX5_turn_77 : decode cX5_turn 77 = .ok (.aload_n 0, 1) := by decide +kernel
theorem dX5_turn_78 : decode cX5_turn 78 = .ok (.getfield 25, 3) := by decide +kernel
theorem dX5_turn_81 : decode cX5_turn 81 = .ok (.getfield 210, 3) := by decide +kernel
theorem dX5_turn_84 : decode cX5_turn 84 = .ok (.iload 5, 2) := by decide +kernel
theorem dX5_turn_86 : decode cX5_turn 86 = .ok (.if_icmp .ge 16, 3) := by decide +kernel
theorem dX5_turn_89 : decode cX5_turn 89 = .ok (.iload 6, 2) := by decide +kernel
theorem dX5_turn_91 : decode cX5_turn 91 = .ok (.istore 4, 2) := by decide +kernel
theorem dX5_turn_93 : decode cX5_turn 93 = .ok (.aload_n 0, 1) := by decide +kernel
theorem dX5_turn_94 : decode cX5_turn 94 = .ok (.getfield 25, 3) := by decide +kernel
theorem dX5_turn_97 : decode cX5_turn 97 = .ok (.getfield 210, 3) := by decide +kernel
theorem dX5_turn_100 : decode cX5_turn 100 = .ok (.istore 5, 2) := by decide +kernel
theorem dX5_turn_102 : decode cX5_turn 102 = .ok (.iinc 6 1, 3) := by decide +kernel
theorem dX5_turn_105 : decode cX5_turn 105 = .ok (.goto (-60), 3) := by decide +kernel
theorem dX5_turn_108 : decode cX5_turn 108 = .ok (.iload_n 3, 1) := by decide +kernel
theorem dX5_turn_109 : decode cX5_turn 109 = .ok (.ifCond .ne 8, 3) := by decide +kernel
theorem dX5_turn_112 : decode cX5_turn 112 = .ok (.iload 4, 2) := by decide +kernel
theorem dX5_turn_114 : decode cX5_turn 114 = .ok (.goto 5, 3) := by decide +kernel
theorem dX5_turn_117 : decode cX5_turn 117 = .ok (.iload 5, 2) := by decide +kernel
theorem dX5_turn_119 : decode cX5_turn 119 = .ok (.ireturn, 1) := by decide +kernel
theorem dX5_share_0 : decode cX5_share 0 = .ok (.iload_n 1, 1) := by decide +kernel
theorem dX5_share_1 : decode cX5_share 1 = .ok (.ifCond .lt 18, 3) := by decide +kernel
theorem dX5_share_4 : decode cX5_share 4 = .ok (.iload_n 1, 1) := by decide +kernel
theorem dX5_share_5 : decode cX5_share 5 = .ok (.bipush 40, 2) := by decide +kernel
theorem dX5_share_7 : decode cX5_share 7 = .ok (.if_icmp .gt 12, 3) := by decide +kernel
theorem dX5_share_10 : decode cX5_share 10 = .ok (.iload_n 2, 1) := by decide +kernel
theorem dX5_share_11 : decode cX5_share 11 = .ok (.ifCond .eq 12, 3) := by decide +kernel
theorem dX5_share_14 : decode cX5_share 14 = .ok (.iload_n 2, 1) := by decide +kernel
theorem dX5_share_15 : decode cX5_share 15 = .ok (.iconst 1, 1) := by decide +kernel
theorem dX5_share_16 : decode cX5_share 16 = .ok (.if_icmp .eq 7, 3) := by decide +kernel
theorem dX5_share_19 : decode cX5_share 19 = .ok (.ldc2_w 213, 3) := by decide +kernel
theorem dX5_share_22 : decode cX5_share 22 = .ok (.lreturn, 1) := by decide +kernel
theorem dX5_share_23 : decode cX5_share 23 = .ok (.aload_n 0, 1) := by decide +kernel
theorem dX5_share_24 : decode cX5_share 24 = .ok (.iconst 0, 1) := by decide +kernel
theorem dX5_share_25 : decode cX5_share 25 = .ok (.aload_n 0, 1) := by decide +kernel
theorem dX5_share_26 : decode cX5_share 26 = .ok (.getfield 10, 3) := by decide +kernel
theorem dX5_share_29 : decode cX5_share 29 = .ok (.getfield 84, 3) := by decide +kernel
theorem dX5_share_32 : decode cX5_share 32 = .ok (.iload_n 1, 1) := by decide +kernel
theorem dX5_share_33 : decode cX5_share 33 = .ok (.invokevirtual 215, 3) := by decide +kernel
theorem dX5_share_36 : decode cX5_share 36 = .ok (.invokestatic 91, 3) := by decide +kernel
theorem dX5_share_39 : decode cX5_share 39 = .ok (.i2l, 1) := by decide +kernel
theorem dX5_share_40 : decode cX5_share 40 = .ok (.ldc2_w 245, 3) := by decide +kernel
theorem dX5_share_43 : decode cX5_share 43 = .ok (.iload_n 2, 1) := by decide +kernel
theorem dX5_share_44 : decode cX5_share 44 = .ok (.invokestatic 247, 3) := by decide +kernel
theorem dX5_share_47 : decode cX5_share 47 = .ok (.lreturn, 1) := by decide +kernel
theorem dX5_judge_0 : decode cX5_judge 0 = .ok (.aload_n 0, 1) := by decide +kernel
theorem dX5_judge_1 : decode cX5_judge 1 = .ok (.iload_n 1, 1) := by decide +kernel
theorem dX5_judge_2 : decode cX5_judge 2 = .ok (.iload_n 2, 1) := by decide +kernel
theorem dX5_judge_3 : decode cX5_judge 3 = .ok (.invokevirtual 251, 3) := by decide +kernel
theorem dX5_judge_6 : decode cX5_judge 6 = .ok (.istore_n 3, 1) := by decide +kernel
theorem dX5_judge_7 : decode cX5_judge 7 = .ok (.iload_n 3, 1) := by decide +kernel
theorem dX5_judge_8 : decode cX5_judge 8 = .ok (.ifCond .eq 5, 3) := by decide +kernel
theorem dX5_judge_11 : decode cX5_judge 11 = .ok (.iload_n 3, 1) := by decide +kernel
theorem dX5_judge_12 : decode cX5_judge 12 = .ok (.ireturn, 1) := by decide +kernel
theorem dX5_judge_13 : decode cX5_judge 13 = .ok (.aload_n 0, 1) := by decide +kernel
theorem dX5_judge_14 : decode cX5_judge 14 = .ok (.iload_n 2, 1) := by decide +kernel
theorem dX5_judge_15 : decode cX5_judge 15 = .ok (.invokevirtual 219, 3) := by decide +kernel
theorem dX5_judge_18 : decode cX5_judge 18 = .ok (.pop, 1) := by decide +kernel
theorem dX5_judge_19 : decode cX5_judge 19 = .ok (.aload_n 0, 1) := by decide +kernel
theorem dX5_judge_20 : decode cX5_judge 20 = .ok (.aload_n 0, 1) := by decide +kernel
theorem dX5_judge_21 : decode cX5_judge 21 = .ok (.getfield 41, 3) := by decide +kernel
theorem dX5_judge_24 : decode cX5_judge 24 = .ok (.iload_n 1, 1) := by decide +kernel
theorem dX5_judge_25 : decode cX5_judge 25 = .ok (.aaload, 1) := by decide +kernel
theorem dX5_judge_26 : decode cX5_judge 26 = .ok (.aload_n 0, 1) := by decide +kernel
theorem dX5_judge_27 : decode cX5_judge 27 = .ok (.invokevirtual 125, 3) := by decide +kernel
theorem dX5_judge_30 : decode cX5_judge 30 = .ok (.invokevirtual 254, 3) := by decide +kernel
theorem dX5_judge_33 : decode cX5_judge 33 = .ok (.ireturn, 1) := by decide +kernel
theorem dX5_kinds_0 : decode cX5_kinds 0 = .ok (.aload_n 0, 1) := by decide +kernel
theorem dX5_kinds_1 : decode cX5_kinds 1 = .ok (.iload_n 1, 1) := by decide +kernel
theorem dX5_kinds_2 : decode cX5_kinds 2 = .ok (.iload_n 2, 1) := by decide +kernel
theorem dX5_kinds_3 : decode cX5_kinds 3 = .ok (.invokevirtual 251, 3) := by decide +kernel
theorem dX5_kinds_6 : decode cX5_kinds 6 = .ok (.istore 4, 2) := by decide +kernel
theorem dX5_kinds_8 : decode cX5_kinds 8 = .ok (.iload 4, 2) := by decide +kernel
theorem dX5_kinds_10 : decode cX5_kinds 10 = .ok (.ifCond .eq 6, 3) := by decide +kernel
theorem dX5_kinds_13 : decode cX5_kinds 13 = .ok (.iload 4, 2) := by decide +kernel
theorem dX5_kinds_15 : decode cX5_kinds 15 = .ok (.ireturn, 1) := by decide +kernel
theorem dX5_kinds_16 : decode cX5_kinds 16 = .ok (.iload_n 3, 1) := by decide +kernel
theorem dX5_kinds_17 : decode cX5_kinds 17 = .ok (.ifCond .eq 11, 3) := by decide +kernel
theorem dX5_kinds_20 : decode cX5_kinds 20 = .ok (.iload_n 3, 1) := by decide +kernel
theorem dX5_kinds_21 : decode cX5_kinds 21 = .ok (.iconst 1, 1) := by decide +kernel
theorem dX5_kinds_22 : decode cX5_kinds 22 = .ok (.if_icmp .eq 6, 3) := by decide +kernel
theorem dX5_kinds_25 : decode cX5_kinds 25 = .ok (.bipush (-7), 2) := by decide +kernel
theorem dX5_kinds_27 : decode cX5_kinds 27 = .ok (.ireturn, 1) := by decide +kernel
theorem dX5_kinds_28 : decode cX5_kinds 28 = .ok (.iconst 0, 1) := by decide +kernel
theorem dX5_kinds_29 : decode cX5_kinds 29 = .ok (.istore 5, 2) := by decide +kernel
theorem dX5_kinds_31 : decode cX5_kinds 31 = .ok (.iload_n 3, 1) := by decide +kernel
theorem dX5_kinds_32 : decode cX5_kinds 32 = .ok (.ifCond .ne 8, 3) := by decide +kernel
theorem dX5_kinds_35 : decode cX5_kinds 35 = .ok (.bipush 6, 2) := by decide +kernel
theorem dX5_kinds_37 : decode cX5_kinds 37 = .ok (.goto 5, 3) := by decide +kernel
theorem dX5_kinds_40 : decode cX5_kinds 40 = .ok (.bipush 10, 2) := by decide +kernel
theorem dX5_kinds_42 : decode cX5_kinds 42 = .ok (.istore 6, 2) := by decide +kernel
theorem dX5_kinds_44 : decode cX5_kinds 44 = .ok (.iconst 0, 1) := by decide +kernel
theorem dX5_kinds_45 : decode cX5_kinds 45 = .ok (.istore 7, 2) := by decide +kernel
theorem dX5_kinds_47 : decode cX5_kinds 47 = .ok (.iload 7, 2) := by decide +kernel
theorem dX5_kinds_49 : decode cX5_kinds 49 = .ok (.iload 6, 2) := by decide +kernel
theorem dX5_kinds_51 : decode cX5_kinds 51 = .ok (.if_icmp .ge 67, 3) := by decide +kernel
theorem dX5_kinds_54 : decode cX5_kinds 54 = .ok (.aload_n 0, 1) := by decide +kernel
theorem dX5_kinds_55 : decode cX5_kinds 55 = .ok (.iload_n 2, 1) := by decide +kernel
theorem dX5_kinds_56 : decode cX5_kinds 56 = .ok (.invokevirtual 219, 3) := by decide +kernel
theorem dX5_kinds_59 : decode cX5_kinds 59 = .ok (.pop, 1) := by decide +kernel
theorem dX5_kinds_60 : decode cX5_kinds 60 = .ok (.iload_n 3, 1) := by decide +kernel
theorem dX5_kinds_61 : decode cX5_kinds 61 = .ok (.ifCond .ne 15, 3) := by decide +kernel
theorem dX5_kinds_64 : decode cX5_kinds 64 = .ok (.aload_n 0, 1) := by decide +kernel
theorem dX5_kinds_65 : decode cX5_kinds 65 = .ok (.getfield 25, 3) := by decide +kernel
theorem dX5_kinds_68 : decode cX5_kinds 68 = .ok (.iload 7, 2) := by decide +kernel
theorem dX5_kinds_70 : decode cX5_kinds 70 = .ok (.putfield 153, 3) := by decide +kernel
theorem dX5_kinds_73 : decode cX5_kinds 73 = .ok (.goto 12, 3) := by decide +kernel
theorem dX5_kinds_76 : decode cX5_kinds 76 = .ok (.aload_n 0, 1) := by decide +kernel
theorem dX5_kinds_77 : decode cX5_kinds 77 = .ok (.getfield 25, 3) := by decide +kernel
theorem dX5_kinds_80 : decode cX5_kinds 80 = .ok (.iload 7, 2) := by decide +kernel
theorem dX5_kinds_82 : decode cX5_kinds 82 = .ok (.putfield 156, 3) := by decide +kernel
theorem dX5_kinds_85 : decode cX5_kinds 85 = .ok (.aload_n 0, 1) := by decide +kernel
theorem dX5_kinds_86 : decode cX5_kinds 86 = .ok (.aload_n 0, 1) := by decide +kernel
theorem dX5_kinds_87 : decode cX5_kinds 87 = .ok (.getfield 41, 3) := by decide +kernel
theorem dX5_kinds_90 : decode cX5_kinds 90 = .ok (.iload_n 1, 1) := by decide +kernel
theorem dX5_kinds_91 : decode cX5_kinds 91 = .ok (.aaload, 1) := by decide +kernel
theorem dX5_kinds_92 : decode cX5_kinds 92 = .ok (.aload_n 0, 1) := by decide +kernel
theorem dX5_kinds_93 : decode cX5_kinds 93 = .ok (.invokevirtual 125, 3) := by decide +kernel
theorem dX5_kinds_96 : decode cX5_kinds 96 = .ok (.invokevirtual 254, 3) := by decide +kernel
theorem dX5_kinds_99 : decode cX5_kinds 99 = .ok (.iconst (-1), 1) := by decide +kernel
theorem dX5_kinds_100 : decode cX5_kinds 100 = .ok (.if_icmp .ne 12, 3) := by decide +kernel
theorem dX5_kinds_103 : decode cX5_kinds 103 = .ok (.iload 5, 2) := by decide +kernel
theorem dX5_kinds_105 : decode cX5_kinds 105 = .ok (.iconst 1, 1) := by decide +kernel
theorem dX5_kinds_106 : decode cX5_kinds 106 = .ok (.iload 7, 2) := by decide +kernel
theorem dX5_kinds_108 : decode cX5_kinds 108 = .ok (.ishl, 1) := by decide +kernel
theorem dX5_kinds_109 : decode cX5_kinds 109 = .ok (.ior, 1) := by decide +kernel
theorem dX5_kinds_110 : decode cX5_kinds 110 = .ok (.istore 5, 2) := by decide +kernel
theorem dX5_kinds_112 : decode cX5_kinds 112 = .ok (.iinc 7 1, 3) := by decide +kernel
theorem dX5_kinds_115 : decode cX5_kinds 115 = .ok (.goto (-68), 3) := by decide +kernel
theorem dX5_kinds_118 : decode cX5_kinds 118 = .ok (.iload 5, 2) := by decide +kernel
theorem dX5_kinds_120 : decode cX5_kinds 120 = .ok (.ireturn, 1) := by decide +kernel
theorem dX5_begins_0 : decode cX5_begins 0 = .ok (.aload_n 0, 1) := by decide +kernel
theorem dX5_begins_1 : decode cX5_begins 1 = .ok (.iload_n 1, 1) := by decide +kernel
theorem dX5_begins_2 : decode cX5_begins 2 = .ok (.iload_n 2, 1) := by decide +kernel
theorem dX5_begins_3 : decode cX5_begins 3 = .ok (.invokevirtual 251, 3) := by decide +kernel
theorem dX5_begins_6 : decode cX5_begins 6 = .ok (.ifCond .eq 7, 3) := by decide +kernel
theorem dX5_begins_9 : decode cX5_begins 9 = .ok (.ldc2_w 213, 3) := by decide +kernel
theorem dX5_begins_12 : decode cX5_begins 12 = .ok (.lreturn, 1) := by decide +kernel
theorem dX5_begins_13 : decode cX5_begins 13 = .ok (.aload_n 0, 1) := by decide +kernel
theorem dX5_begins_14 : decode cX5_begins 14 = .ok (.iload_n 1, 1) := by decide +kernel
theorem dX5_begins_15 : decode cX5_begins 15 = .ok (.iload_n 2, 1) := by decide +kernel
theorem dX5_begins_16 : decode cX5_begins 16 = .ok (.iconst 0, 1) := by decide +kernel
theorem dX5_begins_17 : decode cX5_begins 17 = .ok (.invokevirtual 258, 3) := by decide +kernel
theorem dX5_begins_20 : decode cX5_begins 20 = .ok (.lreturn, 1) := by decide +kernel
theorem dX5_ways_0 : decode cX5_ways 0 = .ok (.aload_n 0, 1) := by decide +kernel
theorem dX5_ways_1 : decode cX5_ways 1 = .ok (.iload_n 1, 1) := by decide +kernel
theorem dX5_ways_2 : decode cX5_ways 2 = .ok (.iload_n 2, 1) := by decide +kernel
theorem dX5_ways_3 : decode cX5_ways 3 = .ok (.invokevirtual 251, 3) := by decide +kernel
theorem dX5_ways_6 : decode cX5_ways 6 = .ok (.istore 4, 2) := by decide +kernel
theorem dX5_ways_8 : decode cX5_ways 8 = .ok (.iload 4, 2) := by decide +kernel
theorem dX5_ways_10 : decode cX5_ways 10 = .ok (.ifCond .eq 6, 3) := by decide +kernel
theorem dX5_ways_13 : decode cX5_ways 13 = .ok (.iload 4, 2) := by decide +kernel
theorem dX5_ways_15 : decode cX5_ways 15 = .ok (.ireturn, 1) := by decide +kernel
theorem dX5_ways_16 : decode cX5_ways 16 = .ok (.iload_n 3, 1) := by decide +kernel
theorem dX5_ways_17 : decode cX5_ways 17 = .ok (.iconst 1, 1) := by decide +kernel
theorem dX5_ways_18 : decode cX5_ways 18 = .ok (.if_icmp .eq 11, 3) := by decide +kernel
theorem dX5_ways_21 : decode cX5_ways 21 = .ok (.iload_n 3, 1) := by decide +kernel
theorem dX5_ways_22 : decode cX5_ways 22 = .ok (.iconst 2, 1) := by decide +kernel
theorem dX5_ways_23 : decode cX5_ways 23 = .ok (.if_icmp .eq 6, 3) := by decide +kernel
theorem dX5_ways_26 : decode cX5_ways 26 = .ok (.bipush (-7), 2) := by decide +kernel
theorem dX5_ways_28 : decode cX5_ways 28 = .ok (.ireturn, 1) := by decide +kernel
theorem dX5_ways_29 : decode cX5_ways 29 = .ok (.aload_n 0, 1) := by decide +kernel
theorem dX5_ways_30 : decode cX5_ways 30 = .ok (.iload_n 1, 1) := by decide +kernel
theorem dX5_ways_31 : decode cX5_ways 31 = .ok (.iload_n 2, 1) := by decide +kernel
theorem dX5_ways_32 : decode cX5_ways 32 = .ok (.iload_n 3, 1) := by decide +kernel
theorem dX5_ways_33 : decode cX5_ways 33 = .ok (.invokevirtual 258, 3) := by decide +kernel
theorem dX5_ways_36 : decode cX5_ways 36 = .ok (.l2i, 1) := by decide +kernel
theorem dX5_ways_37 : decode cX5_ways 37 = .ok (.ireturn, 1) := by decide +kernel
theorem dX5_whose_0 : decode cX5_whose 0 = .ok (.aload_n 0, 1) := by decide +kernel
theorem dX5_whose_1 : decode cX5_whose 1 = .ok (.iload_n 1, 1) := by decide +kernel
theorem dX5_whose_2 : decode cX5_whose 2 = .ok (.invokevirtual 261, 3) := by decide +kernel
theorem dX5_whose_5 : decode cX5_whose 5 = .ok (.istore_n 2, 1) := by decide +kernel
theorem dX5_whose_6 : decode cX5_whose 6 = .ok (.iload_n 2, 1) := by decide +kernel
theorem dX5_whose_7 : decode cX5_whose 7 = .ok (.ifCond .eq 5, 3) := by decide +kernel
theorem dX5_whose_10 : decode cX5_whose 10 = .ok (.iload_n 2, 1) := by decide +kernel
theorem dX5_whose_11 : decode cX5_whose 11 = .ok (.ireturn, 1) := by decide +kernel
theorem dX5_whose_12 : decode cX5_whose 12 = .ok (.iconst 0, 1) := by decide +kernel
theorem dX5_whose_13 : decode cX5_whose 13 = .ok (.istore_n 3, 1) := by decide +kernel
theorem dX5_whose_14 : decode cX5_whose 14 = .ok (.iconst 0, 1) := by decide +kernel
theorem dX5_whose_15 : decode cX5_whose 15 = .ok (.istore 4, 2) := by decide +kernel
theorem dX5_whose_17 : decode cX5_whose 17 = .ok (.iload 4, 2) := by decide +kernel
theorem dX5_whose_19 : decode cX5_whose 19 = .ok (.aload_n 0, 1) := by decide +kernel
theorem dX5_whose_20 : decode cX5_whose 20 = .ok (.getfield 10, 3) := by decide +kernel
theorem dX5_whose_23 : decode cX5_whose 23 = .ok (.getfield 84, 3) := by decide +kernel
theorem dX5_whose_26 : decode cX5_whose 26 = .ok (.if_icmp .ge 41, 3) := by decide +kernel
theorem dX5_whose_29 : decode cX5_whose 29 = .ok (.aload_n 0, 1) := by decide +kernel
theorem dX5_whose_30 : decode cX5_whose 30 = .ok (.iload 4, 2) := by decide +kernel
theorem dX5_whose_32 : decode cX5_whose 32 = .ok (.invokevirtual 219, 3) := by decide +kernel
theorem dX5_whose_35 : decode cX5_whose 35 = .ok (.pop, 1) := by decide +kernel
theorem dX5_whose_36 : decode cX5_whose 36 = .ok (.aload_n 0, 1) := by decide +kernel
theorem dX5_whose_37 : decode cX5_whose 37 = .ok (.aload_n 0, 1) := by decide +kernel
theorem dX5_whose_38 : decode cX5_whose 38 = .ok (.getfield 41, 3) := by decide +kernel
theorem dX5_whose_41 : decode cX5_whose 41 = .ok (.iload_n 1, 1) := by decide +kernel
theorem dX5_whose_42 : decode cX5_whose 42 = .ok (.aaload, 1) := by decide +kernel
theorem dX5_whose_43 : decode cX5_whose 43 = .ok (.aload_n 0, 1) := by decide +kernel
theorem dX5_whose_44 : decode cX5_whose 44 = .ok (.invokevirtual 125, 3) := by decide +kernel
theorem dX5_whose_47 : decode cX5_whose 47 = .ok (.invokevirtual 254, 3) := by decide +kernel
theorem dX5_whose_50 : decode cX5_whose 50 = .ok (.iconst (-1), 1) := by decide +kernel
theorem dX5_whose_51 : decode cX5_whose 51 = .ok (.if_icmp .ne 10, 3) := by decide +kernel
theorem dX5_whose_54 : decode cX5_whose 54 = .ok (.iload_n 3, 1) := by decide +kernel
theorem dX5_whose_55 : decode cX5_whose 55 = .ok (.iconst 1, 1) := by decide +kernel
theorem dX5_whose_56 : decode cX5_whose 56 = .ok (.iload 4, 2) := by decide +kernel
theorem dX5_whose_58 : decode cX5_whose 58 = .ok (.ishl, 1) := by decide +kernel
theorem dX5_whose_59 : decode cX5_whose 59 = .ok (.ior, 1) := by decide +kernel
theorem dX5_whose_60 : decode cX5_whose 60 = .ok (.istore_n 3, 1) := by decide +kernel
theorem dX5_whose_61 : decode cX5_whose 61 = .ok (.iinc 4 1, 3) := by decide +kernel
theorem dX5_whose_64 : decode cX5_whose 64 = .ok (.goto (-47), 3) := by decide +kernel
theorem dX5_whose_67 : decode cX5_whose 67 = .ok (.iload_n 3, 1) := by decide +kernel
theorem dX5_whose_68 : decode cX5_whose 68 = .ok (.ireturn, 1) := by decide +kernel
theorem dX5_laws_0 : decode cX5_laws 0 = .ok (.aload_n 0, 1) := by decide +kernel
theorem dX5_laws_1 : decode cX5_laws 1 = .ok (.iload_n 1, 1) := by decide +kernel
theorem dX5_laws_2 : decode cX5_laws 2 = .ok (.iload_n 2, 1) := by decide +kernel
theorem dX5_laws_3 : decode cX5_laws 3 = .ok (.invokevirtual 251, 3) := by decide +kernel
theorem dX5_laws_6 : decode cX5_laws 6 = .ok (.istore_n 3, 1) := by decide +kernel
theorem dX5_laws_7 : decode cX5_laws 7 = .ok (.iload_n 3, 1) := by decide +kernel
theorem dX5_laws_8 : decode cX5_laws 8 = .ok (.ifCond .eq 5, 3) := by decide +kernel
theorem dX5_laws_11 : decode cX5_laws 11 = .ok (.iload_n 3, 1) := by decide +kernel
theorem dX5_laws_12 : decode cX5_laws 12 = .ok (.ireturn, 1) := by decide +kernel
theorem dX5_laws_13 : decode cX5_laws 13 = .ok (.iconst 0, 1) := by decide +kernel
theorem dX5_laws_14 : decode cX5_laws 14 = .ok (.istore 4, 2) := by decide +kernel
theorem dX5_laws_16 : decode cX5_laws 16 = .ok (.iconst 0, 1) := by decide +kernel
theorem dX5_laws_17 : decode cX5_laws 17 = .ok (.istore 5, 2) := by decide +kernel
theorem dX5_laws_19 : decode cX5_laws 19 = .ok (.iload 5, 2) := by decide +kernel
theorem dX5_laws_21 : decode cX5_laws 21 = .ok (.aload_n 0, 1) := by decide +kernel
theorem dX5_laws_22 : decode cX5_laws 22 = .ok (.getfield 80, 3) := by decide +kernel
theorem dX5_laws_25 : decode cX5_laws 25 = .ok (.if_icmp .ge 44, 3) := by decide +kernel
theorem dX5_laws_28 : decode cX5_laws 28 = .ok (.aload_n 0, 1) := by decide +kernel
theorem dX5_laws_29 : decode cX5_laws 29 = .ok (.iload_n 2, 1) := by decide +kernel
theorem dX5_laws_30 : decode cX5_laws 30 = .ok (.invokevirtual 219, 3) := by decide +kernel
theorem dX5_laws_33 : decode cX5_laws 33 = .ok (.pop, 1) := by decide +kernel
theorem dX5_laws_34 : decode cX5_laws 34 = .ok (.aload_n 0, 1) := by decide +kernel
theorem dX5_laws_35 : decode cX5_laws 35 = .ok (.aload_n 0, 1) := by decide +kernel
theorem dX5_laws_36 : decode cX5_laws 36 = .ok (.getfield 41, 3) := by decide +kernel
theorem dX5_laws_39 : decode cX5_laws 39 = .ok (.iload_n 1, 1) := by decide +kernel
theorem dX5_laws_40 : decode cX5_laws 40 = .ok (.aaload, 1) := by decide +kernel
theorem dX5_laws_41 : decode cX5_laws 41 = .ok (.aload_n 0, 1) := by decide +kernel
theorem dX5_laws_42 : decode cX5_laws 42 = .ok (.iload 5, 2) := by decide +kernel
theorem dX5_laws_44 : decode cX5_laws 44 = .ok (.invokevirtual 264, 3) := by decide +kernel
theorem dX5_laws_47 : decode cX5_laws 47 = .ok (.invokevirtual 254, 3) := by decide +kernel
theorem dX5_laws_50 : decode cX5_laws 50 = .ok (.iconst (-1), 1) := by decide +kernel
theorem dX5_laws_51 : decode cX5_laws 51 = .ok (.if_icmp .ne 12, 3) := by decide +kernel
theorem dX5_laws_54 : decode cX5_laws 54 = .ok (.iload 4, 2) := by decide +kernel
theorem dX5_laws_56 : decode cX5_laws 56 = .ok (.iconst 1, 1) := by decide +kernel
theorem dX5_laws_57 : decode cX5_laws 57 = .ok (.iload 5, 2) := by decide +kernel
theorem dX5_laws_59 : decode cX5_laws 59 = .ok (.ishl, 1) := by decide +kernel
theorem dX5_laws_60 : decode cX5_laws 60 = .ok (.ior, 1) := by decide +kernel
theorem dX5_laws_61 : decode cX5_laws 61 = .ok (.istore 4, 2) := by decide +kernel
theorem dX5_laws_63 : decode cX5_laws 63 = .ok (.iinc 5 1, 3) := by decide +kernel
theorem dX5_laws_66 : decode cX5_laws 66 = .ok (.goto (-47), 3) := by decide +kernel
theorem dX5_laws_69 : decode cX5_laws 69 = .ok (.iload 4, 2) := by decide +kernel
theorem dX5_laws_71 : decode cX5_laws 71 = .ok (.ireturn, 1) := by decide +kernel
theorem dX5_film_0 : decode cX5_film 0 = .ok (.iload_n 1, 1) := by decide +kernel
theorem dX5_film_1 : decode cX5_film 1 = .ok (.invokestatic 268, 3) := by decide +kernel
theorem dX5_film_4 : decode cX5_film 4 = .ok (.ifCond .ne 6, 3) := by decide +kernel
theorem dX5_film_7 : decode cX5_film 7 = .ok (.bipush (-2), 2) := by decide +kernel
theorem dX5_film_9 : decode cX5_film 9 = .ok (.ireturn, 1) := by decide +kernel
theorem dX5_film_10 : decode cX5_film 10 = .ok (.aload_n 0, 1) := by decide +kernel
theorem dX5_film_11 : decode cX5_film 11 = .ok (.iload_n 2, 1) := by decide +kernel
theorem dX5_film_12 : decode cX5_film 12 = .ok (.invokevirtual 219, 3) := by decide +kernel
theorem dX5_film_15 : decode cX5_film 15 = .ok (.ifCond .ne 6, 3) := by decide +kernel
theorem dX5_film_18 : decode cX5_film 18 = .ok (.bipush (-5), 2) := by decide +kernel
theorem dX5_film_20 : decode cX5_film 20 = .ok (.ireturn, 1) := by decide +kernel
theorem dX5_film_21 : decode cX5_film 21 = .ok (.iload_n 3, 1) := by decide +kernel
theorem dX5_film_22 : decode cX5_film 22 = .ok (.ifCond .lt 9, 3) := by decide +kernel
theorem dX5_film_25 : decode cX5_film 25 = .ok (.iload_n 3, 1) := by decide +kernel
theorem dX5_film_26 : decode cX5_film 26 = .ok (.bipush 20, 2) := by decide +kernel
theorem dX5_film_28 : decode cX5_film 28 = .ok (.if_icmp .le 6, 3) := by decide +kernel
theorem dX5_film_31 : decode cX5_film 31 = .ok (.bipush (-7), 2) := by decide +kernel
theorem dX5_film_33 : decode cX5_film 33 = .ok (.ireturn, 1) := by decide +kernel
theorem dX5_film_34 : decode cX5_film 34 = .ok (.aload_n 0, 1) := by decide +kernel
theorem dX5_film_35 : decode cX5_film 35 = .ok (.getfield 41, 3) := by decide +kernel
theorem dX5_film_38 : decode cX5_film 38 = .ok (.iload_n 1, 1) := by decide +kernel
theorem dX5_film_39 : decode cX5_film 39 = .ok (.aaload, 1) := by decide +kernel
theorem dX5_film_40 : decode cX5_film 40 = .ok (.astore 4, 2) := by decide +kernel
theorem dX5_film_42 : decode cX5_film 42 = .ok (.aload 4, 2) := by decide +kernel
theorem dX5_film_44 : decode cX5_film 44 = .ok (.iconst 0, 1) := by decide +kernel
theorem dX5_film_45 : decode cX5_film 45 = .ok (.iload_n 3, 1) := by decide +kernel
theorem dX5_film_46 : decode cX5_film 46 = .ok (.invokevirtual 271, 3) := by decide +kernel
theorem dX5_film_49 : decode cX5_film 49 = .ok (.iconst 0, 1) := by decide +kernel
theorem dX5_film_50 : decode cX5_film 50 = .ok (.istore 5, 2) := by decide +kernel
theorem dX5_film_52 : decode cX5_film 52 = .ok (.iload 5, 2) := by decide +kernel
theorem dX5_film_54 : decode cX5_film 54 = .ok (.iload_n 3, 1) := by decide +kernel
theorem dX5_film_55 : decode cX5_film 55 = .ok (.if_icmp .ge 52, 3) := by decide +kernel
theorem dX5_film_58 : decode cX5_film 58 = .ok (.aload_n 0, 1) := by decide +kernel
theorem dX5_film_59 : decode cX5_film 59 = .ok (.getfield 25, 3) := by decide +kernel
theorem dX5_film_62 : decode cX5_film 62 = .ok (.aload_n 0, 1) := by decide +kernel
theorem dX5_film_63 : decode cX5_film 63 = .ok (.invokevirtual 125, 3) := by decide +kernel
theorem dX5_film_66 : decode cX5_film 66 = .ok (.aload_n 0, 1) := by decide +kernel
theorem dX5_film_67 : decode cX5_film 67 = .ok (.getfield 10, 3) := by decide +kernel
theorem dX5_film_70 : decode cX5_film 70 = .ok (.getfield 97, 3) := by decide +kernel
theorem dX5_film_73 : decode cX5_film 73 = .ok (.iload 5, 2) := by decide +kernel
theorem dX5_film_75 : decode cX5_film 75 = .ok (.iadd, 1) := by decide +kernel
theorem dX5_film_76 : decode cX5_film 76 = .ok (.aload_n 0, 1) := by decide +kernel
theorem dX5_film_77 : decode cX5_film 77 = .ok (.getfield 10, 3) := by decide +kernel
theorem dX5_film_80 : decode cX5_film 80 = .ok (.getfield 87, 3) := by decide +kernel
theorem dX5_film_83 : decode cX5_film 83 = .ok (.invokevirtual 222, 3) := by decide +kernel
theorem dX5_film_86 : decode cX5_film 86 = .ok (.pop, 1) := by decide +kernel
theorem dX5_film_87 : decode cX5_film 87 = .ok (.aload 4, 2) := by decide +kernel
theorem dX5_film_89 : decode cX5_film 89 = .ok (.iload 5, 2) := by decide +kernel
theorem dX5_film_91 : decode cX5_film 91 = .ok (.aload_n 0, 1) := by decide +kernel
theorem dX5_film_92 : decode cX5_film 92 = .ok (.getfield 25, 3) := by decide +kernel
theorem dX5_film_95 : decode cX5_film 95 = .ok (.getfield 207, 3) := by decide +kernel
theorem dX5_film_98 : decode cX5_film 98 = .ok (.invokevirtual 274, 3) := by decide +kernel
theorem dX5_film_101 : decode cX5_film 101 = .ok (.iinc 5 1, 3) := by decide +kernel
theorem dX5_film_104 : decode cX5_film 104 = .ok (.goto (-52), 3) := by decide +kernel
theorem dX5_film_107 : decode cX5_film 107 = .ok (.iload_n 3, 1) := by decide +kernel
theorem dX5_film_108 : decode cX5_film 108 = .ok (.ireturn, 1) := by decide +kernel
theorem dX5_drawn_0 : decode cX5_drawn 0 = .ok (.iload_n 1, 1) := by decide +kernel
theorem dX5_drawn_1 : decode cX5_drawn 1 = .ok (.ifCond .lt 19, 3) := by decide +kernel
theorem dX5_drawn_4 : decode cX5_drawn 4 = .ok (.iload_n 1, 1) := by decide +kernel
theorem dX5_drawn_5 : decode cX5_drawn 5 = .ok (.ldc_w 277, 3) := by decide +kernel
theorem dX5_drawn_8 : decode cX5_drawn 8 = .ok (.if_icmp .ge 12, 3) := by decide +kernel
theorem dX5_drawn_11 : decode cX5_drawn 11 = .ok (.iload_n 2, 1) := by decide +kernel
theorem dX5_drawn_12 : decode cX5_drawn 12 = .ok (.ifCond .eq 11, 3) := by decide +kernel
theorem dX5_drawn_15 : decode cX5_drawn 15 = .ok (.iload_n 2, 1) := by decide +kernel
theorem dX5_drawn_16 : decode cX5_drawn 16 = .ok (.iconst 1, 1) := by decide +kernel
theorem dX5_drawn_17 : decode cX5_drawn 17 = .ok (.if_icmp .eq 6, 3) := by decide +kernel
theorem dX5_drawn_20 : decode cX5_drawn 20 = .ok (.bipush (-2), 2) := by decide +kernel
theorem dX5_drawn_22 : decode cX5_drawn 22 = .ok (.ireturn, 1) := by decide +kernel
theorem dX5_drawn_23 : decode cX5_drawn 23 = .ok (.aload_n 0, 1) := by decide +kernel
theorem dX5_drawn_24 : decode cX5_drawn 24 = .ok (.iload_n 1, 1) := by decide +kernel
theorem dX5_drawn_25 : decode cX5_drawn 25 = .ok (.invokevirtual 278, 3) := by decide +kernel
theorem dX5_drawn_28 : decode cX5_drawn 28 = .ok (.istore_n 3, 1) := by decide +kernel
theorem dX5_drawn_29 : decode cX5_drawn 29 = .ok (.iload_n 2, 1) := by decide +kernel
theorem dX5_drawn_30 : decode cX5_drawn 30 = .ok (.ifCond .ne 7, 3) := by decide +kernel
theorem dX5_drawn_33 : decode cX5_drawn 33 = .ok (.iload_n 3, 1) := by decide +kernel
theorem dX5_drawn_34 : decode cX5_drawn 34 = .ok (.goto 10, 3) := by decide +kernel
theorem dX5_drawn_37 : decode cX5_drawn 37 = .ok (.aload_n 0, 1) := by decide +kernel
theorem dX5_drawn_38 : decode cX5_drawn 38 = .ok (.getfield 16, 3) := by decide +kernel
theorem dX5_drawn_41 : decode cX5_drawn 41 = .ok (.invokevirtual 204, 3) := by decide +kernel
theorem dX5_drawn_44 : decode cX5_drawn 44 = .ok (.ireturn, 1) := by decide +kernel
theorem dX5_odds_0 : decode cX5_odds 0 = .ok (.iload_n 1, 1) := by decide +kernel
theorem dX5_odds_1 : decode cX5_odds 1 = .ok (.ifCond .lt 21, 3) := by decide +kernel
theorem dX5_odds_4 : decode cX5_odds 4 = .ok (.iload_n 1, 1) := by decide +kernel
theorem dX5_odds_5 : decode cX5_odds 5 = .ok (.ldc_w 277, 3) := by decide +kernel
theorem dX5_odds_8 : decode cX5_odds 8 = .ok (.if_icmp .ge 14, 3) := by decide +kernel
theorem dX5_odds_11 : decode cX5_odds 11 = .ok (.iload_n 2, 1) := by decide +kernel
theorem dX5_odds_12 : decode cX5_odds 12 = .ok (.iconst 1, 1) := by decide +kernel
theorem dX5_odds_13 : decode cX5_odds 13 = .ok (.if_icmp .lt 9, 3) := by decide +kernel
theorem dX5_odds_16 : decode cX5_odds 16 = .ok (.iload_n 2, 1) := by decide +kernel
theorem dX5_odds_17 : decode cX5_odds 17 = .ok (.bipush 40, 2) := by decide +kernel
theorem dX5_odds_19 : decode cX5_odds 19 = .ok (.if_icmp .le 7, 3) := by decide +kernel
theorem dX5_odds_22 : decode cX5_odds 22 = .ok (.ldc2_w 213, 3) := by decide +kernel
theorem dX5_odds_25 : decode cX5_odds 25 = .ok (.lreturn, 1) := by decide +kernel
theorem dX5_odds_26 : decode cX5_odds 26 = .ok (.iload_n 3, 1) := by decide +kernel
theorem dX5_odds_27 : decode cX5_odds 27 = .ok (.ifCond .lt 21, 3) := by decide +kernel
theorem dX5_odds_30 : decode cX5_odds 30 = .ok (.iload_n 3, 1) := by decide +kernel
theorem dX5_odds_31 : decode cX5_odds 31 = .ok (.sipush 999, 3) := by decide +kernel
theorem dX5_odds_34 : decode cX5_odds 34 = .ok (.if_icmp .gt 14, 3) := by decide +kernel
theorem dX5_odds_37 : decode cX5_odds 37 = .ok (.iload 4, 2) := by decide +kernel
theorem dX5_odds_39 : decode cX5_odds 39 = .ok (.ifCond .eq 13, 3) := by decide +kernel
theorem dX5_odds_42 : decode cX5_odds 42 = .ok (.iload 4, 2) := by decide +kernel
theorem dX5_odds_44 : decode cX5_odds 44 = .ok (.iconst 1, 1) := by decide +kernel
theorem dX5_odds_45 : decode cX5_odds 45 = .ok (.if_icmp .eq 7, 3) := by decide +kernel
theorem dX5_odds_48 : decode cX5_odds 48 = .ok (.ldc2_w 213, 3) := by decide +kernel
theorem dX5_odds_51 : decode cX5_odds 51 = .ok (.lreturn, 1) := by decide +kernel
theorem dX5_odds_52 : decode cX5_odds 52 = .ok (.iconst 0, 1) := by decide +kernel
theorem dX5_odds_53 : decode cX5_odds 53 = .ok (.istore 5, 2) := by decide +kernel
theorem dX5_odds_55 : decode cX5_odds 55 = .ok (.iconst 0, 1) := by decide +kernel
theorem dX5_odds_56 : decode cX5_odds 56 = .ok (.istore 6, 2) := by decide +kernel
theorem dX5_odds_58 : decode cX5_odds 58 = .ok (.iload 6, 2) := by decide +kernel
theorem dX5_odds_60 : decode cX5_odds 60 = .ok (.iload_n 2, 1) := by decide +kernel
theorem dX5_odds_61 : decode cX5_odds 61 = .ok (.if_icmp .ge 24, 3) := by decide +kernel
theorem dX5_odds_64 : decode cX5_odds 64 = .ok (.aload_n 0, 1) := by decide +kernel
theorem dX5_odds_65 : decode cX5_odds 65 = .ok (.iload_n 1, 1) := by decide +kernel
theorem dX5_odds_66 : decode cX5_odds 66 = .ok (.iload 6, 2) := by decide +kernel
theorem dX5_odds_68 : decode cX5_odds 68 = .ok (.iadd, 1) := by decide +kernel
theorem dX5_odds_69 : decode cX5_odds 69 = .ok (.invokevirtual 278, 3) := by decide +kernel
theorem dX5_odds_72 : decode cX5_odds 72 = .ok (.iload_n 3, 1) := by decide +kernel
theorem dX5_odds_73 : decode cX5_odds 73 = .ok (.if_icmp .lt 6, 3) := by decide +kernel
theorem dX5_odds_76 : decode cX5_odds 76 = .ok (.iinc 5 1, 3) := by decide +kernel
theorem dX5_odds_79 : decode cX5_odds 79 = .ok (.iinc 6 1, 3) := by decide +kernel
theorem dX5_odds_82 : decode cX5_odds 82 = .ok (.goto (-24), 3) := by decide +kernel
theorem dX5_odds_85 : decode cX5_odds 85 = .ok (.iload 5, 2) := by decide +kernel
theorem dX5_odds_87 : decode cX5_odds 87 = .ok (.i2l, 1) := by decide +kernel
theorem dX5_odds_88 : decode cX5_odds 88 = .ok (.iload_n 2, 1) := by decide +kernel
theorem dX5_odds_89 : decode cX5_odds 89 = .ok (.i2l, 1) := by decide +kernel
theorem dX5_odds_90 : decode cX5_odds 90 = .ok (.iload 4, 2) := by decide +kernel
theorem dX5_odds_92 : decode cX5_odds 92 = .ok (.invokestatic 247, 3) := by decide +kernel
theorem dX5_odds_95 : decode cX5_odds 95 = .ok (.lreturn, 1) := by decide +kernel
theorem dX5_image_0 : decode cX5_image 0 = .ok (.aload_n 0, 1) := by decide +kernel
theorem dX5_image_1 : decode cX5_image 1 = .ok (.getfield 19, 3) := by decide +kernel
theorem dX5_image_4 : decode cX5_image 4 = .ok (.aload_n 0, 1) := by decide +kernel
theorem dX5_image_5 : decode cX5_image 5 = .ok (.getfield 10, 3) := by decide +kernel
theorem dX5_image_8 : decode cX5_image 8 = .ok (.invokevirtual 194, 3) := by decide +kernel
theorem dX5_image_11 : decode cX5_image 11 = .ok (.aload_n 0, 1) := by decide +kernel
theorem dX5_image_12 : decode cX5_image 12 = .ok (.iconst 1, 1) := by decide +kernel
theorem dX5_image_13 : decode cX5_image 13 = .ok (.putfield 281, 3) := by decide +kernel
theorem dX5_image_16 : decode cX5_image 16 = .ok (.aload_n 0, 1) := by decide +kernel
theorem dX5_image_17 : decode cX5_image 17 = .ok (.getfield 10, 3) := by decide +kernel
theorem dX5_image_20 : decode cX5_image 20 = .ok (.getfield 84, 3) := by decide +kernel
theorem dX5_image_23 : decode cX5_image 23 = .ok (.ireturn, 1) := by decide +kernel
theorem dX5_back_0 : decode cX5_back 0 = .ok (.aload_n 0, 1) := by decide +kernel
theorem dX5_back_1 : decode cX5_back 1 = .ok (.getfield 281, 3) := by decide +kernel
theorem dX5_back_4 : decode cX5_back 4 = .ok (.ifCond .ne 6, 3) := by decide +kernel
theorem dX5_back_7 : decode cX5_back 7 = .ok (.bipush (-3), 2) := by decide +kernel
theorem dX5_back_9 : decode cX5_back 9 = .ok (.ireturn, 1) := by decide +kernel
theorem dX5_back_10 : decode cX5_back 10 = .ok (.aload_n 0, 1) := by decide +kernel
theorem dX5_back_11 : decode cX5_back 11 = .ok (.getfield 10, 3) := by decide +kernel
theorem dX5_back_14 : decode cX5_back 14 = .ok (.aload_n 0, 1) := by decide +kernel
theorem dX5_back_15 : decode cX5_back 15 = .ok (.getfield 19, 3) := by decide +kernel
theorem dX5_back_18 : decode cX5_back 18 = .ok (.invokevirtual 194, 3) := by decide +kernel
theorem dX5_back_21 : decode cX5_back 21 = .ok (.aload_n 0, 1) := by decide +kernel
theorem dX5_back_22 : decode cX5_back 22 = .ok (.getfield 10, 3) := by decide +kernel
theorem dX5_back_25 : decode cX5_back 25 = .ok (.getfield 84, 3) := by decide +kernel
theorem dX5_back_28 : decode cX5_back 28 = .ok (.ireturn, 1) := by decide +kernel
theorem dX5_sheet_0 : decode cX5_sheet 0 = .ok (.iload_n 1, 1) := by decide +kernel
theorem dX5_sheet_1 : decode cX5_sheet 1 = .ok (.invokestatic 268, 3) := by decide +kernel
theorem dX5_sheet_4 : decode cX5_sheet 4 = .ok (.ifCond .eq 13, 3) := by decide +kernel
theorem dX5_sheet_7 : decode cX5_sheet 7 = .ok (.iload_n 2, 1) := by decide +kernel
theorem dX5_sheet_8 : decode cX5_sheet 8 = .ok (.iconst (-1), 1) := by decide +kernel
theorem dX5_sheet_9 : decode cX5_sheet 9 = .ok (.if_icmp .lt 8, 3) := by decide +kernel
theorem dX5_sheet_12 : decode cX5_sheet 12 = .ok (.iload_n 2, 1) := by decide +kernel
theorem dX5_sheet_13 : decode cX5_sheet 13 = .ok (.iconst 2, 1) := by decide +kernel
theorem dX5_sheet_14 : decode cX5_sheet 14 = .ok (.if_icmp .le 6, 3) := by decide +kernel
theorem dX5_sheet_17 : decode cX5_sheet 17 = .ok (.bipush (-2), 2) := by decide +kernel
theorem dX5_sheet_19 : decode cX5_sheet 19 = .ok (.ireturn, 1) := by decide +kernel
theorem dX5_sheet_20 : decode cX5_sheet 20 = .ok (.iload_n 2, 1) := by decide +kernel
theorem dX5_sheet_21 : decode cX5_sheet 21 = .ok (.iconst (-1), 1) := by decide +kernel
theorem dX5_sheet_22 : decode cX5_sheet 22 = .ok (.if_icmp .ne 16, 3) := by decide +kernel
theorem dX5_sheet_25 : decode cX5_sheet 25 = .ok (.aload_n 0, 1) := by decide +kernel
theorem dX5_sheet_26 : decode cX5_sheet 26 = .ok (.getfield 41, 3) := by decide +kernel
theorem dX5_sheet_29 : decode cX5_sheet 29 = .ok (.iload_n 1, 1) := by decide +kernel
theorem dX5_sheet_30 : decode cX5_sheet 30 = .ok (.aaload, 1) := by decide +kernel
theorem dX5_sheet_31 : decode cX5_sheet 31 = .ok (.iconst (-1), 1) := by decide +kernel
theorem dX5_sheet_32 : decode cX5_sheet 32 = .ok (.iconst 0, 1) := by decide +kernel
theorem dX5_sheet_33 : decode cX5_sheet 33 = .ok (.invokevirtual 271, 3) := by decide +kernel
theorem dX5_sheet_36 : decode cX5_sheet 36 = .ok (.iconst 1, 1) := by decide +kernel
theorem dX5_sheet_37 : decode cX5_sheet 37 = .ok (.ireturn, 1) := by decide +kernel
theorem dX5_sheet_38 : decode cX5_sheet 38 = .ok (.iload_n 3, 1) := by decide +kernel
theorem dX5_sheet_39 : decode cX5_sheet 39 = .ok (.bipush 40, 2) := by decide +kernel
theorem dX5_sheet_41 : decode cX5_sheet 41 = .ok (.if_icmp .le 6, 3) := by decide +kernel
theorem dX5_sheet_44 : decode cX5_sheet 44 = .ok (.bipush (-2), 2) := by decide +kernel
theorem dX5_sheet_46 : decode cX5_sheet 46 = .ok (.ireturn, 1) := by decide +kernel
theorem dX5_sheet_47 : decode cX5_sheet 47 = .ok (.iload_n 3, 1) := by decide +kernel
theorem dX5_sheet_48 : decode cX5_sheet 48 = .ok (.ifCond .ge 6, 3) := by decide +kernel
theorem dX5_sheet_51 : decode cX5_sheet 51 = .ok (.bipush (-14), 2) := by decide +kernel
theorem dX5_sheet_53 : decode cX5_sheet 53 = .ok (.ireturn, 1) := by decide +kernel
theorem dX5_sheet_54 : decode cX5_sheet 54 = .ok (.aload_n 0, 1) := by decide +kernel
theorem dX5_sheet_55 : decode cX5_sheet 55 = .ok (.getfield 41, 3) := by decide +kernel
theorem dX5_sheet_58 : decode cX5_sheet 58 = .ok (.iload_n 1, 1) := by decide +kernel
theorem dX5_sheet_59 : decode cX5_sheet 59 = .ok (.aaload, 1) := by decide +kernel
theorem dX5_sheet_60 : decode cX5_sheet 60 = .ok (.iload_n 2, 1) := by decide +kernel
theorem dX5_sheet_61 : decode cX5_sheet 61 = .ok (.iload_n 3, 1) := by decide +kernel
theorem dX5_sheet_62 : decode cX5_sheet 62 = .ok (.invokevirtual 271, 3) := by decide +kernel
theorem dX5_sheet_65 : decode cX5_sheet 65 = .ok (.iconst 1, 1) := by decide +kernel
theorem dX5_sheet_66 : decode cX5_sheet 66 = .ok (.ireturn, 1) := by decide +kernel
theorem dX5_cell_0 : decode cX5_cell 0 = .ok (.aload_n 0, 1) := by decide +kernel
theorem dX5_cell_1 : decode cX5_cell 1 = .ok (.iload_n 1, 1) := by decide +kernel
theorem dX5_cell_2 : decode cX5_cell 2 = .ok (.invokevirtual 176, 3) := by decide +kernel
theorem dX5_cell_5 : decode cX5_cell 5 = .ok (.istore 4, 2) := by decide +kernel
theorem dX5_cell_7 : decode cX5_cell 7 = .ok (.iload 4, 2) := by decide +kernel
theorem dX5_cell_9 : decode cX5_cell 9 = .ok (.ifCond .eq 6, 3) := by decide +kernel
theorem dX5_cell_12 : decode cX5_cell 12 = .ok (.iload 4, 2) := by decide +kernel
theorem dX5_cell_14 : decode cX5_cell 14 = .ok (.ireturn, 1) := by decide +kernel
theorem dX5_cell_15 : decode cX5_cell 15 = .ok (.aload_n 0, 1) := by decide +kernel
theorem dX5_cell_16 : decode cX5_cell 16 = .ok (.getfield 41, 3) := by decide +kernel
theorem dX5_cell_19 : decode cX5_cell 19 = .ok (.iload_n 1, 1) := by decide +kernel
theorem dX5_cell_20 : decode cX5_cell 20 = .ok (.aaload, 1) := by decide +kernel
theorem dX5_cell_21 : decode cX5_cell 21 = .ok (.iload_n 2, 1) := by decide +kernel
theorem dX5_cell_22 : decode cX5_cell 22 = .ok (.invokevirtual 285, 3) := by decide +kernel
theorem dX5_cell_25 : decode cX5_cell 25 = .ok (.ifCond .ne 6, 3) := by decide +kernel
theorem dX5_cell_28 : decode cX5_cell 28 = .ok (.bipush (-12), 2) := by decide +kernel
theorem dX5_cell_30 : decode cX5_cell 30 = .ok (.ireturn, 1) := by decide +kernel
theorem dX5_cell_31 : decode cX5_cell 31 = .ok (.aload_n 0, 1) := by decide +kernel
theorem dX5_cell_32 : decode cX5_cell 32 = .ok (.getfield 41, 3) := by decide +kernel
theorem dX5_cell_35 : decode cX5_cell 35 = .ok (.iload_n 1, 1) := by decide +kernel
theorem dX5_cell_36 : decode cX5_cell 36 = .ok (.aaload, 1) := by decide +kernel
theorem dX5_cell_37 : decode cX5_cell 37 = .ok (.iload_n 2, 1) := by decide +kernel
theorem dX5_cell_38 : decode cX5_cell 38 = .ok (.iload_n 3, 1) := by decide +kernel
theorem dX5_cell_39 : decode cX5_cell 39 = .ok (.invokevirtual 274, 3) := by decide +kernel
theorem dX5_cell_42 : decode cX5_cell 42 = .ok (.iconst 1, 1) := by decide +kernel
theorem dX5_cell_43 : decode cX5_cell 43 = .ok (.ireturn, 1) := by decide +kernel
theorem dX5_copy_0 : decode cX5_copy 0 = .ok (.iload_n 1, 1) := by decide +kernel
theorem dX5_copy_1 : decode cX5_copy 1 = .ok (.invokestatic 268, 3) := by decide +kernel
theorem dX5_copy_4 : decode cX5_copy 4 = .ok (.ifCond .eq 10, 3) := by decide +kernel
theorem dX5_copy_7 : decode cX5_copy 7 = .ok (.iload_n 3, 1) := by decide +kernel
theorem dX5_copy_8 : decode cX5_copy 8 = .ok (.invokestatic 268, 3) := by decide +kernel
theorem dX5_copy_11 : decode cX5_copy 11 = .ok (.ifCond .ne 6, 3) := by decide +kernel
theorem dX5_copy_14 : decode cX5_copy 14 = .ok (.bipush (-2), 2) := by decide +kernel
theorem dX5_copy_16 : decode cX5_copy 16 = .ok (.ireturn, 1) := by decide +kernel
theorem dX5_copy_17 : decode cX5_copy 17 = .ok (.aload_n 0, 1) := by decide +kernel
theorem dX5_copy_18 : decode cX5_copy 18 = .ok (.getfield 41, 3) := by decide +kernel
theorem dX5_copy_21 : decode cX5_copy 21 = .ok (.iload_n 1, 1) := by decide +kernel
theorem dX5_copy_22 : decode cX5_copy 22 = .ok (.aaload, 1) := by decide +kernel
theorem dX5_copy_23 : decode cX5_copy 23 = .ok (.astore 6, 2) := by decide +kernel
theorem dX5_copy_25 : decode cX5_copy 25 = .ok (.aload_n 0, 1) := by decide +kernel
theorem dX5_copy_26 : decode cX5_copy 26 = .ok (.getfield 41, 3) := by decide +kernel
theorem dX5_copy_29 : decode cX5_copy 29 = .ok (.iload_n 3, 1) := by decide +kernel
theorem dX5_copy_30 : decode cX5_copy 30 = .ok (.aaload, 1) := by decide +kernel
theorem dX5_copy_31 : decode cX5_copy 31 = .ok (.astore 7, 2) := by decide +kernel
theorem dX5_copy_33 : decode cX5_copy 33 = .ok (.aload 6, 2) := by decide +kernel
theorem dX5_copy_35 : decode cX5_copy 35 = .ok (.getfield 288, 3) := by decide +kernel
theorem dX5_copy_38 : decode cX5_copy 38 = .ok (.iconst (-1), 1) := by decide +kernel
theorem dX5_copy_39 : decode cX5_copy 39 = .ok (.if_icmp .eq 12, 3) := by decide +kernel
theorem dX5_copy_42 : decode cX5_copy 42 = .ok (.aload 7, 2) := by decide +kernel
theorem dX5_copy_44 : decode cX5_copy 44 = .ok (.getfield 288, 3) := by decide +kernel
theorem dX5_copy_47 : decode cX5_copy 47 = .ok (.iconst (-1), 1) := by decide +kernel
theorem dX5_copy_48 : decode cX5_copy 48 = .ok (.if_icmp .ne 6, 3) := by decide +kernel
theorem dX5_copy_51 : decode cX5_copy 51 = .ok (.bipush (-11), 2) := by decide +kernel
theorem dX5_copy_53 : decode cX5_copy 53 = .ok (.ireturn, 1) := by decide +kernel
theorem dX5_copy_54 : decode cX5_copy 54 = .ok (.aload 6, 2) := by decide +kernel
theorem dX5_copy_56 : decode cX5_copy 56 = .ok (.getfield 288, 3) := by decide +kernel
theorem dX5_copy_59 : decode cX5_copy 59 = .ok (.aload 7, 2) := by decide +kernel
theorem dX5_copy_61 : decode cX5_copy 61 = .ok (.getfield 288, 3) := by decide +kernel
theorem dX5_copy_64 : decode cX5_copy 64 = .ok (.if_icmp .eq 6, 3) := by decide +kernel
theorem dX5_copy_67 : decode cX5_copy 67 = .ok (.bipush (-13), 2) := by decide +kernel
theorem dX5_copy_69 : decode cX5_copy 69 = .ok (.ireturn, 1) := by decide +kernel
theorem dX5_copy_70 : decode cX5_copy 70 = .ok (.aload 6, 2) := by decide +kernel
theorem dX5_copy_72 : decode cX5_copy 72 = .ok (.iload_n 2, 1) := by decide +kernel
theorem dX5_copy_73 : decode cX5_copy 73 = .ok (.iload 5, 2) := by decide +kernel
theorem dX5_copy_75 : decode cX5_copy 75 = .ok (.invokevirtual 291, 3) := by decide +kernel
theorem dX5_copy_78 : decode cX5_copy 78 = .ok (.ifCond .eq 15, 3) := by decide +kernel
theorem dX5_copy_81 : decode cX5_copy 81 = .ok (.aload 7, 2) := by decide +kernel
theorem dX5_copy_83 : decode cX5_copy 83 = .ok (.iload 4, 2) := by decide +kernel
theorem dX5_copy_85 : decode cX5_copy 85 = .ok (.iload 5, 2) := by decide +kernel
theorem dX5_copy_87 : decode cX5_copy 87 = .ok (.invokevirtual 291, 3) := by decide +kernel
theorem dX5_copy_90 : decode cX5_copy 90 = .ok (.ifCond .ne 6, 3) := by decide +kernel
theorem dX5_copy_93 : decode cX5_copy 93 = .ok (.bipush (-12), 2) := by decide +kernel
theorem dX5_copy_95 : decode cX5_copy 95 = .ok (.ireturn, 1) := by decide +kernel
theorem dX5_copy_96 : decode cX5_copy 96 = .ok (.aload 6, 2) := by decide +kernel
theorem dX5_copy_98 : decode cX5_copy 98 = .ok (.getfield 295, 3) := by decide +kernel
theorem dX5_copy_101 : decode cX5_copy 101 = .ok (.iload_n 2, 1) := by decide +kernel
theorem dX5_copy_102 : decode cX5_copy 102 = .ok (.aload 7, 2) := by decide +kernel
theorem dX5_copy_104 : decode cX5_copy 104 = .ok (.getfield 295, 3) := by decide +kernel
theorem dX5_copy_107 : decode cX5_copy 107 = .ok (.iload 4, 2) := by decide +kernel
theorem dX5_copy_109 : decode cX5_copy 109 = .ok (.iload 5, 2) := by decide +kernel
theorem dX5_copy_111 : decode cX5_copy 111 = .ok (.invokestatic 298, 3) := by decide +kernel
theorem dX5_copy_114 : decode cX5_copy 114 = .ok (.iload 5, 2) := by decide +kernel
theorem dX5_copy_116 : decode cX5_copy 116 = .ok (.ireturn, 1) := by decide +kernel
theorem dX5_sleepersBy_0 : decode cX5_sleepersBy 0 = .ok (.iload_n 1, 1) := by decide +kernel
theorem dX5_sleepersBy_1 : decode cX5_sleepersBy 1 = .ok (.invokestatic 268, 3) := by decide +kernel
theorem dX5_sleepersBy_4 : decode cX5_sleepersBy 4 = .ok (.ifCond .eq 24, 3) := by decide +kernel
theorem dX5_sleepersBy_7 : decode cX5_sleepersBy 7 = .ok (.iload_n 2, 1) := by decide +kernel
theorem dX5_sleepersBy_8 : decode cX5_sleepersBy 8 = .ok (.ifCond .lt 20, 3) := by decide +kernel
theorem dX5_sleepersBy_11 : decode cX5_sleepersBy 11 = .ok (.iload_n 2, 1) := by decide +kernel
theorem dX5_sleepersBy_12 : decode cX5_sleepersBy 12 = .ok (.iconst 2, 1) := by decide +kernel
theorem dX5_sleepersBy_13 : decode cX5_sleepersBy 13 = .ok (.if_icmp .gt 15, 3) := by decide +kernel
theorem dX5_sleepersBy_16 : decode cX5_sleepersBy 16 = .ok (.iload 4, 2) := by decide +kernel
theorem dX5_sleepersBy_18 : decode cX5_sleepersBy 18 = .ok (.ifCond .lt 10, 3) := by decide +kernel
theorem dX5_sleepersBy_21 : decode cX5_sleepersBy 21 = .ok (.iload 4, 2) := by decide +kernel
theorem dX5_sleepersBy_23 : decode cX5_sleepersBy 23 = .ok (.bipush 6, 2) := by decide +kernel
theorem dX5_sleepersBy_25 : decode cX5_sleepersBy 25 = .ok (.if_icmp .le 6, 3) := by decide +kernel
theorem dX5_sleepersBy_28 : decode cX5_sleepersBy 28 = .ok (.bipush (-2), 2) := by decide +kernel
theorem dX5_sleepersBy_30 : decode cX5_sleepersBy 30 = .ok (.ireturn, 1) := by decide +kernel
theorem dX5_sleepersBy_31 : decode cX5_sleepersBy 31 = .ok (.aload_n 0, 1) := by decide +kernel
theorem dX5_sleepersBy_32 : decode cX5_sleepersBy 32 = .ok (.getfield 41, 3) := by decide +kernel
theorem dX5_sleepersBy_35 : decode cX5_sleepersBy 35 = .ok (.iload_n 1, 1) := by decide +kernel
theorem dX5_sleepersBy_36 : decode cX5_sleepersBy 36 = .ok (.aaload, 1) := by decide +kernel
theorem dX5_sleepersBy_37 : decode cX5_sleepersBy 37 = .ok (.astore 5, 2) := by decide +kernel
theorem dX5_sleepersBy_39 : decode cX5_sleepersBy 39 = .ok (.aload 5, 2) := by decide +kernel
theorem dX5_sleepersBy_41 : decode cX5_sleepersBy 41 = .ok (.getfield 288, 3) := by decide +kernel
theorem dX5_sleepersBy_44 : decode cX5_sleepersBy 44 = .ok (.iconst (-1), 1) := by decide +kernel
theorem dX5_sleepersBy_45 : decode cX5_sleepersBy 45 = .ok (.if_icmp .ne 6, 3) := by decide +kernel
theorem dX5_sleepersBy_48 : decode cX5_sleepersBy 48 = .ok (.bipush (-11), 2) := by decide +kernel
theorem dX5_sleepersBy_50 : decode cX5_sleepersBy 50 = .ok (.ireturn, 1) := by decide +kernel
theorem dX5_sleepersBy_51 : decode cX5_sleepersBy 51 = .ok (.aload 5, 2) := by decide +kernel
theorem dX5_sleepersBy_53 : decode cX5_sleepersBy 53 = .ok (.getfield 288, 3) := by decide +kernel
theorem dX5_sleepersBy_56 : decode cX5_sleepersBy 56 = .ok (.iload_n 2, 1) := by decide +kernel
theorem dX5_sleepersBy_57 : decode cX5_sleepersBy 57 = .ok (.if_icmp .eq 6, 3) := by decide +kernel
theorem dX5_sleepersBy_60 : decode cX5_sleepersBy 60 = .ok (.bipush (-13), 2) := by decide +kernel
theorem dX5_sleepersBy_62 : decode cX5_sleepersBy 62 = .ok (.ireturn, 1) := by decide +kernel
theorem dX5_sleepersBy_63 : decode cX5_sleepersBy 63 = .ok (.iconst 0, 1) := by decide +kernel
theorem dX5_sleepersBy_64 : decode cX5_sleepersBy 64 = .ok (.istore 6, 2) := by decide +kernel
theorem dX5_sleepersBy_66 : decode cX5_sleepersBy 66 = .ok (.iconst 0, 1) := by decide +kernel
theorem dX5_sleepersBy_67 : decode cX5_sleepersBy 67 = .ok (.istore 7, 2) := by decide +kernel
theorem dX5_sleepersBy_69 : decode cX5_sleepersBy 69 = .ok (.iload 7, 2) := by decide +kernel
theorem dX5_sleepersBy_71 : decode cX5_sleepersBy 71 = .ok (.iload 4, 2) := by decide +kernel
theorem dX5_sleepersBy_73 : decode cX5_sleepersBy 73 = .ok (.if_icmp .ge 71, 3) := by decide +kernel
theorem dX5_sleepersBy_76 : decode cX5_sleepersBy 76 = .ok (.aload 5, 2) := by decide +kernel
theorem dX5_sleepersBy_78 : decode cX5_sleepersBy 78 = .ok (.iload_n 3, 1) := by decide +kernel
theorem dX5_sleepersBy_79 : decode cX5_sleepersBy 79 = .ok (.invokevirtual 285, 3) := by decide +kernel
theorem dX5_sleepersBy_82 : decode cX5_sleepersBy 82 = .ok (.ifCond .eq 19, 3) := by decide +kernel
theorem dX5_sleepersBy_85 : decode cX5_sleepersBy 85 = .ok (.aload 5, 2) := by decide +kernel
theorem dX5_sleepersBy_87 : decode cX5_sleepersBy 87 = .ok (.iload_n 3, 1) := by decide +kernel
theorem dX5_sleepersBy_88 : decode cX5_sleepersBy 88 = .ok (.iconst 2, 1) := by decide +kernel
theorem dX5_sleepersBy_89 : decode cX5_sleepersBy 89 = .ok (.iload 7, 2) := by decide +kernel
theorem dX5_sleepersBy_91 : decode cX5_sleepersBy 91 = .ok (.imul, 1) := by decide +kernel
theorem dX5_sleepersBy_92 : decode cX5_sleepersBy 92 = .ok (.iadd, 1) := by decide +kernel
theorem dX5_sleepersBy_93 : decode cX5_sleepersBy 93 = .ok (.iconst 1, 1) := by decide +kernel
theorem dX5_sleepersBy_94 : decode cX5_sleepersBy 94 = .ok (.iadd, 1) := by decide +kernel
theorem dX5_sleepersBy_95 : decode cX5_sleepersBy 95 = .ok (.invokevirtual 285, 3) := by decide +kernel
theorem dX5_sleepersBy_98 : decode cX5_sleepersBy 98 = .ok (.ifCond .ne 6, 3) := by decide +kernel
theorem dX5_sleepersBy_101 : decode cX5_sleepersBy 101 = .ok (.bipush (-12), 2) := by decide +kernel
theorem dX5_sleepersBy_103 : decode cX5_sleepersBy 103 = .ok (.ireturn, 1) := by decide +kernel
theorem dX5_sleepersBy_104 : decode cX5_sleepersBy 104 = .ok (.aload_n 0, 1) := by decide +kernel
theorem dX5_sleepersBy_105 : decode cX5_sleepersBy 105 = .ok (.aload 5, 2) := by decide +kernel
theorem dX5_sleepersBy_107 : decode cX5_sleepersBy 107 = .ok (.iload_n 3, 1) := by decide +kernel
theorem dX5_sleepersBy_108 : decode cX5_sleepersBy 108 = .ok (.iconst 2, 1) := by decide +kernel
theorem dX5_sleepersBy_109 : decode cX5_sleepersBy 109 = .ok (.iload 7, 2) := by decide +kernel
theorem dX5_sleepersBy_111 : decode cX5_sleepersBy 111 = .ok (.imul, 1) := by decide +kernel
theorem dX5_sleepersBy_112 : decode cX5_sleepersBy 112 = .ok (.iadd, 1) := by decide +kernel
theorem dX5_sleepersBy_113 : decode cX5_sleepersBy 113 = .ok (.invokevirtual 304, 3) := by decide +kernel
theorem dX5_sleepersBy_116 : decode cX5_sleepersBy 116 = .ok (.aload 5, 2) := by decide +kernel
theorem dX5_sleepersBy_118 : decode cX5_sleepersBy 118 = .ok (.iload_n 3, 1) := by decide +kernel
theorem dX5_sleepersBy_119 : decode cX5_sleepersBy 119 = .ok (.iconst 2, 1) := by decide +kernel
theorem dX5_sleepersBy_120 : decode cX5_sleepersBy 120 = .ok (.iload 7, 2) := by decide +kernel
theorem dX5_sleepersBy_122 : decode cX5_sleepersBy 122 = .ok (.imul, 1) := by decide +kernel
theorem dX5_sleepersBy_123 : decode cX5_sleepersBy 123 = .ok (.iadd, 1) := by decide +kernel
theorem dX5_sleepersBy_124 : decode cX5_sleepersBy 124 = .ok (.iconst 1, 1) := by decide +kernel
theorem dX5_sleepersBy_125 : decode cX5_sleepersBy 125 = .ok (.iadd, 1) := by decide +kernel
theorem dX5_sleepersBy_126 : decode cX5_sleepersBy 126 = .ok (.invokevirtual 304, 3) := by decide +kernel
theorem dX5_sleepersBy_129 : decode cX5_sleepersBy 129 = .ok (.invokevirtual 307, 3) := by decide +kernel
theorem dX5_sleepersBy_132 : decode cX5_sleepersBy 132 = .ok (.ifCond .lt 6, 3) := by decide +kernel
theorem dX5_sleepersBy_135 : decode cX5_sleepersBy 135 = .ok (.iinc 6 1, 3) := by decide +kernel
theorem dX5_sleepersBy_138 : decode cX5_sleepersBy 138 = .ok (.iinc 7 1, 3) := by decide +kernel
theorem dX5_sleepersBy_141 : decode cX5_sleepersBy 141 = .ok (.goto (-72), 3) := by decide +kernel
theorem dX5_sleepersBy_144 : decode cX5_sleepersBy 144 = .ok (.iload 6, 2) := by decide +kernel
theorem dX5_sleepersBy_146 : decode cX5_sleepersBy 146 = .ok (.ireturn, 1) := by decide +kernel
theorem dX5_taken_0 : decode cX5_taken 0 = .ok (.iload_n 2, 1) := by decide +kernel
theorem dX5_taken_1 : decode cX5_taken 1 = .ok (.ifCond .lt 9, 3) := by decide +kernel
theorem dX5_taken_4 : decode cX5_taken 4 = .ok (.iload_n 2, 1) := by decide +kernel
theorem dX5_taken_5 : decode cX5_taken 5 = .ok (.bipush 6, 2) := by decide +kernel
theorem dX5_taken_7 : decode cX5_taken 7 = .ok (.if_icmp .le 6, 3) := by decide +kernel
theorem dX5_taken_10 : decode cX5_taken 10 = .ok (.bipush (-2), 2) := by decide +kernel
theorem dX5_taken_12 : decode cX5_taken 12 = .ok (.ireturn, 1) := by decide +kernel
theorem dX5_taken_13 : decode cX5_taken 13 = .ok (.iload_n 1, 1) := by decide +kernel
theorem dX5_taken_14 : decode cX5_taken 14 = .ok (.ifCond .lt 9, 3) := by decide +kernel
theorem dX5_taken_17 : decode cX5_taken 17 = .ok (.iload_n 1, 1) := by decide +kernel
theorem dX5_taken_18 : decode cX5_taken 18 = .ok (.bipush 12, 2) := by decide +kernel
theorem dX5_taken_20 : decode cX5_taken 20 = .ok (.if_icmp .lt 6, 3) := by decide +kernel
theorem dX5_taken_23 : decode cX5_taken 23 = .ok (.bipush (-12), 2) := by decide +kernel
theorem dX5_taken_25 : decode cX5_taken 25 = .ok (.ireturn, 1) := by decide +kernel
theorem dX5_taken_26 : decode cX5_taken 26 = .ok (.iload_n 1, 1) := by decide +kernel
theorem dX5_taken_27 : decode cX5_taken 27 = .ok (.bipush 6, 2) := by decide +kernel
theorem dX5_taken_29 : decode cX5_taken 29 = .ok (.if_icmp .lt 7, 3) := by decide +kernel
theorem dX5_taken_32 : decode cX5_taken 32 = .ok (.iconst 1, 1) := by decide +kernel
theorem dX5_taken_33 : decode cX5_taken 33 = .ok (.goto 4, 3) := by decide +kernel
theorem dX5_taken_36 : decode cX5_taken 36 = .ok (.iconst 0, 1) := by decide +kernel
theorem dX5_taken_37 : decode cX5_taken 37 = .ok (.istore_n 3, 1) := by decide +kernel
theorem dX5_taken_38 : decode cX5_taken 38 = .ok (.aload_n 0, 1) := by decide +kernel
theorem dX5_taken_39 : decode cX5_taken 39 = .ok (.getfield 10, 3) := by decide +kernel
theorem dX5_taken_42 : decode cX5_taken 42 = .ok (.iload_n 3, 1) := by decide +kernel
theorem dX5_taken_43 : decode cX5_taken 43 = .ok (.ifCond .eq 10, 3) := by decide +kernel
theorem dX5_taken_46 : decode cX5_taken 46 = .ok (.iload_n 1, 1) := by decide +kernel
theorem dX5_taken_47 : decode cX5_taken 47 = .ok (.bipush 6, 2) := by decide +kernel
theorem dX5_taken_49 : decode cX5_taken 49 = .ok (.isub, 1) := by decide +kernel
theorem dX5_taken_50 : decode cX5_taken 50 = .ok (.goto 4, 3) := by decide +kernel
theorem dX5_taken_53 : decode cX5_taken 53 = .ok (.iload_n 1, 1) := by decide +kernel
theorem dX5_taken_54 : decode cX5_taken 54 = .ok (.invokevirtual 121, 3) := by decide +kernel
theorem dX5_taken_57 : decode cX5_taken 57 = .ok (.astore 4, 2) := by decide +kernel
theorem dX5_taken_59 : decode cX5_taken 59 = .ok (.aload 4, 2) := by decide +kernel
theorem dX5_taken_61 : decode cX5_taken 61 = .ok (.ifnonnull 6, 3) := by decide +kernel
theorem dX5_taken_64 : decode cX5_taken 64 = .ok (.bipush (-11), 2) := by decide +kernel
theorem dX5_taken_66 : decode cX5_taken 66 = .ok (.ireturn, 1) := by decide +kernel
theorem dX5_taken_67 : decode cX5_taken 67 = .ok (.iload_n 3, 1) := by decide +kernel
theorem dX5_taken_68 : decode cX5_taken 68 = .ok (.ifCond .eq 20, 3) := by decide +kernel
theorem dX5_taken_71 : decode cX5_taken 71 = .ok (.iload_n 2, 1) := by decide +kernel
theorem dX5_taken_72 : decode cX5_taken 72 = .ok (.bipush 6, 2) := by decide +kernel
theorem dX5_taken_74 : decode cX5_taken 74 = .ok (.if_icmp .ne 11, 3) := by decide +kernel
theorem dX5_taken_77 : decode cX5_taken 77 = .ok (.aload 4, 2) := by decide +kernel
theorem dX5_taken_79 : decode cX5_taken 79 = .ok (.getfield 310, 3) := by decide +kernel
theorem dX5_taken_82 : decode cX5_taken 82 = .ok (.goto 5, 3) := by decide +kernel
theorem dX5_taken_85 : decode cX5_taken 85 = .ok (.bipush (-13), 2) := by decide +kernel
theorem dX5_taken_87 : decode cX5_taken 87 = .ok (.ireturn, 1) := by decide +kernel
theorem dX5_taken_88 : decode cX5_taken 88 = .ok (.iload_n 2, 1) := by decide +kernel
theorem dX5_taken_89 : decode cX5_taken 89 = .ok (.bipush 6, 2) := by decide +kernel
theorem dX5_taken_91 : decode cX5_taken 91 = .ok (.if_icmp .ge 16, 3) := by decide +kernel
theorem dX5_taken_94 : decode cX5_taken 94 = .ok (.aload 4, 2) := by decide +kernel
theorem dX5_taken_96 : decode cX5_taken 96 = .ok (.iload_n 2, 1) := by decide +kernel
theorem dX5_taken_97 : decode cX5_taken 97 = .ok (.invokevirtual 313, 3) := by decide +kernel
theorem dX5_taken_100 : decode cX5_taken 100 = .ok (.ifCond .eq 7, 3) := by decide +kernel
theorem dX5_taken_103 : decode cX5_taken 103 = .ok (.iload_n 1, 1) := by decide +kernel
theorem dX5_taken_104 : decode cX5_taken 104 = .ok (.goto 5, 3) := by decide +kernel
theorem dX5_taken_107 : decode cX5_taken 107 = .ok (.bipush (-13), 2) := by decide +kernel
theorem dX5_taken_109 : decode cX5_taken 109 = .ok (.ireturn, 1) := by decide +kernel
theorem dX5_isCell_0 : decode cX5_isCell 0 = .ok (.iload_n 0, 1) := by decide +kernel
theorem dX5_isCell_1 : decode cX5_isCell 1 = .ok (.ifCond .lt 13, 3) := by decide +kernel
theorem dX5_isCell_4 : decode cX5_isCell 4 = .ok (.iload_n 0, 1) := by decide +kernel
theorem dX5_isCell_5 : decode cX5_isCell 5 = .ok (.bipush 64, 2) := by decide +kernel
theorem dX5_isCell_7 : decode cX5_isCell 7 = .ok (.if_icmp .ge 7, 3) := by decide +kernel
theorem dX5_isCell_10 : decode cX5_isCell 10 = .ok (.iconst 1, 1) := by decide +kernel
theorem dX5_isCell_11 : decode cX5_isCell 11 = .ok (.goto 4, 3) := by decide +kernel
theorem dX5_isCell_14 : decode cX5_isCell 14 = .ok (.iconst 0, 1) := by decide +kernel
theorem dX5_isCell_15 : decode cX5_isCell 15 = .ok (.ireturn, 1) := by decide +kernel
theorem dX5_isByte_0 : decode cX5_isByte 0 = .ok (.iload_n 0, 1) := by decide +kernel
theorem dX5_isByte_1 : decode cX5_isByte 1 = .ok (.ifCond .lt 14, 3) := by decide +kernel
theorem dX5_isByte_4 : decode cX5_isByte 4 = .ok (.iload_n 0, 1) := by decide +kernel
theorem dX5_isByte_5 : decode cX5_isByte 5 = .ok (.sipush 255, 3) := by decide +kernel
theorem dX5_isByte_8 : decode cX5_isByte 8 = .ok (.if_icmp .gt 7, 3) := by decide +kernel
theorem dX5_isByte_11 : decode cX5_isByte 11 = .ok (.iconst 1, 1) := by decide +kernel
theorem dX5_isByte_12 : decode cX5_isByte 12 = .ok (.goto 4, 3) := by decide +kernel
theorem dX5_isByte_15 : decode cX5_isByte 15 = .ok (.iconst 0, 1) := by decide +kernel
theorem dX5_isByte_16 : decode cX5_isByte 16 = .ok (.ireturn, 1) := by decide +kernel
theorem dX5_isSheet_0 : decode cX5_isSheet 0 = .ok (.iload_n 0, 1) := by decide +kernel
theorem dX5_isSheet_1 : decode cX5_isSheet 1 = .ok (.ifCond .lt 12, 3) := by decide +kernel
theorem dX5_isSheet_4 : decode cX5_isSheet 4 = .ok (.iload_n 0, 1) := by decide +kernel
theorem dX5_isSheet_5 : decode cX5_isSheet 5 = .ok (.iconst 4, 1) := by decide +kernel
theorem dX5_isSheet_6 : decode cX5_isSheet 6 = .ok (.if_icmp .ge 7, 3) := by decide +kernel
theorem dX5_isSheet_9 : decode cX5_isSheet 9 = .ok (.iconst 1, 1) := by decide +kernel
theorem dX5_isSheet_10 : decode cX5_isSheet 10 = .ok (.goto 4, 3) := by decide +kernel
theorem dX5_isSheet_13 : decode cX5_isSheet 13 = .ok (.iconst 0, 1) := by decide +kernel
theorem dX5_isSheet_14 : decode cX5_isSheet 14 = .ok (.ireturn, 1) := by decide +kernel
theorem dX5_isKindMore_0 : decode cX5_isKindMore 0 = .ok (.iload_n 0, 1) := by decide +kernel
theorem dX5_isKindMore_1 : decode cX5_isKindMore 1 = .ok (.ifCond .lt 13, 3) := by decide +kernel
theorem dX5_isKindMore_4 : decode cX5_isKindMore 4 = .ok (.iload_n 0, 1) := by decide +kernel
theorem dX5_isKindMore_5 : decode cX5_isKindMore 5 = .ok (.bipush 60, 2) := by decide +kernel
theorem dX5_isKindMore_7 : decode cX5_isKindMore 7 = .ok (.if_icmp .ge 7, 3) := by decide +kernel
theorem dX5_isKindMore_10 : decode cX5_isKindMore 10 = .ok (.iconst 1, 1) := by decide +kernel
theorem dX5_isKindMore_11 : decode cX5_isKindMore 11 = .ok (.goto 4, 3) := by decide +kernel
theorem dX5_isKindMore_14 : decode cX5_isKindMore 14 = .ok (.iconst 0, 1) := by decide +kernel
theorem dX5_isKindMore_15 : decode cX5_isKindMore 15 = .ok (.ireturn, 1) := by decide +kernel
theorem dX5_isCellWay_0 : decode cX5_isCellWay 0 = .ok (.iload_n 0, 1) := by decide +kernel
theorem dX5_isCellWay_1 : decode cX5_isCellWay 1 = .ok (.ifCond .lt 22, 3) := by decide +kernel
theorem dX5_isCellWay_4 : decode cX5_isCellWay 4 = .ok (.iload_n 0, 1) := by decide +kernel
theorem dX5_isCellWay_5 : decode cX5_isCellWay 5 = .ok (.sipush 640, 3) := by decide +kernel
theorem dX5_isCellWay_8 : decode cX5_isCellWay 8 = .ok (.if_icmp .ge 15, 3) := by decide +kernel
theorem dX5_isCellWay_11 : decode cX5_isCellWay 11 = .ok (.iload_n 0, 1) := by decide +kernel
theorem dX5_isCellWay_12 : decode cX5_isCellWay 12 = .ok (.bipush 10, 2) := by decide +kernel
theorem dX5_isCellWay_14 : decode cX5_isCellWay 14 = .ok (.irem, 1) := by decide +kernel
theorem dX5_isCellWay_15 : decode cX5_isCellWay 15 = .ok (.iconst 4, 1) := by decide +kernel
theorem dX5_isCellWay_16 : decode cX5_isCellWay 16 = .ok (.if_icmp .ge 7, 3) := by decide +kernel
theorem dX5_isCellWay_19 : decode cX5_isCellWay 19 = .ok (.iconst 1, 1) := by decide +kernel
theorem dX5_isCellWay_20 : decode cX5_isCellWay 20 = .ok (.goto 4, 3) := by decide +kernel
theorem dX5_isCellWay_23 : decode cX5_isCellWay 23 = .ok (.iconst 0, 1) := by decide +kernel
theorem dX5_isCellWay_24 : decode cX5_isCellWay 24 = .ok (.ireturn, 1) := by decide +kernel
theorem dX5_hasWater_0 : decode cX5_hasWater 0 = .ok (.lload_n 0, 1) := by decide +kernel
theorem dX5_hasWater_1 : decode cX5_hasWater 1 = .ok (.iload_n 2, 1) := by decide +kernel
theorem dX5_hasWater_2 : decode cX5_hasWater 2 = .ok (.lushr, 1) := by decide +kernel
theorem dX5_hasWater_3 : decode cX5_hasWater 3 = .ok (.lconst 1, 1) := by decide +kernel
theorem dX5_hasWater_4 : decode cX5_hasWater 4 = .ok (.land, 1) := by decide +kernel
theorem dX5_hasWater_5 : decode cX5_hasWater 5 = .ok (.lconst 0, 1) := by decide +kernel
theorem dX5_hasWater_6 : decode cX5_hasWater 6 = .ok (.lcmp, 1) := by decide +kernel
theorem dX5_hasWater_7 : decode cX5_hasWater 7 = .ok (.ifCond .eq 7, 3) := by decide +kernel
theorem dX5_hasWater_10 : decode cX5_hasWater 10 = .ok (.iconst 1, 1) := by decide +kernel
theorem dX5_hasWater_11 : decode cX5_hasWater 11 = .ok (.goto 4, 3) := by decide +kernel
theorem dX5_hasWater_14 : decode cX5_hasWater 14 = .ok (.iconst 0, 1) := by decide +kernel
theorem dX5_hasWater_15 : decode cX5_hasWater 15 = .ok (.ireturn, 1) := by decide +kernel
theorem dX5_far_0 : decode cX5_far 0 = .ok (.iload_n 0, 1) := by decide +kernel
theorem dX5_far_1 : decode cX5_far 1 = .ok (.bipush 8, 2) := by decide +kernel
theorem dX5_far_3 : decode cX5_far 3 = .ok (.irem, 1) := by decide +kernel
theorem dX5_far_4 : decode cX5_far 4 = .ok (.iload_n 1, 1) := by decide +kernel
theorem dX5_far_5 : decode cX5_far 5 = .ok (.bipush 8, 2) := by decide +kernel
theorem dX5_far_7 : decode cX5_far 7 = .ok (.irem, 1) := by decide +kernel
theorem dX5_far_8 : decode cX5_far 8 = .ok (.isub, 1) := by decide +kernel
theorem dX5_far_9 : decode cX5_far 9 = .ok (.invokestatic 316, 3) := by decide +kernel
theorem dX5_far_12 : decode cX5_far 12 = .ok (.iload_n 0, 1) := by decide +kernel
theorem dX5_far_13 : decode cX5_far 13 = .ok (.bipush 8, 2) := by decide +kernel
theorem dX5_far_15 : decode cX5_far 15 = .ok (.idiv, 1) := by decide +kernel
theorem dX5_far_16 : decode cX5_far 16 = .ok (.iload_n 1, 1) := by decide +kernel
theorem dX5_far_17 : decode cX5_far 17 = .ok (.bipush 8, 2) := by decide +kernel
theorem dX5_far_19 : decode cX5_far 19 = .ok (.idiv, 1) := by decide +kernel
theorem dX5_far_20 : decode cX5_far 20 = .ok (.isub, 1) := by decide +kernel
theorem dX5_far_21 : decode cX5_far 21 = .ok (.invokestatic 316, 3) := by decide +kernel
theorem dX5_far_24 : decode cX5_far 24 = .ok (.iadd, 1) := by decide +kernel
theorem dX5_far_25 : decode cX5_far 25 = .ok (.ireturn, 1) := by decide +kernel
theorem dX5_lowest_0 : decode cX5_lowest 0 = .ok (.lload_n 0, 1) := by decide +kernel
theorem dX5_lowest_1 : decode cX5_lowest 1 = .ok (.lstore 5, 2) := by decide +kernel
theorem dX5_lowest_3 : decode cX5_lowest 3 = .ok (.lload_n 2, 1) := by decide +kernel
theorem dX5_lowest_4 : decode cX5_lowest 4 = .ok (.lstore 7, 2) := by decide +kernel
theorem dX5_lowest_6 : decode cX5_lowest 6 = .ok (.iconst 0, 1) := by decide +kernel
theorem dX5_lowest_7 : decode cX5_lowest 7 = .ok (.istore 9, 2) := by decide +kernel
theorem dX5_lowest_9 : decode cX5_lowest 9 = .ok (.iload 9, 2) := by decide +kernel
theorem dX5_lowest_11 : decode cX5_lowest 11 = .ok (.bipush 64, 2) := by decide +kernel
theorem dX5_lowest_13 : decode cX5_lowest 13 = .ok (.if_icmp .ge 31, 3) := by decide +kernel
theorem dX5_lowest_16 : decode cX5_lowest 16 = .ok (.lload 7, 2) := by decide +kernel
theorem dX5_lowest_18 : decode cX5_lowest 18 = .ok (.lconst 0, 1) := by decide +kernel
theorem dX5_lowest_19 : decode cX5_lowest 19 = .ok (.lcmp, 1) := by decide +kernel
theorem dX5_lowest_20 : decode cX5_lowest 20 = .ok (.ifCond .le 24, 3) := by decide +kernel
theorem dX5_lowest_23 : decode cX5_lowest 23 = .ok (.lload 5, 2) := by decide +kernel
theorem dX5_lowest_25 : decode cX5_lowest 25 = .ok (.lload 7, 2) := by decide +kernel
theorem dX5_lowest_27 : decode cX5_lowest 27 = .ok (.lrem, 1) := by decide +kernel
theorem dX5_lowest_28 : decode cX5_lowest 28 = .ok (.lstore 10, 2) := by decide +kernel
theorem dX5_lowest_30 : decode cX5_lowest 30 = .ok (.lload 7, 2) := by decide +kernel
theorem dX5_lowest_32 : decode cX5_lowest 32 = .ok (.lstore 5, 2) := by decide +kernel
theorem dX5_lowest_34 : decode cX5_lowest 34 = .ok (.lload 10, 2) := by decide +kernel
theorem dX5_lowest_36 : decode cX5_lowest 36 = .ok (.lstore 7, 2) := by decide +kernel
theorem dX5_lowest_38 : decode cX5_lowest 38 = .ok (.iinc 9 1, 3) := by decide +kernel
theorem dX5_lowest_41 : decode cX5_lowest 41 = .ok (.goto (-32), 3) := by decide +kernel
theorem dX5_lowest_44 : decode cX5_lowest 44 = .ok (.lconst 1, 1) := by decide +kernel
theorem dX5_lowest_45 : decode cX5_lowest 45 = .ok (.lload 5, 2) := by decide +kernel
theorem dX5_lowest_47 : decode cX5_lowest 47 = .ok (.invokestatic 319, 3) := by decide +kernel
theorem dX5_lowest_50 : decode cX5_lowest 50 = .ok (.lstore 9, 2) := by decide +kernel
theorem dX5_lowest_52 : decode cX5_lowest 52 = .ok (.iload 4, 2) := by decide +kernel
theorem dX5_lowest_54 : decode cX5_lowest 54 = .ok (.ifCond .ne 10, 3) := by decide +kernel
theorem dX5_lowest_57 : decode cX5_lowest 57 = .ok (.lload_n 0, 1) := by decide +kernel
theorem dX5_lowest_58 : decode cX5_lowest 58 = .ok (.lload 9, 2) := by decide +kernel
theorem dX5_lowest_60 : decode cX5_lowest 60 = .ok (.ldiv, 1) := by decide +kernel
theorem dX5_lowest_61 : decode cX5_lowest 61 = .ok (.goto 7, 3) := by decide +kernel
theorem dX5_lowest_64 : decode cX5_lowest 64 = .ok (.lload_n 2, 1) := by decide +kernel
theorem dX5_lowest_65 : decode cX5_lowest 65 = .ok (.lload 9, 2) := by decide +kernel
theorem dX5_lowest_67 : decode cX5_lowest 67 = .ok (.ldiv, 1) := by decide +kernel
theorem dX5_lowest_68 : decode cX5_lowest 68 = .ok (.lreturn, 1) := by decide +kernel
theorem dX5_feedOne_0 : decode cX5_feedOne 0 = .ok (.aload_n 0, 1) := by decide +kernel
theorem dX5_feedOne_1 : decode cX5_feedOne 1 = .ok (.getfield 103, 3) := by decide +kernel
theorem dX5_feedOne_4 : decode cX5_feedOne 4 = .ok (.ifCond .lt 33, 3) := by decide +kernel
theorem dX5_feedOne_7 : decode cX5_feedOne 7 = .ok (.aload_n 0, 1) := by decide +kernel
theorem dX5_feedOne_8 : decode cX5_feedOne 8 = .ok (.getfield 103, 3) := by decide +kernel
theorem dX5_feedOne_11 : decode cX5_feedOne 11 = .ok (.sipush 160, 3) := by decide +kernel
theorem dX5_feedOne_14 : decode cX5_feedOne 14 = .ok (.if_icmp .ge 23, 3) := by decide +kernel
theorem dX5_feedOne_17 : decode cX5_feedOne 17 = .ok (.aload_n 0, 1) := by decide +kernel
theorem dX5_feedOne_18 : decode cX5_feedOne 18 = .ok (.getfield 35, 3) := by decide +kernel
theorem dX5_feedOne_21 : decode cX5_feedOne 21 = .ok (.aload_n 0, 1) := by decide +kernel
theorem dX5_feedOne_22 : decode cX5_feedOne 22 = .ok (.getfield 103, 3) := by decide +kernel
theorem dX5_feedOne_25 : decode cX5_feedOne 25 = .ok (.iload_n 1, 1) := by decide +kernel
theorem dX5_feedOne_26 : decode cX5_feedOne 26 = .ok (.iastore, 1) := by decide +kernel
theorem dX5_feedOne_27 : decode cX5_feedOne 27 = .ok (.aload_n 0, 1) := by decide +kernel
theorem dX5_feedOne_28 : decode cX5_feedOne 28 = .ok (.dup, 1) := by decide +kernel
theorem dX5_feedOne_29 : decode cX5_feedOne 29 = .ok (.getfield 103, 3) := by decide +kernel
theorem dX5_feedOne_32 : decode cX5_feedOne 32 = .ok (.iconst 1, 1) := by decide +kernel
theorem dX5_feedOne_33 : decode cX5_feedOne 33 = .ok (.iadd, 1) := by decide +kernel
theorem dX5_feedOne_34 : decode cX5_feedOne 34 = .ok (.putfield 103, 3) := by decide +kernel
theorem dX5_feedOne_37 : decode cX5_feedOne 37 = .ok (.return_, 1) := by decide +kernel
theorem dX5_textNumbered_0 : decode cX5_textNumbered 0 = .ok (.iload_n 1, 1) := by decide +kernel
theorem dX5_textNumbered_1 : decode cX5_textNumbered 1 = .ok (.ifCond .lt 18, 3) := by decide +kernel
theorem dX5_textNumbered_4 : decode cX5_textNumbered 4 = .ok (.iload_n 1, 1) := by decide +kernel
theorem dX5_textNumbered_5 : decode cX5_textNumbered 5 = .ok (.bipush 6, 2) := by decide +kernel
theorem dX5_textNumbered_7 : decode cX5_textNumbered 7 = .ok (.if_icmp .ge 12, 3) := by decide +kernel
theorem dX5_textNumbered_10 : decode cX5_textNumbered 10 = .ok (.aload_n 0, 1) := by decide +kernel
theorem dX5_textNumbered_11 : decode cX5_textNumbered 11 = .ok (.getfield 31, 3) := by decide +kernel
theorem dX5_textNumbered_14 : decode cX5_textNumbered 14 = .ok (.iload_n 1, 1) := by decide +kernel
theorem dX5_textNumbered_15 : decode cX5_textNumbered 15 = .ok (.aaload, 1) := by decide +kernel
theorem dX5_textNumbered_16 : decode cX5_textNumbered 16 = .ok (.goto 9, 3) := by decide +kernel
theorem dX5_textNumbered_19 : decode cX5_textNumbered 19 = .ok (.aload_n 0, 1) := by decide +kernel
theorem dX5_textNumbered_20 : decode cX5_textNumbered 20 = .ok (.getfield 31, 3) := by decide +kernel
theorem dX5_textNumbered_23 : decode cX5_textNumbered 23 = .ok (.iconst 0, 1) := by decide +kernel
theorem dX5_textNumbered_24 : decode cX5_textNumbered 24 = .ok (.aaload, 1) := by decide +kernel
theorem dX5_textNumbered_25 : decode cX5_textNumbered 25 = .ok (.areturn, 1) := by decide +kernel
theorem dX5_theLaw_0 : decode cX5_theLaw 0 = .ok (.aload_n 0, 1) := by decide +kernel
theorem dX5_theLaw_1 : decode cX5_theLaw 1 = .ok (.aload_n 0, 1) := by decide +kernel
theorem dX5_theLaw_2 : decode cX5_theLaw 2 = .ok (.getfield 10, 3) := by decide +kernel
theorem dX5_theLaw_5 : decode cX5_theLaw 5 = .ok (.getfield 100, 3) := by decide +kernel
theorem dX5_theLaw_8 : decode cX5_theLaw 8 = .ok (.invokevirtual 264, 3) := by decide +kernel
theorem dX5_theLaw_11 : decode cX5_theLaw 11 = .ok (.areturn, 1) := by decide +kernel
theorem dX5_sheetRefusal_0 : decode cX5_sheetRefusal 0 = .ok (.iload_n 1, 1) := by decide +kernel
theorem dX5_sheetRefusal_1 : decode cX5_sheetRefusal 1 = .ok (.invokestatic 268, 3) := by decide +kernel
theorem dX5_sheetRefusal_4 : decode cX5_sheetRefusal 4 = .ok (.ifCond .ne 6, 3) := by decide +kernel
theorem dX5_sheetRefusal_7 : decode cX5_sheetRefusal 7 = .ok (.bipush (-2), 2) := by decide +kernel
theorem dX5_sheetRefusal_9 : decode cX5_sheetRefusal 9 = .ok (.ireturn, 1) := by decide +kernel
theorem dX5_sheetRefusal_10 : decode cX5_sheetRefusal 10 = .ok (.aload_n 0, 1) := by decide +kernel
theorem dX5_sheetRefusal_11 : decode cX5_sheetRefusal 11 = .ok (.getfield 41, 3) := by decide +kernel
theorem dX5_sheetRefusal_14 : decode cX5_sheetRefusal 14 = .ok (.iload_n 1, 1) := by decide +kernel
theorem dX5_sheetRefusal_15 : decode cX5_sheetRefusal 15 = .ok (.aaload, 1) := by decide +kernel
theorem dX5_sheetRefusal_16 : decode cX5_sheetRefusal 16 = .ok (.getfield 288, 3) := by decide +kernel
theorem dX5_sheetRefusal_19 : decode cX5_sheetRefusal 19 = .ok (.iconst (-1), 1) := by decide +kernel
theorem dX5_sheetRefusal_20 : decode cX5_sheetRefusal 20 = .ok (.if_icmp .ne 8, 3) := by decide +kernel
theorem dX5_sheetRefusal_23 : decode cX5_sheetRefusal 23 = .ok (.bipush (-11), 2) := by decide +kernel
theorem dX5_sheetRefusal_25 : decode cX5_sheetRefusal 25 = .ok (.goto 4, 3) := by decide +kernel
theorem dX5_sheetRefusal_28 : decode cX5_sheetRefusal 28 = .ok (.iconst 0, 1) := by decide +kernel
theorem dX5_sheetRefusal_29 : decode cX5_sheetRefusal 29 = .ok (.ireturn, 1) := by decide +kernel
theorem dX5_toldRefusal_0 : decode cX5_toldRefusal 0 = .ok (.aload_n 0, 1) := by decide +kernel
theorem dX5_toldRefusal_1 : decode cX5_toldRefusal 1 = .ok (.iload_n 1, 1) := by decide +kernel
theorem dX5_toldRefusal_2 : decode cX5_toldRefusal 2 = .ok (.invokevirtual 176, 3) := by decide +kernel
theorem dX5_toldRefusal_5 : decode cX5_toldRefusal 5 = .ok (.istore_n 2, 1) := by decide +kernel
theorem dX5_toldRefusal_6 : decode cX5_toldRefusal 6 = .ok (.iload_n 2, 1) := by decide +kernel
theorem dX5_toldRefusal_7 : decode cX5_toldRefusal 7 = .ok (.ifCond .eq 5, 3) := by decide +kernel
theorem dX5_toldRefusal_10 : decode cX5_toldRefusal 10 = .ok (.iload_n 2, 1) := by decide +kernel
theorem dX5_toldRefusal_11 : decode cX5_toldRefusal 11 = .ok (.ireturn, 1) := by decide +kernel
theorem dX5_toldRefusal_12 : decode cX5_toldRefusal 12 = .ok (.aload_n 0, 1) := by decide +kernel
theorem dX5_toldRefusal_13 : decode cX5_toldRefusal 13 = .ok (.getfield 41, 3) := by decide +kernel
theorem dX5_toldRefusal_16 : decode cX5_toldRefusal 16 = .ok (.iload_n 1, 1) := by decide +kernel
theorem dX5_toldRefusal_17 : decode cX5_toldRefusal 17 = .ok (.aaload, 1) := by decide +kernel
theorem dX5_toldRefusal_18 : decode cX5_toldRefusal 18 = .ok (.getfield 323, 3) := by decide +kernel
theorem dX5_toldRefusal_21 : decode cX5_toldRefusal 21 = .ok (.bipush 20, 2) := by decide +kernel
theorem dX5_toldRefusal_23 : decode cX5_toldRefusal 23 = .ok (.if_icmp .le 8, 3) := by decide +kernel
theorem dX5_toldRefusal_26 : decode cX5_toldRefusal 26 = .ok (.bipush (-2), 2) := by decide +kernel
theorem dX5_toldRefusal_28 : decode cX5_toldRefusal 28 = .ok (.goto 4, 3) := by decide +kernel
theorem dX5_toldRefusal_31 : decode cX5_toldRefusal 31 = .ok (.iconst 0, 1) := by decide +kernel
theorem dX5_toldRefusal_32 : decode cX5_toldRefusal 32 = .ok (.ireturn, 1) := by decide +kernel
theorem dX5_toldOfRefusal_0 : decode cX5_toldOfRefusal 0 = .ok (.aload_n 0, 1) := by decide +kernel
theorem dX5_toldOfRefusal_1 : decode cX5_toldOfRefusal 1 = .ok (.iload_n 1, 1) := by decide +kernel
theorem dX5_toldOfRefusal_2 : decode cX5_toldOfRefusal 2 = .ok (.invokevirtual 261, 3) := by decide +kernel
theorem dX5_toldOfRefusal_5 : decode cX5_toldOfRefusal 5 = .ok (.istore_n 3, 1) := by decide +kernel
theorem dX5_toldOfRefusal_6 : decode cX5_toldOfRefusal 6 = .ok (.iload_n 3, 1) := by decide +kernel
theorem dX5_toldOfRefusal_7 : decode cX5_toldOfRefusal 7 = .ok (.ifCond .eq 5, 3) := by decide +kernel
theorem dX5_toldOfRefusal_10 : decode cX5_toldOfRefusal 10 = .ok (.iload_n 3, 1) := by decide +kernel
theorem dX5_toldOfRefusal_11 : decode cX5_toldOfRefusal 11 = .ok (.ireturn, 1) := by decide +kernel
theorem dX5_toldOfRefusal_12 : decode cX5_toldOfRefusal 12 = .ok (.aload_n 0, 1) := by decide +kernel
theorem dX5_toldOfRefusal_13 : decode cX5_toldOfRefusal 13 = .ok (.getfield 10, 3) := by decide +kernel
theorem dX5_toldOfRefusal_16 : decode cX5_toldOfRefusal 16 = .ok (.iload_n 2, 1) := by decide +kernel
theorem dX5_toldOfRefusal_17 : decode cX5_toldOfRefusal 17 = .ok (.invokevirtual 121, 3) := by decide +kernel
theorem dX5_toldOfRefusal_20 : decode cX5_toldOfRefusal 20 = .ok (.ifnonnull 8, 3) := by decide +kernel
theorem dX5_toldOfRefusal_23 : decode cX5_toldOfRefusal 23 = .ok (.bipush (-5), 2) := by decide +kernel
theorem dX5_toldOfRefusal_25 : decode cX5_toldOfRefusal 25 = .ok (.goto 4, 3) := by decide +kernel
theorem dX5_toldOfRefusal_28 : decode cX5_toldOfRefusal 28 = .ok (.iconst 0, 1) := by decide +kernel
theorem dX5_toldOfRefusal_29 : decode cX5_toldOfRefusal 29 = .ok (.ireturn, 1) := by decide +kernel
theorem dX5_beginThought_0 : decode cX5_beginThought 0 = .ok (.aload_n 0, 1) := by decide +kernel
theorem dX5_beginThought_1 : decode cX5_beginThought 1 = .ok (.getfield 10, 3) := by decide +kernel
theorem dX5_beginThought_4 : decode cX5_beginThought 4 = .ok (.iload_n 1, 1) := by decide +kernel
theorem dX5_beginThought_5 : decode cX5_beginThought 5 = .ok (.invokevirtual 121, 3) := by decide +kernel
theorem dX5_beginThought_8 : decode cX5_beginThought 8 = .ok (.astore_n 2, 1) := by decide +kernel
theorem dX5_beginThought_9 : decode cX5_beginThought 9 = .ok (.aload_n 2, 1) := by decide +kernel
theorem dX5_beginThought_10 : decode cX5_beginThought 10 = .ok (.ifnonnull 5, 3) := by decide +kernel
theorem dX5_beginThought_13 : decode cX5_beginThought 13 = .ok (.iconst 0, 1) := by decide +kernel
theorem dX5_beginThought_14 : decode cX5_beginThought 14 = .ok (.ireturn, 1) := by decide +kernel
theorem dX5_beginThought_15 : decode cX5_beginThought 15 = .ok (.aload_n 0, 1) := by decide +kernel
theorem dX5_beginThought_16 : decode cX5_beginThought 16 = .ok (.getfield 25, 3) := by decide +kernel
theorem dX5_beginThought_19 : decode cX5_beginThought 19 = .ok (.aload_n 2, 1) := by decide +kernel
theorem dX5_beginThought_20 : decode cX5_beginThought 20 = .ok (.invokevirtual 324, 3) := by decide +kernel
theorem dX5_beginThought_23 : decode cX5_beginThought 23 = .ok (.iconst 1, 1) := by decide +kernel
theorem dX5_beginThought_24 : decode cX5_beginThought 24 = .ok (.ireturn, 1) := by decide +kernel
theorem dX5_walkNights_0 : decode cX5_walkNights 0 = .ok (.iconst 0, 1) := by decide +kernel
theorem dX5_walkNights_1 : decode cX5_walkNights 1 = .ok (.istore_n 2, 1) := by decide +kernel
theorem dX5_walkNights_2 : decode cX5_walkNights 2 = .ok (.iload_n 2, 1) := by decide +kernel
theorem dX5_walkNights_3 : decode cX5_walkNights 3 = .ok (.iload_n 1, 1) := by decide +kernel
theorem dX5_walkNights_4 : decode cX5_walkNights 4 = .ok (.if_icmp .ge 37, 3) := by decide +kernel
theorem dX5_walkNights_7 : decode cX5_walkNights 7 = .ok (.aload_n 0, 1) := by decide +kernel
theorem dX5_walkNights_8 : decode cX5_walkNights 8 = .ok (.getfield 25, 3) := by decide +kernel
theorem dX5_walkNights_11 : decode cX5_walkNights 11 = .ok (.aload_n 0, 1) := by decide +kernel
theorem dX5_walkNights_12 : decode cX5_walkNights 12 = .ok (.invokevirtual 125, 3) := by decide +kernel
theorem dX5_walkNights_15 : decode cX5_walkNights 15 = .ok (.aload_n 0, 1) := by decide +kernel
theorem dX5_walkNights_16 : decode cX5_walkNights 16 = .ok (.getfield 10, 3) := by decide +kernel
theorem dX5_walkNights_19 : decode cX5_walkNights 19 = .ok (.getfield 97, 3) := by decide +kernel
theorem dX5_walkNights_22 : decode cX5_walkNights 22 = .ok (.iload_n 2, 1) := by decide +kernel
theorem dX5_walkNights_23 : decode cX5_walkNights 23 = .ok (.iadd, 1) := by decide +kernel
theorem dX5_walkNights_24 : decode cX5_walkNights 24 = .ok (.aload_n 0, 1) := by decide +kernel
theorem dX5_walkNights_25 : decode cX5_walkNights 25 = .ok (.getfield 10, 3) := by decide +kernel
theorem dX5_walkNights_28 : decode cX5_walkNights 28 = .ok (.getfield 87, 3) := by decide +kernel
theorem dX5_walkNights_31 : decode cX5_walkNights 31 = .ok (.invokevirtual 222, 3) := by decide +kernel
theorem dX5_walkNights_34 : decode cX5_walkNights 34 = .ok (.pop, 1) := by decide +kernel
theorem dX5_walkNights_35 : decode cX5_walkNights 35 = .ok (.iinc 2 1, 3) := by decide +kernel
theorem dX5_walkNights_38 : decode cX5_walkNights 38 = .ok (.goto (-36), 3) := by decide +kernel
theorem dX5_walkNights_41 : decode cX5_walkNights 41 = .ok (.return_, 1) := by decide +kernel
theorem dX5_passNights_0 : decode cX5_passNights 0 = .ok (.iconst 0, 1) := by decide +kernel
theorem dX5_passNights_1 : decode cX5_passNights 1 = .ok (.istore_n 2, 1) := by decide +kernel
theorem dX5_passNights_2 : decode cX5_passNights 2 = .ok (.iconst 0, 1) := by decide +kernel
theorem dX5_passNights_3 : decode cX5_passNights 3 = .ok (.istore_n 3, 1) := by decide +kernel
theorem dX5_passNights_4 : decode cX5_passNights 4 = .ok (.iload_n 3, 1) := by decide +kernel
theorem dX5_passNights_5 : decode cX5_passNights 5 = .ok (.iload_n 1, 1) := by decide +kernel
theorem dX5_passNights_6 : decode cX5_passNights 6 = .ok (.if_icmp .ge 23, 3) := by decide +kernel
theorem dX5_passNights_9 : decode cX5_passNights 9 = .ok (.iload_n 2, 1) := by decide +kernel
theorem dX5_passNights_10 : decode cX5_passNights 10 = .ok (.aload_n 0, 1) := by decide +kernel
theorem dX5_passNights_11 : decode cX5_passNights 11 = .ok (.getfield 16, 3) := by decide +kernel
theorem dX5_passNights_14 : decode cX5_passNights 14 = .ok (.aload_n 0, 1) := by decide +kernel
theorem dX5_passNights_15 : decode cX5_passNights 15 = .ok (.invokevirtual 125, 3) := by decide +kernel
theorem dX5_passNights_18 : decode cX5_passNights 18 = .ok (.invokevirtual 190, 3) := by decide +kernel
theorem dX5_passNights_21 : decode cX5_passNights 21 = .ok (.iadd, 1) := by decide +kernel
theorem dX5_passNights_22 : decode cX5_passNights 22 = .ok (.istore_n 2, 1) := by decide +kernel
theorem dX5_passNights_23 : decode cX5_passNights 23 = .ok (.iinc 3 1, 3) := by decide +kernel
theorem dX5_passNights_26 : decode cX5_passNights 26 = .ok (.goto (-22), 3) := by decide +kernel
theorem dX5_passNights_29 : decode cX5_passNights 29 = .ok (.iload_n 2, 1) := by decide +kernel
theorem dX5_passNights_30 : decode cX5_passNights 30 = .ok (.ireturn, 1) := by decide +kernel
theorem dX5_passFloods_0 : decode cX5_passFloods 0 = .ok (.aload_n 0, 1) := by decide +kernel
theorem dX5_passFloods_1 : decode cX5_passFloods 1 = .ok (.getfield 16, 3) := by decide +kernel
theorem dX5_passFloods_4 : decode cX5_passFloods 4 = .ok (.aload_n 0, 1) := by decide +kernel
theorem dX5_passFloods_5 : decode cX5_passFloods 5 = .ok (.getfield 10, 3) := by decide +kernel
theorem dX5_passFloods_8 : decode cX5_passFloods 8 = .ok (.invokevirtual 194, 3) := by decide +kernel
theorem dX5_passFloods_11 : decode cX5_passFloods 11 = .ok (.iload_n 1, 1) := by decide +kernel
theorem dX5_passFloods_12 : decode cX5_passFloods 12 = .ok (.i2l, 1) := by decide +kernel
theorem dX5_passFloods_13 : decode cX5_passFloods 13 = .ok (.lconst 1, 1) := by decide +kernel
theorem dX5_passFloods_14 : decode cX5_passFloods 14 = .ok (.ladd, 1) := by decide +kernel
theorem dX5_passFloods_15 : decode cX5_passFloods 15 = .ok (.lstore_n 2, 1) := by decide +kernel
theorem dX5_passFloods_16 : decode cX5_passFloods 16 = .ok (.iconst 0, 1) := by decide +kernel
theorem dX5_passFloods_17 : decode cX5_passFloods 17 = .ok (.istore 4, 2) := by decide +kernel
theorem dX5_passFloods_19 : decode cX5_passFloods 19 = .ok (.iconst 0, 1) := by decide +kernel
theorem dX5_passFloods_20 : decode cX5_passFloods 20 = .ok (.istore 5, 2) := by decide +kernel
theorem dX5_passFloods_22 : decode cX5_passFloods 22 = .ok (.iload 5, 2) := by decide +kernel
theorem dX5_passFloods_24 : decode cX5_passFloods 24 = .ok (.bipush 8, 2) := by decide +kernel
theorem dX5_passFloods_26 : decode cX5_passFloods 26 = .ok (.if_icmp .ge 55, 3) := by decide +kernel
theorem dX5_passFloods_29 : decode cX5_passFloods 29 = .ok (.lload_n 2, 1) := by decide +kernel
theorem dX5_passFloods_30 : decode cX5_passFloods 30 = .ok (.ldc2_w 327, 3) := by decide +kernel
theorem dX5_passFloods_33 : decode cX5_passFloods 33 = .ok (.lmul, 1) := by decide +kernel
theorem dX5_passFloods_34 : decode cX5_passFloods 34 = .ok (.ldc2_w 329, 3) := by decide +kernel
theorem dX5_passFloods_37 : decode cX5_passFloods 37 = .ok (.lrem, 1) := by decide +kernel
theorem dX5_passFloods_38 : decode cX5_passFloods 38 = .ok (.lstore_n 2, 1) := by decide +kernel
theorem dX5_passFloods_39 : decode cX5_passFloods 39 = .ok (.aload_n 0, 1) := by decide +kernel
theorem dX5_passFloods_40 : decode cX5_passFloods 40 = .ok (.getfield 16, 3) := by decide +kernel
theorem dX5_passFloods_43 : decode cX5_passFloods 43 = .ok (.dup, 1) := by decide +kernel
theorem dX5_passFloods_44 : decode cX5_passFloods 44 = .ok (.getfield 87, 3) := by decide +kernel
theorem dX5_passFloods_47 : decode cX5_passFloods 47 = .ok (.lconst 1, 1) := by decide +kernel
theorem dX5_passFloods_48 : decode cX5_passFloods 48 = .ok (.lload_n 2, 1) := by decide +kernel
theorem dX5_passFloods_49 : decode cX5_passFloods 49 = .ok (.ldc2_w 245, 3) := by decide +kernel
theorem dX5_passFloods_52 : decode cX5_passFloods 52 = .ok (.lrem, 1) := by decide +kernel
theorem dX5_passFloods_53 : decode cX5_passFloods 53 = .ok (.l2i, 1) := by decide +kernel
theorem dX5_passFloods_54 : decode cX5_passFloods 54 = .ok (.lshl, 1) := by decide +kernel
theorem dX5_passFloods_55 : decode cX5_passFloods 55 = .ok (.lxor, 1) := by decide +kernel
theorem dX5_passFloods_56 : decode cX5_passFloods 56 = .ok (.putfield 87, 3) := by decide +kernel
theorem dX5_passFloods_59 : decode cX5_passFloods 59 = .ok (.iload 4, 2) := by decide +kernel
theorem dX5_passFloods_61 : decode cX5_passFloods 61 = .ok (.aload_n 0, 1) := by decide +kernel
theorem dX5_passFloods_62 : decode cX5_passFloods 62 = .ok (.getfield 16, 3) := by decide +kernel
theorem dX5_passFloods_65 : decode cX5_passFloods 65 = .ok (.aload_n 0, 1) := by decide +kernel
theorem dX5_passFloods_66 : decode cX5_passFloods 66 = .ok (.invokevirtual 125, 3) := by decide +kernel
theorem dX5_passFloods_69 : decode cX5_passFloods 69 = .ok (.invokevirtual 190, 3) := by decide +kernel
theorem dX5_passFloods_72 : decode cX5_passFloods 72 = .ok (.iadd, 1) := by decide +kernel
theorem dX5_passFloods_73 : decode cX5_passFloods 73 = .ok (.istore 4, 2) := by decide +kernel
theorem dX5_passFloods_75 : decode cX5_passFloods 75 = .ok (.iinc 5 1, 3) := by decide +kernel
theorem dX5_passFloods_78 : decode cX5_passFloods 78 = .ok (.goto (-56), 3) := by decide +kernel
theorem dX5_passFloods_81 : decode cX5_passFloods 81 = .ok (.iload 4, 2) := by decide +kernel
theorem dX5_passFloods_83 : decode cX5_passFloods 83 = .ok (.ireturn, 1) := by decide +kernel
theorem dX5_trailOf_0 : decode cX5_trailOf 0 = .ok (.lconst 0, 1) := by decide +kernel
theorem dX5_trailOf_1 : decode cX5_trailOf 1 = .ok (.lstore 4, 2) := by decide +kernel
theorem dX5_trailOf_3 : decode cX5_trailOf 3 = .ok (.iload_n 1, 1) := by decide +kernel
theorem dX5_trailOf_4 : decode cX5_trailOf 4 = .ok (.istore 6, 2) := by decide +kernel
theorem dX5_trailOf_6 : decode cX5_trailOf 6 = .ok (.iload 6, 2) := by decide +kernel
theorem dX5_trailOf_8 : decode cX5_trailOf 8 = .ok (.iload_n 2, 1) := by decide +kernel
theorem dX5_trailOf_9 : decode cX5_trailOf 9 = .ok (.if_icmp .ge 51, 3) := by decide +kernel
theorem dX5_trailOf_12 : decode cX5_trailOf 12 = .ok (.aload_n 0, 1) := by decide +kernel
theorem dX5_trailOf_13 : decode cX5_trailOf 13 = .ok (.iload 6, 2) := by decide +kernel
theorem dX5_trailOf_15 : decode cX5_trailOf 15 = .ok (.invokevirtual 219, 3) := by decide +kernel
theorem dX5_trailOf_18 : decode cX5_trailOf 18 = .ok (.ifCond .eq 36, 3) := by decide +kernel
theorem dX5_trailOf_21 : decode cX5_trailOf 21 = .ok (.aload_n 0, 1) := by decide +kernel
theorem dX5_trailOf_22 : decode cX5_trailOf 22 = .ok (.getfield 25, 3) := by decide +kernel
theorem dX5_trailOf_25 : decode cX5_trailOf 25 = .ok (.lconst 1, 1) := by decide +kernel
theorem dX5_trailOf_26 : decode cX5_trailOf 26 = .ok (.aload_n 0, 1) := by decide +kernel
theorem dX5_trailOf_27 : decode cX5_trailOf 27 = .ok (.getfield 25, 3) := by decide +kernel
theorem dX5_trailOf_30 : decode cX5_trailOf 30 = .ok (.getfield 207, 3) := by decide +kernel
theorem dX5_trailOf_33 : decode cX5_trailOf 33 = .ok (.lshl, 1) := by decide +kernel
theorem dX5_trailOf_34 : decode cX5_trailOf 34 = .ok (.putfield 331, 3) := by decide +kernel
theorem dX5_trailOf_37 : decode cX5_trailOf 37 = .ok (.aload_n 0, 1) := by decide +kernel
theorem dX5_trailOf_38 : decode cX5_trailOf 38 = .ok (.iload_n 3, 1) := by decide +kernel
theorem dX5_trailOf_39 : decode cX5_trailOf 39 = .ok (.invokevirtual 242, 3) := by decide +kernel
theorem dX5_trailOf_42 : decode cX5_trailOf 42 = .ok (.lload 4, 2) := by decide +kernel
theorem dX5_trailOf_44 : decode cX5_trailOf 44 = .ok (.aload_n 0, 1) := by decide +kernel
theorem dX5_trailOf_45 : decode cX5_trailOf 45 = .ok (.getfield 25, 3) := by decide +kernel
theorem dX5_trailOf_48 : decode cX5_trailOf 48 = .ok (.getfield 331, 3) := by decide +kernel
theorem dX5_trailOf_51 : decode cX5_trailOf 51 = .ok (.lor, 1) := by decide +kernel
theorem dX5_trailOf_52 : decode cX5_trailOf 52 = .ok (.lstore 4, 2) := by decide +kernel
theorem dX5_trailOf_54 : decode cX5_trailOf 54 = .ok (.iinc 6 1, 3) := by decide +kernel
theorem dX5_trailOf_57 : decode cX5_trailOf 57 = .ok (.goto (-51), 3) := by decide +kernel
theorem dX5_trailOf_60 : decode cX5_trailOf 60 = .ok (.lload 4, 2) := by decide +kernel
theorem dX5_trailOf_62 : decode cX5_trailOf 62 = .ok (.lreturn, 1) := by decide +kernel
theorem dX5_farBehind_0 : decode cX5_farBehind 0 = .ok (.aload_n 0, 1) := by decide +kernel
theorem dX5_farBehind_1 : decode cX5_farBehind 1 = .ok (.iload_n 1, 1) := by decide +kernel
theorem dX5_farBehind_2 : decode cX5_farBehind 2 = .ok (.invokevirtual 219, 3) := by decide +kernel
theorem dX5_farBehind_5 : decode cX5_farBehind 5 = .ok (.pop, 1) := by decide +kernel
theorem dX5_farBehind_6 : decode cX5_farBehind 6 = .ok (.aload_n 0, 1) := by decide +kernel
theorem dX5_farBehind_7 : decode cX5_farBehind 7 = .ok (.getfield 25, 3) := by decide +kernel
theorem dX5_farBehind_10 : decode cX5_farBehind 10 = .ok (.iload_n 2, 1) := by decide +kernel
theorem dX5_farBehind_11 : decode cX5_farBehind 11 = .ok (.iload_n 3, 1) := by decide +kernel
theorem dX5_farBehind_12 : decode cX5_farBehind 12 = .ok (.invokevirtual 187, 3) := by decide +kernel
theorem dX5_farBehind_15 : decode cX5_farBehind 15 = .ok (.aload_n 0, 1) := by decide +kernel
theorem dX5_farBehind_16 : decode cX5_farBehind 16 = .ok (.iload 5, 2) := by decide +kernel
theorem dX5_farBehind_18 : decode cX5_farBehind 18 = .ok (.invokevirtual 242, 3) := by decide +kernel
theorem dX5_farBehind_21 : decode cX5_farBehind 21 = .ok (.aload_n 0, 1) := by decide +kernel
theorem dX5_farBehind_22 : decode cX5_farBehind 22 = .ok (.getfield 25, 3) := by decide +kernel
theorem dX5_farBehind_25 : decode cX5_farBehind 25 = .ok (.getfield 207, 3) := by decide +kernel
theorem dX5_farBehind_28 : decode cX5_farBehind 28 = .ok (.iload 4, 2) := by decide +kernel
theorem dX5_farBehind_30 : decode cX5_farBehind 30 = .ok (.invokestatic 334, 3) := by decide +kernel
theorem dX5_farBehind_33 : decode cX5_farBehind 33 = .ok (.ireturn, 1) := by decide +kernel
theorem dX5_firstOtherwise_0 : decode cX5_firstOtherwise 0 = .ok (.iconst 0, 1) := by decide +kernel
theorem dX5_firstOtherwise_1 : decode cX5_firstOtherwise 1 = .ok (.istore_n 3, 1) := by decide +kernel
theorem dX5_firstOtherwise_2 : decode cX5_firstOtherwise 2 = .ok (.iload_n 3, 1) := by decide +kernel
theorem dX5_firstOtherwise_3 : decode cX5_firstOtherwise 3 = .ok (.aload_n 1, 1) := by decide +kernel
theorem dX5_firstOtherwise_4 : decode cX5_firstOtherwise 4 = .ok (.getfield 323, 3) := by decide +kernel
theorem dX5_firstOtherwise_7 : decode cX5_firstOtherwise 7 = .ok (.if_icmp .ge 51, 3) := by decide +kernel
theorem dX5_firstOtherwise_10 : decode cX5_firstOtherwise 10 = .ok (.aload_n 0, 1) := by decide +kernel
theorem dX5_firstOtherwise_11 : decode cX5_firstOtherwise 11 = .ok (.getfield 25, 3) := by decide +kernel
theorem dX5_firstOtherwise_14 : decode cX5_firstOtherwise 14 = .ok (.aload_n 2, 1) := by decide +kernel
theorem dX5_firstOtherwise_15 : decode cX5_firstOtherwise 15 = .ok (.aload_n 0, 1) := by decide +kernel
theorem dX5_firstOtherwise_16 : decode cX5_firstOtherwise 16 = .ok (.getfield 10, 3) := by decide +kernel
theorem dX5_firstOtherwise_19 : decode cX5_firstOtherwise 19 = .ok (.getfield 97, 3) := by decide +kernel
theorem dX5_firstOtherwise_22 : decode cX5_firstOtherwise 22 = .ok (.iload_n 3, 1) := by decide +kernel
theorem dX5_firstOtherwise_23 : decode cX5_firstOtherwise 23 = .ok (.iadd, 1) := by decide +kernel
theorem dX5_firstOtherwise_24 : decode cX5_firstOtherwise 24 = .ok (.aload_n 0, 1) := by decide +kernel
theorem dX5_firstOtherwise_25 : decode cX5_firstOtherwise 25 = .ok (.getfield 10, 3) := by decide +kernel
theorem dX5_firstOtherwise_28 : decode cX5_firstOtherwise 28 = .ok (.getfield 87, 3) := by decide +kernel
theorem dX5_firstOtherwise_31 : decode cX5_firstOtherwise 31 = .ok (.invokevirtual 222, 3) := by decide +kernel
theorem dX5_firstOtherwise_34 : decode cX5_firstOtherwise 34 = .ok (.pop, 1) := by decide +kernel
theorem dX5_firstOtherwise_35 : decode cX5_firstOtherwise 35 = .ok (.aload_n 0, 1) := by decide +kernel
theorem dX5_firstOtherwise_36 : decode cX5_firstOtherwise 36 = .ok (.getfield 25, 3) := by decide +kernel
theorem dX5_firstOtherwise_39 : decode cX5_firstOtherwise 39 = .ok (.getfield 207, 3) := by decide +kernel
theorem dX5_firstOtherwise_42 : decode cX5_firstOtherwise 42 = .ok (.aload_n 1, 1) := by decide +kernel
theorem dX5_firstOtherwise_43 : decode cX5_firstOtherwise 43 = .ok (.iload_n 3, 1) := by decide +kernel
theorem dX5_firstOtherwise_44 : decode cX5_firstOtherwise 44 = .ok (.invokevirtual 304, 3) := by decide +kernel
theorem dX5_firstOtherwise_47 : decode cX5_firstOtherwise 47 = .ok (.if_icmp .eq 5, 3) := by decide +kernel
theorem dX5_firstOtherwise_50 : decode cX5_firstOtherwise 50 = .ok (.iload_n 3, 1) := by decide +kernel
theorem dX5_firstOtherwise_51 : decode cX5_firstOtherwise 51 = .ok (.ireturn, 1) := by decide +kernel
theorem dX5_firstOtherwise_52 : decode cX5_firstOtherwise 52 = .ok (.iinc 3 1, 3) := by decide +kernel
theorem dX5_firstOtherwise_55 : decode cX5_firstOtherwise 55 = .ok (.goto (-53), 3) := by decide +kernel
theorem dX5_firstOtherwise_58 : decode cX5_firstOtherwise 58 = .ok (.iconst (-1), 1) := by decide +kernel
theorem dX5_firstOtherwise_59 : decode cX5_firstOtherwise 59 = .ok (.ireturn, 1) := by decide +kernel
theorem dX5_bitsSo_0 : decode cX5_bitsSo 0 = .ok (.aload_n 0, 1) := by decide +kernel
theorem dX5_bitsSo_1 : decode cX5_bitsSo 1 = .ok (.getfield 10, 3) := by decide +kernel
theorem dX5_bitsSo_4 : decode cX5_bitsSo 4 = .ok (.iload_n 2, 1) := by decide +kernel
theorem dX5_bitsSo_5 : decode cX5_bitsSo 5 = .ok (.invokevirtual 121, 3) := by decide +kernel
theorem dX5_bitsSo_8 : decode cX5_bitsSo 8 = .ok (.astore 4, 2) := by decide +kernel
theorem dX5_bitsSo_10 : decode cX5_bitsSo 10 = .ok (.aload 4, 2) := by decide +kernel
theorem dX5_bitsSo_12 : decode cX5_bitsSo 12 = .ok (.ifnonnull 7, 3) := by decide +kernel
theorem dX5_bitsSo_15 : decode cX5_bitsSo 15 = .ok (.iconst 0, 1) := by decide +kernel
theorem dX5_bitsSo_16 : decode cX5_bitsSo 16 = .ok (.goto 9, 3) := by decide +kernel
theorem dX5_bitsSo_19 : decode cX5_bitsSo 19 = .ok (.aload 4, 2) := by decide +kernel
theorem dX5_bitsSo_21 : decode cX5_bitsSo 21 = .ok (.iload_n 3, 1) := by decide +kernel
theorem dX5_bitsSo_22 : decode cX5_bitsSo 22 = .ok (.invokevirtual 142, 3) := by decide +kernel
theorem dX5_bitsSo_25 : decode cX5_bitsSo 25 = .ok (.istore 5, 2) := by decide +kernel
theorem dX5_bitsSo_27 : decode cX5_bitsSo 27 = .ok (.lconst 0, 1) := by decide +kernel
theorem dX5_bitsSo_28 : decode cX5_bitsSo 28 = .ok (.lstore 6, 2) := by decide +kernel
theorem dX5_bitsSo_30 : decode cX5_bitsSo 30 = .ok (.iconst 0, 1) := by decide +kernel
theorem dX5_bitsSo_31 : decode cX5_bitsSo 31 = .ok (.istore 8, 2) := by decide +kernel
theorem dX5_bitsSo_33 : decode cX5_bitsSo 33 = .ok (.iload 8, 2) := by decide +kernel
theorem dX5_bitsSo_35 : decode cX5_bitsSo 35 = .ok (.iload 5, 2) := by decide +kernel
theorem dX5_bitsSo_37 : decode cX5_bitsSo 37 = .ok (.if_icmp .ge 52, 3) := by decide +kernel
theorem dX5_bitsSo_40 : decode cX5_bitsSo 40 = .ok (.aload_n 0, 1) := by decide +kernel
theorem dX5_bitsSo_41 : decode cX5_bitsSo 41 = .ok (.iload_n 2, 1) := by decide +kernel
theorem dX5_bitsSo_42 : decode cX5_bitsSo 42 = .ok (.invokevirtual 219, 3) := by decide +kernel
theorem dX5_bitsSo_45 : decode cX5_bitsSo 45 = .ok (.pop, 1) := by decide +kernel
theorem dX5_bitsSo_46 : decode cX5_bitsSo 46 = .ok (.aload_n 0, 1) := by decide +kernel
theorem dX5_bitsSo_47 : decode cX5_bitsSo 47 = .ok (.getfield 25, 3) := by decide +kernel
theorem dX5_bitsSo_50 : decode cX5_bitsSo 50 = .ok (.iload_n 3, 1) := by decide +kernel
theorem dX5_bitsSo_51 : decode cX5_bitsSo 51 = .ok (.iload 8, 2) := by decide +kernel
theorem dX5_bitsSo_53 : decode cX5_bitsSo 53 = .ok (.invokevirtual 149, 3) := by decide +kernel
theorem dX5_bitsSo_56 : decode cX5_bitsSo 56 = .ok (.aload_n 0, 1) := by decide +kernel
theorem dX5_bitsSo_57 : decode cX5_bitsSo 57 = .ok (.aload_n 0, 1) := by decide +kernel
theorem dX5_bitsSo_58 : decode cX5_bitsSo 58 = .ok (.getfield 41, 3) := by decide +kernel
theorem dX5_bitsSo_61 : decode cX5_bitsSo 61 = .ok (.iload_n 1, 1) := by decide +kernel
theorem dX5_bitsSo_62 : decode cX5_bitsSo 62 = .ok (.aaload, 1) := by decide +kernel
theorem dX5_bitsSo_63 : decode cX5_bitsSo 63 = .ok (.aload_n 0, 1) := by decide +kernel
theorem dX5_bitsSo_64 : decode cX5_bitsSo 64 = .ok (.invokevirtual 125, 3) := by decide +kernel
theorem dX5_bitsSo_67 : decode cX5_bitsSo 67 = .ok (.invokevirtual 254, 3) := by decide +kernel
theorem dX5_bitsSo_70 : decode cX5_bitsSo 70 = .ok (.iconst (-1), 1) := by decide +kernel
theorem dX5_bitsSo_71 : decode cX5_bitsSo 71 = .ok (.if_icmp .ne 12, 3) := by decide +kernel
theorem dX5_bitsSo_74 : decode cX5_bitsSo 74 = .ok (.lload 6, 2) := by decide +kernel
theorem dX5_bitsSo_76 : decode cX5_bitsSo 76 = .ok (.lconst 1, 1) := by decide +kernel
theorem dX5_bitsSo_77 : decode cX5_bitsSo 77 = .ok (.iload 8, 2) := by decide +kernel
theorem dX5_bitsSo_79 : decode cX5_bitsSo 79 = .ok (.lshl, 1) := by decide +kernel
theorem dX5_bitsSo_80 : decode cX5_bitsSo 80 = .ok (.lor, 1) := by decide +kernel
theorem dX5_bitsSo_81 : decode cX5_bitsSo 81 = .ok (.lstore 6, 2) := by decide +kernel
theorem dX5_bitsSo_83 : decode cX5_bitsSo 83 = .ok (.iinc 8 1, 3) := by decide +kernel
theorem dX5_bitsSo_86 : decode cX5_bitsSo 86 = .ok (.goto (-53), 3) := by decide +kernel
theorem dX5_bitsSo_89 : decode cX5_bitsSo 89 = .ok (.lload 6, 2) := by decide +kernel
theorem dX5_bitsSo_91 : decode cX5_bitsSo 91 = .ok (.lreturn, 1) := by decide +kernel
theorem dX5_alikeOnEnd_0 : decode cX5_alikeOnEnd 0 = .ok (.iconst 0, 1) := by decide +kernel
theorem dX5_alikeOnEnd_1 : decode cX5_alikeOnEnd 1 = .ok (.istore_n 2, 1) := by decide +kernel
theorem dX5_alikeOnEnd_2 : decode cX5_alikeOnEnd 2 = .ok (.iload_n 2, 1) := by decide +kernel
theorem dX5_alikeOnEnd_3 : decode cX5_alikeOnEnd 3 = .ok (.sipush 240, 3) := by decide +kernel
theorem dX5_alikeOnEnd_6 : decode cX5_alikeOnEnd 6 = .ok (.if_icmp .ge 34, 3) := by decide +kernel
theorem dX5_alikeOnEnd_9 : decode cX5_alikeOnEnd 9 = .ok (.aload_n 0, 1) := by decide +kernel
theorem dX5_alikeOnEnd_10 : decode cX5_alikeOnEnd 10 = .ok (.aload_n 0, 1) := by decide +kernel
theorem dX5_alikeOnEnd_11 : decode cX5_alikeOnEnd 11 = .ok (.getfield 337, 3) := by decide +kernel
theorem dX5_alikeOnEnd_14 : decode cX5_alikeOnEnd 14 = .ok (.iload_n 2, 1) := by decide +kernel
theorem dX5_alikeOnEnd_15 : decode cX5_alikeOnEnd 15 = .ok (.iadd, 1) := by decide +kernel
theorem dX5_alikeOnEnd_16 : decode cX5_alikeOnEnd 16 = .ok (.invokevirtual 340, 3) := by decide +kernel
theorem dX5_alikeOnEnd_19 : decode cX5_alikeOnEnd 19 = .ok (.aload_n 1, 1) := by decide +kernel
theorem dX5_alikeOnEnd_20 : decode cX5_alikeOnEnd 20 = .ok (.aload_n 1, 1) := by decide +kernel
theorem dX5_alikeOnEnd_21 : decode cX5_alikeOnEnd 21 = .ok (.getfield 337, 3) := by decide +kernel
theorem dX5_alikeOnEnd_24 : decode cX5_alikeOnEnd 24 = .ok (.iload_n 2, 1) := by decide +kernel
theorem dX5_alikeOnEnd_25 : decode cX5_alikeOnEnd 25 = .ok (.iadd, 1) := by decide +kernel
theorem dX5_alikeOnEnd_26 : decode cX5_alikeOnEnd 26 = .ok (.invokevirtual 340, 3) := by decide +kernel
theorem dX5_alikeOnEnd_29 : decode cX5_alikeOnEnd 29 = .ok (.if_icmp .eq 5, 3) := by decide +kernel
theorem dX5_alikeOnEnd_32 : decode cX5_alikeOnEnd 32 = .ok (.iload_n 2, 1) := by decide +kernel
theorem dX5_alikeOnEnd_33 : decode cX5_alikeOnEnd 33 = .ok (.ireturn, 1) := by decide +kernel
theorem dX5_alikeOnEnd_34 : decode cX5_alikeOnEnd 34 = .ok (.iinc 2 1, 3) := by decide +kernel
theorem dX5_alikeOnEnd_37 : decode cX5_alikeOnEnd 37 = .ok (.goto (-35), 3) := by decide +kernel
theorem dX5_alikeOnEnd_40 : decode cX5_alikeOnEnd 40 = .ok (.sipush 240, 3) := by decide +kernel
theorem dX5_alikeOnEnd_43 : decode cX5_alikeOnEnd 43 = .ok (.ireturn, 1) := by decide +kernel
theorem dX5_leastTurn_0 : decode cX5_leastTurn 0 = .ok (.aload_n 0, 1) := by decide +kernel
theorem dX5_leastTurn_1 : decode cX5_leastTurn 1 = .ok (.getfield 170, 3) := by decide +kernel
theorem dX5_leastTurn_4 : decode cX5_leastTurn 4 = .ok (.aload_n 1, 1) := by decide +kernel
theorem dX5_leastTurn_5 : decode cX5_leastTurn 5 = .ok (.getfield 170, 3) := by decide +kernel
theorem dX5_leastTurn_8 : decode cX5_leastTurn 8 = .ok (.if_icmp .eq 5, 3) := by decide +kernel
theorem dX5_leastTurn_11 : decode cX5_leastTurn 11 = .ok (.iconst (-1), 1) := by decide +kernel
theorem dX5_leastTurn_12 : decode cX5_leastTurn 12 = .ok (.ireturn, 1) := by decide +kernel
theorem dX5_leastTurn_13 : decode cX5_leastTurn 13 = .ok (.iconst 0, 1) := by decide +kernel
theorem dX5_leastTurn_14 : decode cX5_leastTurn 14 = .ok (.istore_n 2, 1) := by decide +kernel
theorem dX5_leastTurn_15 : decode cX5_leastTurn 15 = .ok (.iload_n 2, 1) := by decide +kernel
theorem dX5_leastTurn_16 : decode cX5_leastTurn 16 = .ok (.aload_n 0, 1) := by decide +kernel
theorem dX5_leastTurn_17 : decode cX5_leastTurn 17 = .ok (.getfield 170, 3) := by decide +kernel
theorem dX5_leastTurn_20 : decode cX5_leastTurn 20 = .ok (.if_icmp .ge 20, 3) := by decide +kernel
theorem dX5_leastTurn_23 : decode cX5_leastTurn 23 = .ok (.aload_n 0, 1) := by decide +kernel
theorem dX5_leastTurn_24 : decode cX5_leastTurn 24 = .ok (.aload_n 1, 1) := by decide +kernel
theorem dX5_leastTurn_25 : decode cX5_leastTurn 25 = .ok (.iload_n 2, 1) := by decide +kernel
theorem dX5_leastTurn_26 : decode cX5_leastTurn 26 = .ok (.invokestatic 343, 3) := by decide +kernel
theorem dX5_leastTurn_29 : decode cX5_leastTurn 29 = .ok (.ifCond .eq 5, 3) := by decide +kernel
theorem dX5_leastTurn_32 : decode cX5_leastTurn 32 = .ok (.iload_n 2, 1) := by decide +kernel
theorem dX5_leastTurn_33 : decode cX5_leastTurn 33 = .ok (.ireturn, 1) := by decide +kernel
theorem dX5_leastTurn_34 : decode cX5_leastTurn 34 = .ok (.iinc 2 1, 3) := by decide +kernel
theorem dX5_leastTurn_37 : decode cX5_leastTurn 37 = .ok (.goto (-22), 3) := by decide +kernel
theorem dX5_leastTurn_40 : decode cX5_leastTurn 40 = .ok (.iconst (-1), 1) := by decide +kernel
theorem dX5_leastTurn_41 : decode cX5_leastTurn 41 = .ok (.ireturn, 1) := by decide +kernel
theorem dX5_isTurned_0 : decode cX5_isTurned 0 = .ok (.iconst 0, 1) := by decide +kernel
theorem dX5_isTurned_1 : decode cX5_isTurned 1 = .ok (.istore_n 3, 1) := by decide +kernel
theorem dX5_isTurned_2 : decode cX5_isTurned 2 = .ok (.iload_n 3, 1) := by decide +kernel
theorem dX5_isTurned_3 : decode cX5_isTurned 3 = .ok (.aload_n 0, 1) := by decide +kernel
theorem dX5_isTurned_4 : decode cX5_isTurned 4 = .ok (.getfield 170, 3) := by decide +kernel
theorem dX5_isTurned_7 : decode cX5_isTurned 7 = .ok (.if_icmp .ge 26, 3) := by decide +kernel
theorem dX5_isTurned_10 : decode cX5_isTurned 10 = .ok (.aload_n 0, 1) := by decide +kernel
theorem dX5_isTurned_11 : decode cX5_isTurned 11 = .ok (.iload_n 3, 1) := by decide +kernel
theorem dX5_isTurned_12 : decode cX5_isTurned 12 = .ok (.invokevirtual 173, 3) := by decide +kernel
theorem dX5_isTurned_15 : decode cX5_isTurned 15 = .ok (.aload_n 1, 1) := by decide +kernel
theorem dX5_isTurned_16 : decode cX5_isTurned 16 = .ok (.iload_n 3, 1) := by decide +kernel
theorem dX5_isTurned_17 : decode cX5_isTurned 17 = .ok (.iload_n 2, 1) := by decide +kernel
theorem dX5_isTurned_18 : decode cX5_isTurned 18 = .ok (.iadd, 1) := by decide +kernel
theorem dX5_isTurned_19 : decode cX5_isTurned 19 = .ok (.invokevirtual 340, 3) := by decide +kernel
theorem dX5_isTurned_22 : decode cX5_isTurned 22 = .ok (.if_icmp .eq 5, 3) := by decide +kernel
theorem dX5_isTurned_25 : decode cX5_isTurned 25 = .ok (.iconst 0, 1) := by decide +kernel
theorem dX5_isTurned_26 : decode cX5_isTurned 26 = .ok (.ireturn, 1) := by decide +kernel
theorem dX5_isTurned_27 : decode cX5_isTurned 27 = .ok (.iinc 3 1, 3) := by decide +kernel
theorem dX5_isTurned_30 : decode cX5_isTurned 30 = .ok (.goto (-28), 3) := by decide +kernel
theorem dX5_isTurned_33 : decode cX5_isTurned 33 = .ok (.iconst 1, 1) := by decide +kernel
theorem dX5_isTurned_34 : decode cX5_isTurned 34 = .ok (.ireturn, 1) := by decide +kernel
