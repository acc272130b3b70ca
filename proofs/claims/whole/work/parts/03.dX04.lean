theorem dX0_init_0 : decode cX0_init 0 = .ok (.aload_n 0, 1) := by decide +kernel
theorem dX0_init_1 : decode cX0_init 1 = .ok (.invokespecial 3, 3) := by decide +kernel
theorem dX0_init_4 : decode cX0_init 4 = .ok (.aload_n 0, 1) := by decide +kernel
theorem dX0_init_5 : decode cX0_init 5 = .ok (.aload_n 1, 1) := by decide +kernel
theorem dX0_init_6 : decode cX0_init 6 = .ok (.putfield 9, 3) := by decide +kernel
theorem dX0_init_9 : decode cX0_init 9 = .ok (.aload_n 0, 1) := by decide +kernel
theorem dX0_init_10 : decode cX0_init 10 = .ok (.aload_n 2, 1) := by decide +kernel
theorem dX0_init_11 : decode cX0_init 11 = .ok (.putfield 15, 3) := by decide +kernel
theorem dX0_init_14 : decode cX0_init 14 = .ok (.return_, 1) := by decide +kernel
theorem dX0_readAll_0 : decode cX0_readAll 0 = .ok (.aload_n 0, 1) := by decide +kernel
theorem dX0_readAll_1 : decode cX0_readAll 1 = .ok (.aload_n 0, 1) := by decide +kernel
theorem dX0_readAll_2 : decode cX0_readAll 2 = .ok (.getfield 9, 3) := by decide +kernel
theorem dX0_readAll_5 : decode cX0_readAll 5 = .ok (.arraylength, 1) := by decide +kernel
theorem dX0_readAll_6 : decode cX0_readAll 6 = .ok (.iload_n 1, 1) := by decide +kernel
theorem dX0_readAll_7 : decode cX0_readAll 7 = .ok (.invokestatic 19, 3) := by decide +kernel
theorem dX0_readAll_10 : decode cX0_readAll 10 = .ok (.putfield 25, 3) := by decide +kernel
theorem dX0_readAll_13 : decode cX0_readAll 13 = .ok (.aload_n 0, 1) := by decide +kernel
theorem dX0_readAll_14 : decode cX0_readAll 14 = .ok (.iconst 0, 1) := by decide +kernel
theorem dX0_readAll_15 : decode cX0_readAll 15 = .ok (.putfield 29, 3) := by decide +kernel
theorem dX0_readAll_18 : decode cX0_readAll 18 = .ok (.aload_n 0, 1) := by decide +kernel
theorem dX0_readAll_19 : decode cX0_readAll 19 = .ok (.aload_n 2, 1) := by decide +kernel
theorem dX0_readAll_20 : decode cX0_readAll 20 = .ok (.putfield 15, 3) := by decide +kernel
theorem dX0_readAll_23 : decode cX0_readAll 23 = .ok (.aload_n 0, 1) := by decide +kernel
theorem dX0_readAll_24 : decode cX0_readAll 24 = .ok (.getfield 15, 3) := by decide +kernel
theorem dX0_readAll_27 : decode cX0_readAll 27 = .ok (.iconst 0, 1) := by decide +kernel
theorem dX0_readAll_28 : decode cX0_readAll 28 = .ok (.putfield 32, 3) := by decide +kernel
theorem dX0_readAll_31 : decode cX0_readAll 31 = .ok (.aload_n 0, 1) := by decide +kernel
theorem dX0_readAll_32 : decode cX0_readAll 32 = .ok (.invokevirtual 35, 3) := by decide +kernel
theorem dX0_readAll_35 : decode cX0_readAll 35 = .ok (.iconst 0, 1) := by decide +kernel
theorem dX0_readAll_36 : decode cX0_readAll 36 = .ok (.istore_n 3, 1) := by decide +kernel
theorem dX0_readAll_37 : decode cX0_readAll 37 = .ok (.iload_n 3, 1) := by decide +kernel
theorem dX0_readAll_38 : decode cX0_readAll 38 = .ok (.iconst 3, 1) := by decide +kernel
theorem dX0_readAll_39 : decode cX0_readAll 39 = .ok (.if_icmp .ge 72, 3) := by decide +kernel
theorem dX0_readAll_42 : decode cX0_readAll 42 = .ok (.aload_n 0, 1) := by decide +kernel
theorem dX0_readAll_43 : decode cX0_readAll 43 = .ok (.getfield 38, 3) := by decide +kernel
theorem dX0_readAll_46 : decode cX0_readAll 46 = .ok (.sipush 200, 3) := by decide +kernel
theorem dX0_readAll_49 : decode cX0_readAll 49 = .ok (.iload_n 3, 1) := by decide +kernel
theorem dX0_readAll_50 : decode cX0_readAll 50 = .ok (.iadd, 1) := by decide +kernel
theorem dX0_readAll_51 : decode cX0_readAll 51 = .ok (.if_icmp .eq 8, 3) := by decide +kernel
theorem dX0_readAll_54 : decode cX0_readAll 54 = .ok (.aload_n 0, 1) := by decide +kernel
theorem dX0_readAll_55 : decode cX0_readAll 55 = .ok (.getfield 41, 3) := by decide +kernel
theorem dX0_readAll_58 : decode cX0_readAll 58 = .ok (.ireturn, 1) := by decide +kernel
theorem dX0_readAll_59 : decode cX0_readAll 59 = .ok (.aload_n 0, 1) := by decide +kernel
theorem dX0_readAll_60 : decode cX0_readAll 60 = .ok (.invokevirtual 35, 3) := by decide +kernel
theorem dX0_readAll_63 : decode cX0_readAll 63 = .ok (.aload_n 0, 1) := by decide +kernel
theorem dX0_readAll_64 : decode cX0_readAll 64 = .ok (.iconst 0, 1) := by decide +kernel
theorem dX0_readAll_65 : decode cX0_readAll 65 = .ok (.invokevirtual 44, 3) := by decide +kernel
theorem dX0_readAll_68 : decode cX0_readAll 68 = .ok (.ifCond .eq 12, 3) := by decide +kernel
theorem dX0_readAll_71 : decode cX0_readAll 71 = .ok (.aload_n 0, 1) := by decide +kernel
theorem dX0_readAll_72 : decode cX0_readAll 72 = .ok (.getfield 38, 3) := by decide +kernel
theorem dX0_readAll_75 : decode cX0_readAll 75 = .ok (.bipush 59, 2) := by decide +kernel
theorem dX0_readAll_77 : decode cX0_readAll 77 = .ok (.if_icmp .eq 8, 3) := by decide +kernel
theorem dX0_readAll_80 : decode cX0_readAll 80 = .ok (.aload_n 0, 1) := by decide +kernel
theorem dX0_readAll_81 : decode cX0_readAll 81 = .ok (.getfield 41, 3) := by decide +kernel
theorem dX0_readAll_84 : decode cX0_readAll 84 = .ok (.ireturn, 1) := by decide +kernel
theorem dX0_readAll_85 : decode cX0_readAll 85 = .ok (.aload_n 0, 1) := by decide +kernel
theorem dX0_readAll_86 : decode cX0_readAll 86 = .ok (.getfield 15, 3) := by decide +kernel
theorem dX0_readAll_89 : decode cX0_readAll 89 = .ok (.getfield 48, 3) := by decide +kernel
theorem dX0_readAll_92 : decode cX0_readAll 92 = .ok (.iload_n 3, 1) := by decide +kernel
theorem dX0_readAll_93 : decode cX0_readAll 93 = .ok (.aload_n 0, 1) := by decide +kernel
theorem dX0_readAll_94 : decode cX0_readAll 94 = .ok (.getfield 15, 3) := by decide +kernel
theorem dX0_readAll_97 : decode cX0_readAll 97 = .ok (.getfield 32, 3) := by decide +kernel
theorem dX0_readAll_100 : decode cX0_readAll 100 = .ok (.iastore, 1) := by decide +kernel
theorem dX0_readAll_101 : decode cX0_readAll 101 = .ok (.aload_n 0, 1) := by decide +kernel
theorem dX0_readAll_102 : decode cX0_readAll 102 = .ok (.invokevirtual 35, 3) := by decide +kernel
theorem dX0_readAll_105 : decode cX0_readAll 105 = .ok (.iinc 3 1, 3) := by decide +kernel
theorem dX0_readAll_108 : decode cX0_readAll 108 = .ok (.goto (-71), 3) := by decide +kernel
theorem dX0_readAll_111 : decode cX0_readAll 111 = .ok (.aload_n 0, 1) := by decide +kernel
theorem dX0_readAll_112 : decode cX0_readAll 112 = .ok (.getfield 38, 3) := by decide +kernel
theorem dX0_readAll_115 : decode cX0_readAll 115 = .ok (.sipush 302, 3) := by decide +kernel
theorem dX0_readAll_118 : decode cX0_readAll 118 = .ok (.if_icmp .ne 7, 3) := by decide +kernel
theorem dX0_readAll_121 : decode cX0_readAll 121 = .ok (.iconst (-1), 1) := by decide +kernel
theorem dX0_readAll_122 : decode cX0_readAll 122 = .ok (.goto 7, 3) := by decide +kernel
theorem dX0_readAll_125 : decode cX0_readAll 125 = .ok (.aload_n 0, 1) := by decide +kernel
theorem dX0_readAll_126 : decode cX0_readAll 126 = .ok (.getfield 41, 3) := by decide +kernel
theorem dX0_readAll_129 : decode cX0_readAll 129 = .ok (.ireturn, 1) := by decide +kernel
theorem dX0_readEither_0 : decode cX0_readEither 0 = .ok (.aload_n 0, 1) := by decide +kernel
theorem dX0_readEither_1 : decode cX0_readEither 1 = .ok (.iload_n 1, 1) := by decide +kernel
theorem dX0_readEither_2 : decode cX0_readEither 2 = .ok (.invokevirtual 51, 3) := by decide +kernel
theorem dX0_readEither_5 : decode cX0_readEither 5 = .ok (.ifCond .ne 5, 3) := by decide +kernel
theorem dX0_readEither_8 : decode cX0_readEither 8 = .ok (.iconst 0, 1) := by decide +kernel
theorem dX0_readEither_9 : decode cX0_readEither 9 = .ok (.ireturn, 1) := by decide +kernel
theorem dX0_readEither_10 : decode cX0_readEither 10 = .ok (.iconst 0, 1) := by decide +kernel
theorem dX0_readEither_11 : decode cX0_readEither 11 = .ok (.istore_n 2, 1) := by decide +kernel
theorem dX0_readEither_12 : decode cX0_readEither 12 = .ok (.iload_n 2, 1) := by decide +kernel
theorem dX0_readEither_13 : decode cX0_readEither 13 = .ok (.sipush 160, 3) := by decide +kernel
theorem dX0_readEither_16 : decode cX0_readEither 16 = .ok (.if_icmp .ge 43, 3) := by decide +kernel
theorem dX0_readEither_19 : decode cX0_readEither 19 = .ok (.aload_n 0, 1) := by decide +kernel
theorem dX0_readEither_20 : decode cX0_readEither 20 = .ok (.getfield 38, 3) := by decide +kernel
theorem dX0_readEither_23 : decode cX0_readEither 23 = .ok (.sipush 203, 3) := by decide +kernel
theorem dX0_readEither_26 : decode cX0_readEither 26 = .ok (.if_icmp .ne 33, 3) := by decide +kernel
theorem dX0_readEither_29 : decode cX0_readEither 29 = .ok (.aload_n 0, 1) := by decide +kernel
theorem dX0_readEither_30 : decode cX0_readEither 30 = .ok (.invokevirtual 35, 3) := by decide +kernel
theorem dX0_readEither_33 : decode cX0_readEither 33 = .ok (.aload_n 0, 1) := by decide +kernel
theorem dX0_readEither_34 : decode cX0_readEither 34 = .ok (.iload_n 1, 1) := by decide +kernel
theorem dX0_readEither_35 : decode cX0_readEither 35 = .ok (.invokevirtual 51, 3) := by decide +kernel
theorem dX0_readEither_38 : decode cX0_readEither 38 = .ok (.ifCond .ne 5, 3) := by decide +kernel
theorem dX0_readEither_41 : decode cX0_readEither 41 = .ok (.iconst 0, 1) := by decide +kernel
theorem dX0_readEither_42 : decode cX0_readEither 42 = .ok (.ireturn, 1) := by decide +kernel
theorem dX0_readEither_43 : decode cX0_readEither 43 = .ok (.aload_n 0, 1) := by decide +kernel
theorem dX0_readEither_44 : decode cX0_readEither 44 = .ok (.getfield 15, 3) := by decide +kernel
theorem dX0_readEither_47 : decode cX0_readEither 47 = .ok (.bipush 10, 2) := by decide +kernel
theorem dX0_readEither_49 : decode cX0_readEither 49 = .ok (.iconst 0, 1) := by decide +kernel
theorem dX0_readEither_50 : decode cX0_readEither 50 = .ok (.invokevirtual 54, 3) := by decide +kernel
theorem dX0_readEither_53 : decode cX0_readEither 53 = .ok (.iinc 2 1, 3) := by decide +kernel
theorem dX0_readEither_56 : decode cX0_readEither 56 = .ok (.goto (-44), 3) := by decide +kernel
theorem dX0_readEither_59 : decode cX0_readEither 59 = .ok (.iconst 1, 1) := by decide +kernel
theorem dX0_readEither_60 : decode cX0_readEither 60 = .ok (.ireturn, 1) := by decide +kernel
theorem dX0_readBoth_0 : decode cX0_readBoth 0 = .ok (.aload_n 0, 1) := by decide +kernel
theorem dX0_readBoth_1 : decode cX0_readBoth 1 = .ok (.iload_n 1, 1) := by decide +kernel
theorem dX0_readBoth_2 : decode cX0_readBoth 2 = .ok (.invokevirtual 58, 3) := by decide +kernel
theorem dX0_readBoth_5 : decode cX0_readBoth 5 = .ok (.ifCond .ne 5, 3) := by decide +kernel
theorem dX0_readBoth_8 : decode cX0_readBoth 8 = .ok (.iconst 0, 1) := by decide +kernel
theorem dX0_readBoth_9 : decode cX0_readBoth 9 = .ok (.ireturn, 1) := by decide +kernel
theorem dX0_readBoth_10 : decode cX0_readBoth 10 = .ok (.iconst 0, 1) := by decide +kernel
theorem dX0_readBoth_11 : decode cX0_readBoth 11 = .ok (.istore_n 2, 1) := by decide +kernel
theorem dX0_readBoth_12 : decode cX0_readBoth 12 = .ok (.iload_n 2, 1) := by decide +kernel
theorem dX0_readBoth_13 : decode cX0_readBoth 13 = .ok (.sipush 160, 3) := by decide +kernel
theorem dX0_readBoth_16 : decode cX0_readBoth 16 = .ok (.if_icmp .ge 43, 3) := by decide +kernel
theorem dX0_readBoth_19 : decode cX0_readBoth 19 = .ok (.aload_n 0, 1) := by decide +kernel
theorem dX0_readBoth_20 : decode cX0_readBoth 20 = .ok (.getfield 38, 3) := by decide +kernel
theorem dX0_readBoth_23 : decode cX0_readBoth 23 = .ok (.sipush 204, 3) := by decide +kernel
theorem dX0_readBoth_26 : decode cX0_readBoth 26 = .ok (.if_icmp .ne 33, 3) := by decide +kernel
theorem dX0_readBoth_29 : decode cX0_readBoth 29 = .ok (.aload_n 0, 1) := by decide +kernel
theorem dX0_readBoth_30 : decode cX0_readBoth 30 = .ok (.invokevirtual 35, 3) := by decide +kernel
theorem dX0_readBoth_33 : decode cX0_readBoth 33 = .ok (.aload_n 0, 1) := by decide +kernel
theorem dX0_readBoth_34 : decode cX0_readBoth 34 = .ok (.iload_n 1, 1) := by decide +kernel
theorem dX0_readBoth_35 : decode cX0_readBoth 35 = .ok (.invokevirtual 58, 3) := by decide +kernel
theorem dX0_readBoth_38 : decode cX0_readBoth 38 = .ok (.ifCond .ne 5, 3) := by decide +kernel
theorem dX0_readBoth_41 : decode cX0_readBoth 41 = .ok (.iconst 0, 1) := by decide +kernel
theorem dX0_readBoth_42 : decode cX0_readBoth 42 = .ok (.ireturn, 1) := by decide +kernel
theorem dX0_readBoth_43 : decode cX0_readBoth 43 = .ok (.aload_n 0, 1) := by decide +kernel
theorem dX0_readBoth_44 : decode cX0_readBoth 44 = .ok (.getfield 15, 3) := by decide +kernel
theorem dX0_readBoth_47 : decode cX0_readBoth 47 = .ok (.bipush 9, 2) := by decide +kernel
theorem dX0_readBoth_49 : decode cX0_readBoth 49 = .ok (.iconst 0, 1) := by decide +kernel
theorem dX0_readBoth_50 : decode cX0_readBoth 50 = .ok (.invokevirtual 54, 3) := by decide +kernel
theorem dX0_readBoth_53 : decode cX0_readBoth 53 = .ok (.iinc 2 1, 3) := by decide +kernel
theorem dX0_readBoth_56 : decode cX0_readBoth 56 = .ok (.goto (-44), 3) := by decide +kernel
theorem dX0_readBoth_59 : decode cX0_readBoth 59 = .ok (.iconst 1, 1) := by decide +kernel
theorem dX0_readBoth_60 : decode cX0_readBoth 60 = .ok (.ireturn, 1) := by decide +kernel
theorem dX0_readNot_0 : decode cX0_readNot 0 = .ok (.aload_n 0, 1) := by decide +kernel
theorem dX0_readNot_1 : decode cX0_readNot 1 = .ok (.getfield 38, 3) := by decide +kernel
theorem dX0_readNot_4 : decode cX0_readNot 4 = .ok (.sipush 205, 3) := by decide +kernel
theorem dX0_readNot_7 : decode cX0_readNot 7 = .ok (.if_icmp .eq 9, 3) := by decide +kernel
theorem dX0_readNot_10 : decode cX0_readNot 10 = .ok (.aload_n 0, 1) := by decide +kernel
theorem dX0_readNot_11 : decode cX0_readNot 11 = .ok (.iload_n 1, 1) := by decide +kernel
theorem dX0_readNot_12 : decode cX0_readNot 12 = .ok (.invokevirtual 61, 3) := by decide +kernel
theorem dX0_readNot_15 : decode cX0_readNot 15 = .ok (.ireturn, 1) := by decide +kernel
theorem dX0_readNot_16 : decode cX0_readNot 16 = .ok (.iload_n 1, 1) := by decide +kernel
theorem dX0_readNot_17 : decode cX0_readNot 17 = .ok (.iconst 5, 1) := by decide +kernel
theorem dX0_readNot_18 : decode cX0_readNot 18 = .ok (.if_icmp .lt 5, 3) := by decide +kernel
theorem dX0_readNot_21 : decode cX0_readNot 21 = .ok (.iconst 0, 1) := by decide +kernel
theorem dX0_readNot_22 : decode cX0_readNot 22 = .ok (.ireturn, 1) := by decide +kernel
theorem dX0_readNot_23 : decode cX0_readNot 23 = .ok (.aload_n 0, 1) := by decide +kernel
theorem dX0_readNot_24 : decode cX0_readNot 24 = .ok (.invokevirtual 35, 3) := by decide +kernel
theorem dX0_readNot_27 : decode cX0_readNot 27 = .ok (.aload_n 0, 1) := by decide +kernel
theorem dX0_readNot_28 : decode cX0_readNot 28 = .ok (.iload_n 1, 1) := by decide +kernel
theorem dX0_readNot_29 : decode cX0_readNot 29 = .ok (.iconst 1, 1) := by decide +kernel
theorem dX0_readNot_30 : decode cX0_readNot 30 = .ok (.iadd, 1) := by decide +kernel
theorem dX0_readNot_31 : decode cX0_readNot 31 = .ok (.invokevirtual 58, 3) := by decide +kernel
theorem dX0_readNot_34 : decode cX0_readNot 34 = .ok (.ifCond .ne 5, 3) := by decide +kernel
theorem dX0_readNot_37 : decode cX0_readNot 37 = .ok (.iconst 0, 1) := by decide +kernel
theorem dX0_readNot_38 : decode cX0_readNot 38 = .ok (.ireturn, 1) := by decide +kernel
theorem dX0_readNot_39 : decode cX0_readNot 39 = .ok (.aload_n 0, 1) := by decide +kernel
theorem dX0_readNot_40 : decode cX0_readNot 40 = .ok (.getfield 15, 3) := by decide +kernel
theorem dX0_readNot_43 : decode cX0_readNot 43 = .ok (.iconst 3, 1) := by decide +kernel
theorem dX0_readNot_44 : decode cX0_readNot 44 = .ok (.iconst 0, 1) := by decide +kernel
theorem dX0_readNot_45 : decode cX0_readNot 45 = .ok (.invokevirtual 54, 3) := by decide +kernel
theorem dX0_readNot_48 : decode cX0_readNot 48 = .ok (.iconst 1, 1) := by decide +kernel
theorem dX0_readNot_49 : decode cX0_readNot 49 = .ok (.ireturn, 1) := by decide +kernel
theorem dX0_readCompared_0 : decode cX0_readCompared 0 = .ok (.aload_n 0, 1) := by decide +kernel
theorem dX0_readCompared_1 : decode cX0_readCompared 1 = .ok (.iload_n 1, 1) := by decide +kernel
theorem dX0_readCompared_2 : decode cX0_readCompared 2 = .ok (.invokevirtual 64, 3) := by decide +kernel
theorem dX0_readCompared_5 : decode cX0_readCompared 5 = .ok (.ifCond .ne 5, 3) := by decide +kernel
theorem dX0_readCompared_8 : decode cX0_readCompared 8 = .ok (.iconst 0, 1) := by decide +kernel
theorem dX0_readCompared_9 : decode cX0_readCompared 9 = .ok (.ireturn, 1) := by decide +kernel
theorem dX0_readCompared_10 : decode cX0_readCompared 10 = .ok (.aload_n 0, 1) := by decide +kernel
theorem dX0_readCompared_11 : decode cX0_readCompared 11 = .ok (.getfield 38, 3) := by decide +kernel
theorem dX0_readCompared_14 : decode cX0_readCompared 14 = .ok (.bipush 60, 2) := by decide +kernel
theorem dX0_readCompared_16 : decode cX0_readCompared 16 = .ok (.if_icmp .eq 14, 3) := by decide +kernel
theorem dX0_readCompared_19 : decode cX0_readCompared 19 = .ok (.aload_n 0, 1) := by decide +kernel
theorem dX0_readCompared_20 : decode cX0_readCompared 20 = .ok (.getfield 38, 3) := by decide +kernel
theorem dX0_readCompared_23 : decode cX0_readCompared 23 = .ok (.bipush 61, 2) := by decide +kernel
theorem dX0_readCompared_25 : decode cX0_readCompared 25 = .ok (.if_icmp .eq 5, 3) := by decide +kernel
theorem dX0_readCompared_28 : decode cX0_readCompared 28 = .ok (.iconst 1, 1) := by decide +kernel
theorem dX0_readCompared_29 : decode cX0_readCompared 29 = .ok (.ireturn, 1) := by decide +kernel
theorem dX0_readCompared_30 : decode cX0_readCompared 30 = .ok (.aload_n 0, 1) := by decide +kernel
theorem dX0_readCompared_31 : decode cX0_readCompared 31 = .ok (.getfield 38, 3) := by decide +kernel
theorem dX0_readCompared_34 : decode cX0_readCompared 34 = .ok (.bipush 60, 2) := by decide +kernel
theorem dX0_readCompared_36 : decode cX0_readCompared 36 = .ok (.if_icmp .ne 8, 3) := by decide +kernel
theorem dX0_readCompared_39 : decode cX0_readCompared 39 = .ok (.bipush 7, 2) := by decide +kernel
theorem dX0_readCompared_41 : decode cX0_readCompared 41 = .ok (.goto 5, 3) := by decide +kernel
theorem dX0_readCompared_44 : decode cX0_readCompared 44 = .ok (.bipush 8, 2) := by decide +kernel
theorem dX0_readCompared_46 : decode cX0_readCompared 46 = .ok (.istore_n 2, 1) := by decide +kernel
theorem dX0_readCompared_47 : decode cX0_readCompared 47 = .ok (.aload_n 0, 1) := by decide +kernel
theorem dX0_readCompared_48 : decode cX0_readCompared 48 = .ok (.invokevirtual 35, 3) := by decide +kernel
theorem dX0_readCompared_51 : decode cX0_readCompared 51 = .ok (.aload_n 0, 1) := by decide +kernel
theorem dX0_readCompared_52 : decode cX0_readCompared 52 = .ok (.iload_n 1, 1) := by decide +kernel
theorem dX0_readCompared_53 : decode cX0_readCompared 53 = .ok (.invokevirtual 64, 3) := by decide +kernel
theorem dX0_readCompared_56 : decode cX0_readCompared 56 = .ok (.ifCond .ne 5, 3) := by decide +kernel
theorem dX0_readCompared_59 : decode cX0_readCompared 59 = .ok (.iconst 0, 1) := by decide +kernel
theorem dX0_readCompared_60 : decode cX0_readCompared 60 = .ok (.ireturn, 1) := by decide +kernel
theorem dX0_readCompared_61 : decode cX0_readCompared 61 = .ok (.aload_n 0, 1) := by decide +kernel
theorem dX0_readCompared_62 : decode cX0_readCompared 62 = .ok (.getfield 15, 3) := by decide +kernel
theorem dX0_readCompared_65 : decode cX0_readCompared 65 = .ok (.iload_n 2, 1) := by decide +kernel
theorem dX0_readCompared_66 : decode cX0_readCompared 66 = .ok (.iconst 0, 1) := by decide +kernel
theorem dX0_readCompared_67 : decode cX0_readCompared 67 = .ok (.invokevirtual 54, 3) := by decide +kernel
theorem dX0_readCompared_70 : decode cX0_readCompared 70 = .ok (.iconst 1, 1) := by decide +kernel
theorem dX0_readCompared_71 : decode cX0_readCompared 71 = .ok (.ireturn, 1) := by decide +kernel
theorem dX0_readSum_0 : decode cX0_readSum 0 = .ok (.aload_n 0, 1) := by decide +kernel
theorem dX0_readSum_1 : decode cX0_readSum 1 = .ok (.iload_n 1, 1) := by decide +kernel
theorem dX0_readSum_2 : decode cX0_readSum 2 = .ok (.invokevirtual 67, 3) := by decide +kernel
theorem dX0_readSum_5 : decode cX0_readSum 5 = .ok (.ifCond .ne 5, 3) := by decide +kernel
theorem dX0_readSum_8 : decode cX0_readSum 8 = .ok (.iconst 0, 1) := by decide +kernel
theorem dX0_readSum_9 : decode cX0_readSum 9 = .ok (.ireturn, 1) := by decide +kernel
theorem dX0_readSum_10 : decode cX0_readSum 10 = .ok (.iconst 0, 1) := by decide +kernel
theorem dX0_readSum_11 : decode cX0_readSum 11 = .ok (.istore_n 2, 1) := by decide +kernel
theorem dX0_readSum_12 : decode cX0_readSum 12 = .ok (.iload_n 2, 1) := by decide +kernel
theorem dX0_readSum_13 : decode cX0_readSum 13 = .ok (.sipush 160, 3) := by decide +kernel
theorem dX0_readSum_16 : decode cX0_readSum 16 = .ok (.if_icmp .ge 66, 3) := by decide +kernel
theorem dX0_readSum_19 : decode cX0_readSum 19 = .ok (.aload_n 0, 1) := by decide +kernel
theorem dX0_readSum_20 : decode cX0_readSum 20 = .ok (.getfield 38, 3) := by decide +kernel
theorem dX0_readSum_23 : decode cX0_readSum 23 = .ok (.bipush 43, 2) := by decide +kernel
theorem dX0_readSum_25 : decode cX0_readSum 25 = .ok (.if_icmp .eq 12, 3) := by decide +kernel
theorem dX0_readSum_28 : decode cX0_readSum 28 = .ok (.aload_n 0, 1) := by decide +kernel
theorem dX0_readSum_29 : decode cX0_readSum 29 = .ok (.getfield 38, 3) := by decide +kernel
theorem dX0_readSum_32 : decode cX0_readSum 32 = .ok (.bipush 45, 2) := by decide +kernel
theorem dX0_readSum_34 : decode cX0_readSum 34 = .ok (.if_icmp .ne 48, 3) := by decide +kernel
theorem dX0_readSum_37 : decode cX0_readSum 37 = .ok (.aload_n 0, 1) := by decide +kernel
theorem dX0_readSum_38 : decode cX0_readSum 38 = .ok (.getfield 38, 3) := by decide +kernel
theorem dX0_readSum_41 : decode cX0_readSum 41 = .ok (.bipush 43, 2) := by decide +kernel
theorem dX0_readSum_43 : decode cX0_readSum 43 = .ok (.if_icmp .ne 7, 3) := by decide +kernel
theorem dX0_readSum_46 : decode cX0_readSum 46 = .ok (.iconst 5, 1) := by decide +kernel
theorem dX0_readSum_47 : decode cX0_readSum 47 = .ok (.goto 5, 3) := by decide +kernel
theorem dX0_readSum_50 : decode cX0_readSum 50 = .ok (.bipush 6, 2) := by decide +kernel
theorem dX0_readSum_52 : decode cX0_readSum 52 = .ok (.istore_n 3, 1) := by decide +kernel
theorem dX0_readSum_53 : decode cX0_readSum 53 = .ok (.aload_n 0, 1) := by decide +kernel
theorem dX0_readSum_54 : decode cX0_readSum 54 = .ok (.invokevirtual 35, 3) := by decide +kernel
theorem dX0_readSum_57 : decode cX0_readSum 57 = .ok (.aload_n 0, 1) := by decide +kernel
theorem dX0_readSum_58 : decode cX0_readSum 58 = .ok (.iload_n 1, 1) := by decide +kernel
theorem dX0_readSum_59 : decode cX0_readSum 59 = .ok (.invokevirtual 67, 3) := by decide +kernel
theorem dX0_readSum_62 : decode cX0_readSum 62 = .ok (.ifCond .ne 5, 3) := by decide +kernel
theorem dX0_readSum_65 : decode cX0_readSum 65 = .ok (.iconst 0, 1) := by decide +kernel
theorem dX0_readSum_66 : decode cX0_readSum 66 = .ok (.ireturn, 1) := by decide +kernel
theorem dX0_readSum_67 : decode cX0_readSum 67 = .ok (.aload_n 0, 1) := by decide +kernel
theorem dX0_readSum_68 : decode cX0_readSum 68 = .ok (.getfield 15, 3) := by decide +kernel
theorem dX0_readSum_71 : decode cX0_readSum 71 = .ok (.iload_n 3, 1) := by decide +kernel
theorem dX0_readSum_72 : decode cX0_readSum 72 = .ok (.iconst 0, 1) := by decide +kernel
theorem dX0_readSum_73 : decode cX0_readSum 73 = .ok (.invokevirtual 54, 3) := by decide +kernel
theorem dX0_readSum_76 : decode cX0_readSum 76 = .ok (.iinc 2 1, 3) := by decide +kernel
theorem dX0_readSum_79 : decode cX0_readSum 79 = .ok (.goto (-67), 3) := by decide +kernel
theorem dX0_readSum_82 : decode cX0_readSum 82 = .ok (.iconst 1, 1) := by decide +kernel
theorem dX0_readSum_83 : decode cX0_readSum 83 = .ok (.ireturn, 1) := by decide +kernel
theorem dX0_readTerm_0 : decode cX0_readTerm 0 = .ok (.aload_n 0, 1) := by decide +kernel
theorem dX0_readTerm_1 : decode cX0_readTerm 1 = .ok (.iload_n 1, 1) := by decide +kernel
theorem dX0_readTerm_2 : decode cX0_readTerm 2 = .ok (.invokevirtual 70, 3) := by decide +kernel
theorem dX0_readTerm_5 : decode cX0_readTerm 5 = .ok (.ifCond .ne 5, 3) := by decide +kernel
theorem dX0_readTerm_8 : decode cX0_readTerm 8 = .ok (.iconst 0, 1) := by decide +kernel
theorem dX0_readTerm_9 : decode cX0_readTerm 9 = .ok (.ireturn, 1) := by decide +kernel
theorem dX0_readTerm_10 : decode cX0_readTerm 10 = .ok (.iconst 0, 1) := by decide +kernel
theorem dX0_readTerm_11 : decode cX0_readTerm 11 = .ok (.istore_n 2, 1) := by decide +kernel
theorem dX0_readTerm_12 : decode cX0_readTerm 12 = .ok (.iload_n 2, 1) := by decide +kernel
theorem dX0_readTerm_13 : decode cX0_readTerm 13 = .ok (.sipush 160, 3) := by decide +kernel
theorem dX0_readTerm_16 : decode cX0_readTerm 16 = .ok (.if_icmp .ge 41, 3) := by decide +kernel
theorem dX0_readTerm_19 : decode cX0_readTerm 19 = .ok (.aload_n 0, 1) := by decide +kernel
theorem dX0_readTerm_20 : decode cX0_readTerm 20 = .ok (.getfield 38, 3) := by decide +kernel
theorem dX0_readTerm_23 : decode cX0_readTerm 23 = .ok (.bipush 42, 2) := by decide +kernel
theorem dX0_readTerm_25 : decode cX0_readTerm 25 = .ok (.if_icmp .ne 32, 3) := by decide +kernel
theorem dX0_readTerm_28 : decode cX0_readTerm 28 = .ok (.aload_n 0, 1) := by decide +kernel
theorem dX0_readTerm_29 : decode cX0_readTerm 29 = .ok (.invokevirtual 35, 3) := by decide +kernel
theorem dX0_readTerm_32 : decode cX0_readTerm 32 = .ok (.aload_n 0, 1) := by decide +kernel
theorem dX0_readTerm_33 : decode cX0_readTerm 33 = .ok (.iload_n 1, 1) := by decide +kernel
theorem dX0_readTerm_34 : decode cX0_readTerm 34 = .ok (.invokevirtual 70, 3) := by decide +kernel
theorem dX0_readTerm_37 : decode cX0_readTerm 37 = .ok (.ifCond .ne 5, 3) := by decide +kernel
theorem dX0_readTerm_40 : decode cX0_readTerm 40 = .ok (.iconst 0, 1) := by decide +kernel
theorem dX0_readTerm_41 : decode cX0_readTerm 41 = .ok (.ireturn, 1) := by decide +kernel
theorem dX0_readTerm_42 : decode cX0_readTerm 42 = .ok (.aload_n 0, 1) := by decide +kernel
theorem dX0_readTerm_43 : decode cX0_readTerm 43 = .ok (.getfield 15, 3) := by decide +kernel
theorem dX0_readTerm_46 : decode cX0_readTerm 46 = .ok (.iconst 4, 1) := by decide +kernel
theorem dX0_readTerm_47 : decode cX0_readTerm 47 = .ok (.iconst 0, 1) := by decide +kernel
theorem dX0_readTerm_48 : decode cX0_readTerm 48 = .ok (.invokevirtual 54, 3) := by decide +kernel
theorem dX0_readTerm_51 : decode cX0_readTerm 51 = .ok (.iinc 2 1, 3) := by decide +kernel
theorem dX0_readTerm_54 : decode cX0_readTerm 54 = .ok (.goto (-42), 3) := by decide +kernel
theorem dX0_readTerm_57 : decode cX0_readTerm 57 = .ok (.iconst 1, 1) := by decide +kernel
theorem dX0_readTerm_58 : decode cX0_readTerm 58 = .ok (.ireturn, 1) := by decide +kernel
theorem dX0_readOne_0 : decode cX0_readOne 0 = .ok (.aload_n 0, 1) := by decide +kernel
theorem dX0_readOne_1 : decode cX0_readOne 1 = .ok (.getfield 38, 3) := by decide +kernel
theorem dX0_readOne_4 : decode cX0_readOne 4 = .ok (.sipush 300, 3) := by decide +kernel
theorem dX0_readOne_7 : decode cX0_readOne 7 = .ok (.if_icmp .eq 13, 3) := by decide +kernel
theorem dX0_readOne_10 : decode cX0_readOne 10 = .ok (.aload_n 0, 1) := by decide +kernel
theorem dX0_readOne_11 : decode cX0_readOne 11 = .ok (.getfield 38, 3) := by decide +kernel
theorem dX0_readOne_14 : decode cX0_readOne 14 = .ok (.sipush 301, 3) := by decide +kernel
theorem dX0_readOne_17 : decode cX0_readOne 17 = .ok (.if_icmp .ne 35, 3) := by decide +kernel
theorem dX0_readOne_20 : decode cX0_readOne 20 = .ok (.aload_n 0, 1) := by decide +kernel
theorem dX0_readOne_21 : decode cX0_readOne 21 = .ok (.getfield 15, 3) := by decide +kernel
theorem dX0_readOne_24 : decode cX0_readOne 24 = .ok (.aload_n 0, 1) := by decide +kernel
theorem dX0_readOne_25 : decode cX0_readOne 25 = .ok (.getfield 38, 3) := by decide +kernel
theorem dX0_readOne_28 : decode cX0_readOne 28 = .ok (.sipush 300, 3) := by decide +kernel
theorem dX0_readOne_31 : decode cX0_readOne 31 = .ok (.if_icmp .ne 7, 3) := by decide +kernel
theorem dX0_readOne_34 : decode cX0_readOne 34 = .ok (.iconst 0, 1) := by decide +kernel
theorem dX0_readOne_35 : decode cX0_readOne 35 = .ok (.goto 4, 3) := by decide +kernel
theorem dX0_readOne_38 : decode cX0_readOne 38 = .ok (.iconst 1, 1) := by decide +kernel
theorem dX0_readOne_39 : decode cX0_readOne 39 = .ok (.aload_n 0, 1) := by decide +kernel
theorem dX0_readOne_40 : decode cX0_readOne 40 = .ok (.getfield 73, 3) := by decide +kernel
theorem dX0_readOne_43 : decode cX0_readOne 43 = .ok (.invokevirtual 54, 3) := by decide +kernel
theorem dX0_readOne_46 : decode cX0_readOne 46 = .ok (.aload_n 0, 1) := by decide +kernel
theorem dX0_readOne_47 : decode cX0_readOne 47 = .ok (.invokevirtual 35, 3) := by decide +kernel
theorem dX0_readOne_50 : decode cX0_readOne 50 = .ok (.iconst 1, 1) := by decide +kernel
theorem dX0_readOne_51 : decode cX0_readOne 51 = .ok (.ireturn, 1) := by decide +kernel
theorem dX0_readOne_52 : decode cX0_readOne 52 = .ok (.aload_n 0, 1) := by decide +kernel
theorem dX0_readOne_53 : decode cX0_readOne 53 = .ok (.getfield 38, 3) := by decide +kernel
theorem dX0_readOne_56 : decode cX0_readOne 56 = .ok (.bipush 45, 2) := by decide +kernel
theorem dX0_readOne_58 : decode cX0_readOne 58 = .ok (.if_icmp .eq 12, 3) := by decide +kernel
theorem dX0_readOne_61 : decode cX0_readOne 61 = .ok (.aload_n 0, 1) := by decide +kernel
theorem dX0_readOne_62 : decode cX0_readOne 62 = .ok (.getfield 38, 3) := by decide +kernel
theorem dX0_readOne_65 : decode cX0_readOne 65 = .ok (.bipush 40, 2) := by decide +kernel
theorem dX0_readOne_67 : decode cX0_readOne 67 = .ok (.if_icmp .ne 8, 3) := by decide +kernel
theorem dX0_readOne_70 : decode cX0_readOne 70 = .ok (.iload_n 1, 1) := by decide +kernel
theorem dX0_readOne_71 : decode cX0_readOne 71 = .ok (.iconst 5, 1) := by decide +kernel
theorem dX0_readOne_72 : decode cX0_readOne 72 = .ok (.if_icmp .lt 5, 3) := by decide +kernel
theorem dX0_readOne_75 : decode cX0_readOne 75 = .ok (.iconst 0, 1) := by decide +kernel
theorem dX0_readOne_76 : decode cX0_readOne 76 = .ok (.ireturn, 1) := by decide +kernel
theorem dX0_readOne_77 : decode cX0_readOne 77 = .ok (.aload_n 0, 1) := by decide +kernel
theorem dX0_readOne_78 : decode cX0_readOne 78 = .ok (.getfield 38, 3) := by decide +kernel
theorem dX0_readOne_81 : decode cX0_readOne 81 = .ok (.bipush 45, 2) := by decide +kernel
theorem dX0_readOne_83 : decode cX0_readOne 83 = .ok (.if_icmp .ne 30, 3) := by decide +kernel
theorem dX0_readOne_86 : decode cX0_readOne 86 = .ok (.aload_n 0, 1) := by decide +kernel
theorem dX0_readOne_87 : decode cX0_readOne 87 = .ok (.invokevirtual 35, 3) := by decide +kernel
theorem dX0_readOne_90 : decode cX0_readOne 90 = .ok (.aload_n 0, 1) := by decide +kernel
theorem dX0_readOne_91 : decode cX0_readOne 91 = .ok (.iload_n 1, 1) := by decide +kernel
theorem dX0_readOne_92 : decode cX0_readOne 92 = .ok (.iconst 1, 1) := by decide +kernel
theorem dX0_readOne_93 : decode cX0_readOne 93 = .ok (.iadd, 1) := by decide +kernel
theorem dX0_readOne_94 : decode cX0_readOne 94 = .ok (.invokevirtual 70, 3) := by decide +kernel
theorem dX0_readOne_97 : decode cX0_readOne 97 = .ok (.ifCond .ne 5, 3) := by decide +kernel
theorem dX0_readOne_100 : decode cX0_readOne 100 = .ok (.iconst 0, 1) := by decide +kernel
theorem dX0_readOne_101 : decode cX0_readOne 101 = .ok (.ireturn, 1) := by decide +kernel
theorem dX0_readOne_102 : decode cX0_readOne 102 = .ok (.aload_n 0, 1) := by decide +kernel
theorem dX0_readOne_103 : decode cX0_readOne 103 = .ok (.getfield 15, 3) := by decide +kernel
theorem dX0_readOne_106 : decode cX0_readOne 106 = .ok (.iconst 2, 1) := by decide +kernel
theorem dX0_readOne_107 : decode cX0_readOne 107 = .ok (.iconst 0, 1) := by decide +kernel
theorem dX0_readOne_108 : decode cX0_readOne 108 = .ok (.invokevirtual 54, 3) := by decide +kernel
theorem dX0_readOne_111 : decode cX0_readOne 111 = .ok (.iconst 1, 1) := by decide +kernel
theorem dX0_readOne_112 : decode cX0_readOne 112 = .ok (.ireturn, 1) := by decide +kernel
theorem dX0_readOne_113 : decode cX0_readOne 113 = .ok (.aload_n 0, 1) := by decide +kernel
theorem dX0_readOne_114 : decode cX0_readOne 114 = .ok (.invokevirtual 35, 3) := by decide +kernel
theorem dX0_readOne_117 : decode cX0_readOne 117 = .ok (.aload_n 0, 1) := by decide +kernel
theorem dX0_readOne_118 : decode cX0_readOne 118 = .ok (.iload_n 1, 1) := by decide +kernel
theorem dX0_readOne_119 : decode cX0_readOne 119 = .ok (.iconst 1, 1) := by decide +kernel
theorem dX0_readOne_120 : decode cX0_readOne 120 = .ok (.iadd, 1) := by decide +kernel
theorem dX0_readOne_121 : decode cX0_readOne 121 = .ok (.invokevirtual 44, 3) := by decide +kernel
theorem dX0_readOne_124 : decode cX0_readOne 124 = .ok (.ifCond .eq 12, 3) := by decide +kernel
theorem dX0_readOne_127 : decode cX0_readOne 127 = .ok (.aload_n 0, 1) := by decide +kernel
theorem dX0_readOne_128 : decode cX0_readOne 128 = .ok (.getfield 38, 3) := by decide +kernel
theorem dX0_readOne_131 : decode cX0_readOne 131 = .ok (.bipush 41, 2) := by decide +kernel
theorem dX0_readOne_133 : decode cX0_readOne 133 = .ok (.if_icmp .eq 5, 3) := by decide +kernel
theorem dX0_readOne_136 : decode cX0_readOne 136 = .ok (.iconst 0, 1) := by decide +kernel
theorem dX0_readOne_137 : decode cX0_readOne 137 = .ok (.ireturn, 1) := by decide +kernel
theorem dX0_readOne_138 : decode cX0_readOne 138 = .ok (.aload_n 0, 1) := by decide +kernel
theorem dX0_readOne_139 : decode cX0_readOne 139 = .ok (.invokevirtual 35, 3) := by decide +kernel
theorem dX0_readOne_142 : decode cX0_readOne 142 = .ok (.iconst 1, 1) := by decide +kernel
theorem dX0_readOne_143 : decode cX0_readOne 143 = .ok (.ireturn, 1) := by decide +kernel
theorem dX0_byteAt_0 : decode cX0_byteAt 0 = .ok (.iload_n 1, 1) := by decide +kernel
theorem dX0_byteAt_1 : decode cX0_byteAt 1 = .ok (.ifCond .lt 29, 3) := by decide +kernel
theorem dX0_byteAt_4 : decode cX0_byteAt 4 = .ok (.iload_n 1, 1) := by decide +kernel
theorem dX0_byteAt_5 : decode cX0_byteAt 5 = .ok (.aload_n 0, 1) := by decide +kernel
theorem dX0_byteAt_6 : decode cX0_byteAt 6 = .ok (.getfield 25, 3) := by decide +kernel
theorem dX0_byteAt_9 : decode cX0_byteAt 9 = .ok (.if_icmp .ge 21, 3) := by decide +kernel
theorem dX0_byteAt_12 : decode cX0_byteAt 12 = .ok (.iload_n 1, 1) := by decide +kernel
theorem dX0_byteAt_13 : decode cX0_byteAt 13 = .ok (.aload_n 0, 1) := by decide +kernel
theorem dX0_byteAt_14 : decode cX0_byteAt 14 = .ok (.getfield 9, 3) := by decide +kernel
theorem dX0_byteAt_17 : decode cX0_byteAt 17 = .ok (.arraylength, 1) := by decide +kernel
theorem dX0_byteAt_18 : decode cX0_byteAt 18 = .ok (.if_icmp .ge 12, 3) := by decide +kernel
theorem dX0_byteAt_21 : decode cX0_byteAt 21 = .ok (.aload_n 0, 1) := by decide +kernel
theorem dX0_byteAt_22 : decode cX0_byteAt 22 = .ok (.getfield 9, 3) := by decide +kernel
theorem dX0_byteAt_25 : decode cX0_byteAt 25 = .ok (.iload_n 1, 1) := by decide +kernel
theorem dX0_byteAt_26 : decode cX0_byteAt 26 = .ok (.iaload, 1) := by decide +kernel
theorem dX0_byteAt_27 : decode cX0_byteAt 27 = .ok (.goto 4, 3) := by decide +kernel
theorem dX0_byteAt_30 : decode cX0_byteAt 30 = .ok (.iconst 0, 1) := by decide +kernel
theorem dX0_byteAt_31 : decode cX0_byteAt 31 = .ok (.ireturn, 1) := by decide +kernel
theorem dX0_isLetter_0 : decode cX0_isLetter 0 = .ok (.iload_n 0, 1) := by decide +kernel
theorem dX0_isLetter_1 : decode cX0_isLetter 1 = .ok (.bipush 97, 2) := by decide +kernel
theorem dX0_isLetter_3 : decode cX0_isLetter 3 = .ok (.if_icmp .lt 13, 3) := by decide +kernel
theorem dX0_isLetter_6 : decode cX0_isLetter 6 = .ok (.iload_n 0, 1) := by decide +kernel
theorem dX0_isLetter_7 : decode cX0_isLetter 7 = .ok (.bipush 122, 2) := by decide +kernel
theorem dX0_isLetter_9 : decode cX0_isLetter 9 = .ok (.if_icmp .gt 7, 3) := by decide +kernel
theorem dX0_isLetter_12 : decode cX0_isLetter 12 = .ok (.iconst 1, 1) := by decide +kernel
theorem dX0_isLetter_13 : decode cX0_isLetter 13 = .ok (.goto 4, 3) := by decide +kernel
theorem dX0_isLetter_16 : decode cX0_isLetter 16 = .ok (.iconst 0, 1) := by decide +kernel
theorem dX0_isLetter_17 : decode cX0_isLetter 17 = .ok (.ireturn, 1) := by decide +kernel
theorem dX0_isDigit_0 : decode cX0_isDigit 0 = .ok (.iload_n 0, 1) := by decide +kernel
theorem dX0_isDigit_1 : decode cX0_isDigit 1 = .ok (.bipush 48, 2) := by decide +kernel
theorem dX0_isDigit_3 : decode cX0_isDigit 3 = .ok (.if_icmp .lt 13, 3) := by decide +kernel
theorem dX0_isDigit_6 : decode cX0_isDigit 6 = .ok (.iload_n 0, 1) := by decide +kernel
theorem dX0_isDigit_7 : decode cX0_isDigit 7 = .ok (.bipush 57, 2) := by decide +kernel
theorem dX0_isDigit_9 : decode cX0_isDigit 9 = .ok (.if_icmp .gt 7, 3) := by decide +kernel
theorem dX0_isDigit_12 : decode cX0_isDigit 12 = .ok (.iconst 1, 1) := by decide +kernel
theorem dX0_isDigit_13 : decode cX0_isDigit 13 = .ok (.goto 4, 3) := by decide +kernel
theorem dX0_isDigit_16 : decode cX0_isDigit 16 = .ok (.iconst 0, 1) := by decide +kernel
theorem dX0_isDigit_17 : decode cX0_isDigit 17 = .ok (.ireturn, 1) := by decide +kernel
theorem dX0_advance_0 : decode cX0_advance 0 = .ok (.aload_n 0, 1) := by decide +kernel
theorem dX0_advance_1 : decode cX0_advance 1 = .ok (.getfield 29, 3) := by decide +kernel
theorem dX0_advance_4 : decode cX0_advance 4 = .ok (.aload_n 0, 1) := by decide +kernel
theorem dX0_advance_5 : decode cX0_advance 5 = .ok (.getfield 25, 3) := by decide +kernel
theorem dX0_advance_8 : decode cX0_advance 8 = .ok (.if_icmp .ge 42, 3) := by decide +kernel
theorem dX0_advance_11 : decode cX0_advance 11 = .ok (.aload_n 0, 1) := by decide +kernel
theorem dX0_advance_12 : decode cX0_advance 12 = .ok (.aload_n 0, 1) := by decide +kernel
theorem dX0_advance_13 : decode cX0_advance 13 = .ok (.getfield 29, 3) := by decide +kernel
theorem dX0_advance_16 : decode cX0_advance 16 = .ok (.invokevirtual 76, 3) := by decide +kernel
theorem dX0_advance_19 : decode cX0_advance 19 = .ok (.bipush 32, 2) := by decide +kernel
theorem dX0_advance_21 : decode cX0_advance 21 = .ok (.if_icmp .eq 16, 3) := by decide +kernel
theorem dX0_advance_24 : decode cX0_advance 24 = .ok (.aload_n 0, 1) := by decide +kernel
theorem dX0_advance_25 : decode cX0_advance 25 = .ok (.aload_n 0, 1) := by decide +kernel
theorem dX0_advance_26 : decode cX0_advance 26 = .ok (.getfield 29, 3) := by decide +kernel
theorem dX0_advance_29 : decode cX0_advance 29 = .ok (.invokevirtual 76, 3) := by decide +kernel
theorem dX0_advance_32 : decode cX0_advance 32 = .ok (.bipush 10, 2) := by decide +kernel
theorem dX0_advance_34 : decode cX0_advance 34 = .ok (.if_icmp .ne 16, 3) := by decide +kernel
theorem dX0_advance_37 : decode cX0_advance 37 = .ok (.aload_n 0, 1) := by decide +kernel
theorem dX0_advance_38 : decode cX0_advance 38 = .ok (.dup, 1) := by decide +kernel
theorem dX0_advance_39 : decode cX0_advance 39 = .ok (.getfield 29, 3) := by decide +kernel
theorem dX0_advance_42 : decode cX0_advance 42 = .ok (.iconst 1, 1) := by decide +kernel
theorem dX0_advance_43 : decode cX0_advance 43 = .ok (.iadd, 1) := by decide +kernel
theorem dX0_advance_44 : decode cX0_advance 44 = .ok (.putfield 29, 3) := by decide +kernel
theorem dX0_advance_47 : decode cX0_advance 47 = .ok (.goto (-47), 3) := by decide +kernel
theorem dX0_advance_50 : decode cX0_advance 50 = .ok (.aload_n 0, 1) := by decide +kernel
theorem dX0_advance_51 : decode cX0_advance 51 = .ok (.aload_n 0, 1) := by decide +kernel
theorem dX0_advance_52 : decode cX0_advance 52 = .ok (.getfield 29, 3) := by decide +kernel
theorem dX0_advance_55 : decode cX0_advance 55 = .ok (.putfield 41, 3) := by decide +kernel
theorem dX0_advance_58 : decode cX0_advance 58 = .ok (.aload_n 0, 1) := by decide +kernel
theorem dX0_advance_59 : decode cX0_advance 59 = .ok (.getfield 29, 3) := by decide +kernel
theorem dX0_advance_62 : decode cX0_advance 62 = .ok (.aload_n 0, 1) := by decide +kernel
theorem dX0_advance_63 : decode cX0_advance 63 = .ok (.getfield 25, 3) := by decide +kernel
theorem dX0_advance_66 : decode cX0_advance 66 = .ok (.if_icmp .lt 11, 3) := by decide +kernel
theorem dX0_advance_69 : decode cX0_advance 69 = .ok (.aload_n 0, 1) := by decide +kernel
theorem dX0_advance_70 : decode cX0_advance 70 = .ok (.sipush 302, 3) := by decide +kernel
theorem dX0_advance_73 : decode cX0_advance 73 = .ok (.putfield 38, 3) := by decide +kernel
theorem dX0_advance_76 : decode cX0_advance 76 = .ok (.return_, 1) := by decide +kernel
theorem dX0_advance_77 : decode cX0_advance 77 = .ok (.aload_n 0, 1) := by decide +kernel
theorem dX0_advance_78 : decode cX0_advance 78 = .ok (.aload_n 0, 1) := by decide +kernel
theorem dX0_advance_79 : decode cX0_advance 79 = .ok (.getfield 29, 3) := by decide +kernel
theorem dX0_advance_82 : decode cX0_advance 82 = .ok (.invokevirtual 76, 3) := by decide +kernel
theorem dX0_advance_85 : decode cX0_advance 85 = .ok (.istore_n 1, 1) := by decide +kernel
theorem dX0_advance_86 : decode cX0_advance 86 = .ok (.iload_n 1, 1) := by decide +kernel
theorem dX0_advance_87 : decode cX0_advance 87 = .ok (.invokestatic 80, 3) := by decide +kernel
theorem dX0_advance_90 : decode cX0_advance 90 = .ok (.ifCond .eq 10, 3) := by decide +kernel
theorem dX0_advance_93 : decode cX0_advance 93 = .ok (.aload_n 0, 1) := by decide +kernel
theorem dX0_advance_94 : decode cX0_advance 94 = .ok (.invokevirtual 83, 3) := by decide +kernel
theorem dX0_advance_97 : decode cX0_advance 97 = .ok (.goto 45, 3) := by decide +kernel
theorem dX0_advance_100 : decode cX0_advance 100 = .ok (.iload_n 1, 1) := by decide +kernel
theorem dX0_advance_101 : decode cX0_advance 101 = .ok (.invokestatic 86, 3) := by decide +kernel
theorem dX0_advance_104 : decode cX0_advance 104 = .ok (.ifCond .eq 10, 3) := by decide +kernel
theorem dX0_advance_107 : decode cX0_advance 107 = .ok (.aload_n 0, 1) := by decide +kernel
theorem dX0_advance_108 : decode cX0_advance 108 = .ok (.invokevirtual 89, 3) := by decide +kernel
theorem dX0_advance_111 : decode cX0_advance 111 = .ok (.goto 31, 3) := by decide +kernel
theorem dX0_advance_114 : decode cX0_advance 114 = .ok (.aload_n 0, 1) := by decide +kernel
theorem dX0_advance_115 : decode cX0_advance 115 = .ok (.dup, 1) := by decide +kernel
theorem dX0_advance_116 : decode cX0_advance 116 = .ok (.getfield 29, 3) := by decide +kernel
theorem dX0_advance_119 : decode cX0_advance 119 = .ok (.iconst 1, 1) := by decide +kernel
theorem dX0_advance_120 : decode cX0_advance 120 = .ok (.iadd, 1) := by decide +kernel
theorem dX0_advance_121 : decode cX0_advance 121 = .ok (.putfield 29, 3) := by decide +kernel
theorem dX0_advance_124 : decode cX0_advance 124 = .ok (.aload_n 0, 1) := by decide +kernel
theorem dX0_advance_125 : decode cX0_advance 125 = .ok (.iload_n 1, 1) := by decide +kernel
theorem dX0_advance_126 : decode cX0_advance 126 = .ok (.invokestatic 92, 3) := by decide +kernel
theorem dX0_advance_129 : decode cX0_advance 129 = .ok (.ifCond .eq 7, 3) := by decide +kernel
theorem dX0_advance_132 : decode cX0_advance 132 = .ok (.iload_n 1, 1) := by decide +kernel
theorem dX0_advance_133 : decode cX0_advance 133 = .ok (.goto 6, 3) := by decide +kernel
theorem dX0_advance_136 : decode cX0_advance 136 = .ok (.sipush 303, 3) := by decide +kernel
theorem dX0_advance_139 : decode cX0_advance 139 = .ok (.putfield 38, 3) := by decide +kernel
theorem dX0_advance_142 : decode cX0_advance 142 = .ok (.return_, 1) := by decide +kernel
theorem dX0_isSign_0 : decode cX0_isSign 0 = .ok (.iload_n 0, 1) := by decide +kernel
theorem dX0_isSign_1 : decode cX0_isSign 1 = .ok (.bipush 40, 2) := by decide +kernel
theorem dX0_isSign_3 : decode cX0_isSign 3 = .ok (.if_icmp .eq 45, 3) := by decide +kernel
theorem dX0_isSign_6 : decode cX0_isSign 6 = .ok (.iload_n 0, 1) := by decide +kernel
theorem dX0_isSign_7 : decode cX0_isSign 7 = .ok (.bipush 41, 2) := by decide +kernel
theorem dX0_isSign_9 : decode cX0_isSign 9 = .ok (.if_icmp .eq 39, 3) := by decide +kernel
theorem dX0_isSign_12 : decode cX0_isSign 12 = .ok (.iload_n 0, 1) := by decide +kernel
theorem dX0_isSign_13 : decode cX0_isSign 13 = .ok (.bipush 59, 2) := by decide +kernel
theorem dX0_isSign_15 : decode cX0_isSign 15 = .ok (.if_icmp .eq 33, 3) := by decide +kernel
theorem dX0_isSign_18 : decode cX0_isSign 18 = .ok (.iload_n 0, 1) := by decide +kernel
theorem dX0_isSign_19 : decode cX0_isSign 19 = .ok (.bipush 43, 2) := by decide +kernel
theorem dX0_isSign_21 : decode cX0_isSign 21 = .ok (.if_icmp .eq 27, 3) := by decide +kernel
theorem dX0_isSign_24 : decode cX0_isSign 24 = .ok (.iload_n 0, 1) := by decide +kernel
theorem dX0_isSign_25 : decode cX0_isSign 25 = .ok (.bipush 45, 2) := by decide +kernel
theorem dX0_isSign_27 : decode cX0_isSign 27 = .ok (.if_icmp .eq 21, 3) := by decide +kernel
theorem dX0_isSign_30 : decode cX0_isSign 30 = .ok (.iload_n 0, 1) := by decide +kernel
theorem dX0_isSign_31 : decode cX0_isSign 31 = .ok (.bipush 42, 2) := by decide +kernel
theorem dX0_isSign_33 : decode cX0_isSign 33 = .ok (.if_icmp .eq 15, 3) := by decide +kernel
theorem dX0_isSign_36 : decode cX0_isSign 36 = .ok (.iload_n 0, 1) := by decide +kernel
theorem dX0_isSign_37 : decode cX0_isSign 37 = .ok (.bipush 60, 2) := by decide +kernel
theorem dX0_isSign_39 : decode cX0_isSign 39 = .ok (.if_icmp .eq 9, 3) := by decide +kernel
theorem dX0_isSign_42 : decode cX0_isSign 42 = .ok (.iload_n 0, 1) := by decide +kernel
theorem dX0_isSign_43 : decode cX0_isSign 43 = .ok (.bipush 61, 2) := by decide +kernel
theorem dX0_isSign_45 : decode cX0_isSign 45 = .ok (.if_icmp .ne 7, 3) := by decide +kernel
theorem dX0_isSign_48 : decode cX0_isSign 48 = .ok (.iconst 1, 1) := by decide +kernel
theorem dX0_isSign_49 : decode cX0_isSign 49 = .ok (.goto 4, 3) := by decide +kernel
theorem dX0_isSign_52 : decode cX0_isSign 52 = .ok (.iconst 0, 1) := by decide +kernel
theorem dX0_isSign_53 : decode cX0_isSign 53 = .ok (.ireturn, 1) := by decide +kernel
theorem dX0_takeNumber_0 : decode cX0_takeNumber 0 = .ok (.aload_n 0, 1) := by decide +kernel
theorem dX0_takeNumber_1 : decode cX0_takeNumber 1 = .ok (.iconst 0, 1) := by decide +kernel
theorem dX0_takeNumber_2 : decode cX0_takeNumber 2 = .ok (.putfield 73, 3) := by decide +kernel
theorem dX0_takeNumber_5 : decode cX0_takeNumber 5 = .ok (.aload_n 0, 1) := by decide +kernel
theorem dX0_takeNumber_6 : decode cX0_takeNumber 6 = .ok (.getfield 29, 3) := by decide +kernel
theorem dX0_takeNumber_9 : decode cX0_takeNumber 9 = .ok (.aload_n 0, 1) := by decide +kernel
theorem dX0_takeNumber_10 : decode cX0_takeNumber 10 = .ok (.getfield 25, 3) := by decide +kernel
theorem dX0_takeNumber_13 : decode cX0_takeNumber 13 = .ok (.if_icmp .ge 53, 3) := by decide +kernel
theorem dX0_takeNumber_16 : decode cX0_takeNumber 16 = .ok (.aload_n 0, 1) := by decide +kernel
theorem dX0_takeNumber_17 : decode cX0_takeNumber 17 = .ok (.aload_n 0, 1) := by decide +kernel
theorem dX0_takeNumber_18 : decode cX0_takeNumber 18 = .ok (.getfield 29, 3) := by decide +kernel
theorem dX0_takeNumber_21 : decode cX0_takeNumber 21 = .ok (.invokevirtual 76, 3) := by decide +kernel
theorem dX0_takeNumber_24 : decode cX0_takeNumber 24 = .ok (.invokestatic 86, 3) := by decide +kernel
theorem dX0_takeNumber_27 : decode cX0_takeNumber 27 = .ok (.ifCond .eq 39, 3) := by decide +kernel
theorem dX0_takeNumber_30 : decode cX0_takeNumber 30 = .ok (.aload_n 0, 1) := by decide +kernel
theorem dX0_takeNumber_31 : decode cX0_takeNumber 31 = .ok (.aload_n 0, 1) := by decide +kernel
theorem dX0_takeNumber_32 : decode cX0_takeNumber 32 = .ok (.getfield 73, 3) := by decide +kernel
theorem dX0_takeNumber_35 : decode cX0_takeNumber 35 = .ok (.bipush 10, 2) := by decide +kernel
theorem dX0_takeNumber_37 : decode cX0_takeNumber 37 = .ok (.imul, 1) := by decide +kernel
theorem dX0_takeNumber_38 : decode cX0_takeNumber 38 = .ok (.aload_n 0, 1) := by decide +kernel
theorem dX0_takeNumber_39 : decode cX0_takeNumber 39 = .ok (.aload_n 0, 1) := by decide +kernel
theorem dX0_takeNumber_40 : decode cX0_takeNumber 40 = .ok (.getfield 29, 3) := by decide +kernel
theorem dX0_takeNumber_43 : decode cX0_takeNumber 43 = .ok (.invokevirtual 76, 3) := by decide +kernel
theorem dX0_takeNumber_46 : decode cX0_takeNumber 46 = .ok (.iadd, 1) := by decide +kernel
theorem dX0_takeNumber_47 : decode cX0_takeNumber 47 = .ok (.bipush 48, 2) := by decide +kernel
theorem dX0_takeNumber_49 : decode cX0_takeNumber 49 = .ok (.isub, 1) := by decide +kernel
theorem dX0_takeNumber_50 : decode cX0_takeNumber 50 = .ok (.putfield 73, 3) := by decide +kernel
theorem dX0_takeNumber_53 : decode cX0_takeNumber 53 = .ok (.aload_n 0, 1) := by decide +kernel
theorem dX0_takeNumber_54 : decode cX0_takeNumber 54 = .ok (.dup, 1) := by decide +kernel
theorem dX0_takeNumber_55 : decode cX0_takeNumber 55 = .ok (.getfield 29, 3) := by decide +kernel
theorem dX0_takeNumber_58 : decode cX0_takeNumber 58 = .ok (.iconst 1, 1) := by decide +kernel
theorem dX0_takeNumber_59 : decode cX0_takeNumber 59 = .ok (.iadd, 1) := by decide +kernel
theorem dX0_takeNumber_60 : decode cX0_takeNumber 60 = .ok (.putfield 29, 3) := by decide +kernel
theorem dX0_takeNumber_63 : decode cX0_takeNumber 63 = .ok (.goto (-58), 3) := by decide +kernel
theorem dX0_takeNumber_66 : decode cX0_takeNumber 66 = .ok (.aload_n 0, 1) := by decide +kernel
theorem dX0_takeNumber_67 : decode cX0_takeNumber 67 = .ok (.aload_n 0, 1) := by decide +kernel
theorem dX0_takeNumber_68 : decode cX0_takeNumber 68 = .ok (.getfield 29, 3) := by decide +kernel
theorem dX0_takeNumber_71 : decode cX0_takeNumber 71 = .ok (.aload_n 0, 1) := by decide +kernel
theorem dX0_takeNumber_72 : decode cX0_takeNumber 72 = .ok (.getfield 41, 3) := by decide +kernel
theorem dX0_takeNumber_75 : decode cX0_takeNumber 75 = .ok (.isub, 1) := by decide +kernel
theorem dX0_takeNumber_76 : decode cX0_takeNumber 76 = .ok (.iconst 4, 1) := by decide +kernel
theorem dX0_takeNumber_77 : decode cX0_takeNumber 77 = .ok (.if_icmp .le 9, 3) := by decide +kernel
theorem dX0_takeNumber_80 : decode cX0_takeNumber 80 = .ok (.sipush 303, 3) := by decide +kernel
theorem dX0_takeNumber_83 : decode cX0_takeNumber 83 = .ok (.goto 6, 3) := by decide +kernel
theorem dX0_takeNumber_86 : decode cX0_takeNumber 86 = .ok (.sipush 300, 3) := by decide +kernel
theorem dX0_takeNumber_89 : decode cX0_takeNumber 89 = .ok (.putfield 38, 3) := by decide +kernel
theorem dX0_takeNumber_92 : decode cX0_takeNumber 92 = .ok (.return_, 1) := by decide +kernel
theorem dX0_takeWord_0 : decode cX0_takeWord 0 = .ok (.aload_n 0, 1) := by decide +kernel
theorem dX0_takeWord_1 : decode cX0_takeWord 1 = .ok (.getfield 29, 3) := by decide +kernel
theorem dX0_takeWord_4 : decode cX0_takeWord 4 = .ok (.aload_n 0, 1) := by decide +kernel
theorem dX0_takeWord_5 : decode cX0_takeWord 5 = .ok (.getfield 25, 3) := by decide +kernel
theorem dX0_takeWord_8 : decode cX0_takeWord 8 = .ok (.if_icmp .ge 30, 3) := by decide +kernel
theorem dX0_takeWord_11 : decode cX0_takeWord 11 = .ok (.aload_n 0, 1) := by decide +kernel
theorem dX0_takeWord_12 : decode cX0_takeWord 12 = .ok (.aload_n 0, 1) := by decide +kernel
theorem dX0_takeWord_13 : decode cX0_takeWord 13 = .ok (.getfield 29, 3) := by decide +kernel
theorem dX0_takeWord_16 : decode cX0_takeWord 16 = .ok (.invokevirtual 76, 3) := by decide +kernel
theorem dX0_takeWord_19 : decode cX0_takeWord 19 = .ok (.invokestatic 80, 3) := by decide +kernel
theorem dX0_takeWord_22 : decode cX0_takeWord 22 = .ok (.ifCond .eq 16, 3) := by decide +kernel
theorem dX0_takeWord_25 : decode cX0_takeWord 25 = .ok (.aload_n 0, 1) := by decide +kernel
theorem dX0_takeWord_26 : decode cX0_takeWord 26 = .ok (.dup, 1) := by decide +kernel
theorem dX0_takeWord_27 : decode cX0_takeWord 27 = .ok (.getfield 29, 3) := by decide +kernel
theorem dX0_takeWord_30 : decode cX0_takeWord 30 = .ok (.iconst 1, 1) := by decide +kernel
theorem dX0_takeWord_31 : decode cX0_takeWord 31 = .ok (.iadd, 1) := by decide +kernel
theorem dX0_takeWord_32 : decode cX0_takeWord 32 = .ok (.putfield 29, 3) := by decide +kernel
theorem dX0_takeWord_35 : decode cX0_takeWord 35 = .ok (.goto (-35), 3) := by decide +kernel
theorem dX0_takeWord_38 : decode cX0_takeWord 38 = .ok (.aload_n 0, 1) := by decide +kernel
theorem dX0_takeWord_39 : decode cX0_takeWord 39 = .ok (.sipush 303, 3) := by decide +kernel
theorem dX0_takeWord_42 : decode cX0_takeWord 42 = .ok (.putfield 38, 3) := by decide +kernel
theorem dX0_takeWord_45 : decode cX0_takeWord 45 = .ok (.iconst 0, 1) := by decide +kernel
theorem dX0_takeWord_46 : decode cX0_takeWord 46 = .ok (.istore_n 1, 1) := by decide +kernel
theorem dX0_takeWord_47 : decode cX0_takeWord 47 = .ok (.iload_n 1, 1) := by decide +kernel
theorem dX0_takeWord_48 : decode cX0_takeWord 48 = .ok (.bipush 12, 2) := by decide +kernel
theorem dX0_takeWord_50 : decode cX0_takeWord 50 = .ok (.if_icmp .ge 49, 3) := by decide +kernel
theorem dX0_takeWord_53 : decode cX0_takeWord 53 = .ok (.aload_n 0, 1) := by decide +kernel
theorem dX0_takeWord_54 : decode cX0_takeWord 54 = .ok (.iload_n 1, 1) := by decide +kernel
theorem dX0_takeWord_55 : decode cX0_takeWord 55 = .ok (.invokestatic 95, 3) := by decide +kernel
theorem dX0_takeWord_58 : decode cX0_takeWord 58 = .ok (.invokevirtual 99, 3) := by decide +kernel
theorem dX0_takeWord_61 : decode cX0_takeWord 61 = .ok (.ifCond .eq 32, 3) := by decide +kernel
theorem dX0_takeWord_64 : decode cX0_takeWord 64 = .ok (.aload_n 0, 1) := by decide +kernel
theorem dX0_takeWord_65 : decode cX0_takeWord 65 = .ok (.iload_n 1, 1) := by decide +kernel
theorem dX0_takeWord_66 : decode cX0_takeWord 66 = .ok (.bipush 6, 2) := by decide +kernel
theorem dX0_takeWord_68 : decode cX0_takeWord 68 = .ok (.if_icmp .ge 11, 3) := by decide +kernel
theorem dX0_takeWord_71 : decode cX0_takeWord 71 = .ok (.sipush 200, 3) := by decide +kernel
theorem dX0_takeWord_74 : decode cX0_takeWord 74 = .ok (.iload_n 1, 1) := by decide +kernel
theorem dX0_takeWord_75 : decode cX0_takeWord 75 = .ok (.iadd, 1) := by decide +kernel
theorem dX0_takeWord_76 : decode cX0_takeWord 76 = .ok (.goto 6, 3) := by decide +kernel
theorem dX0_takeWord_79 : decode cX0_takeWord 79 = .ok (.sipush 301, 3) := by decide +kernel
theorem dX0_takeWord_82 : decode cX0_takeWord 82 = .ok (.putfield 38, 3) := by decide +kernel
theorem dX0_takeWord_85 : decode cX0_takeWord 85 = .ok (.aload_n 0, 1) := by decide +kernel
theorem dX0_takeWord_86 : decode cX0_takeWord 86 = .ok (.iload_n 1, 1) := by decide +kernel
theorem dX0_takeWord_87 : decode cX0_takeWord 87 = .ok (.bipush 6, 2) := by decide +kernel
theorem dX0_takeWord_89 : decode cX0_takeWord 89 = .ok (.isub, 1) := by decide +kernel
theorem dX0_takeWord_90 : decode cX0_takeWord 90 = .ok (.putfield 73, 3) := by decide +kernel
theorem dX0_takeWord_93 : decode cX0_takeWord 93 = .ok (.iinc 1 1, 3) := by decide +kernel
theorem dX0_takeWord_96 : decode cX0_takeWord 96 = .ok (.goto (-49), 3) := by decide +kernel
theorem dX0_takeWord_99 : decode cX0_takeWord 99 = .ok (.return_, 1) := by decide +kernel
theorem dX0_isWord_0 : decode cX0_isWord 0 = .ok (.aload_n 0, 1) := by decide +kernel
theorem dX0_isWord_1 : decode cX0_isWord 1 = .ok (.getfield 29, 3) := by decide +kernel
theorem dX0_isWord_4 : decode cX0_isWord 4 = .ok (.aload_n 0, 1) := by decide +kernel
theorem dX0_isWord_5 : decode cX0_isWord 5 = .ok (.getfield 41, 3) := by decide +kernel
theorem dX0_isWord_8 : decode cX0_isWord 8 = .ok (.isub, 1) := by decide +kernel
theorem dX0_isWord_9 : decode cX0_isWord 9 = .ok (.aload_n 1, 1) := by decide +kernel
theorem dX0_isWord_10 : decode cX0_isWord 10 = .ok (.invokevirtual 103, 3) := by decide +kernel
theorem dX0_isWord_13 : decode cX0_isWord 13 = .ok (.if_icmp .eq 5, 3) := by decide +kernel
theorem dX0_isWord_16 : decode cX0_isWord 16 = .ok (.iconst 0, 1) := by decide +kernel
theorem dX0_isWord_17 : decode cX0_isWord 17 = .ok (.ireturn, 1) := by decide +kernel
theorem dX0_isWord_18 : decode cX0_isWord 18 = .ok (.iconst 0, 1) := by decide +kernel
theorem dX0_isWord_19 : decode cX0_isWord 19 = .ok (.istore_n 2, 1) := by decide +kernel
theorem dX0_isWord_20 : decode cX0_isWord 20 = .ok (.iload_n 2, 1) := by decide +kernel
theorem dX0_isWord_21 : decode cX0_isWord 21 = .ok (.aload_n 1, 1) := by decide +kernel
theorem dX0_isWord_22 : decode cX0_isWord 22 = .ok (.invokevirtual 103, 3) := by decide +kernel
theorem dX0_isWord_25 : decode cX0_isWord 25 = .ok (.if_icmp .ge 29, 3) := by decide +kernel
theorem dX0_isWord_28 : decode cX0_isWord 28 = .ok (.aload_n 0, 1) := by decide +kernel
theorem dX0_isWord_29 : decode cX0_isWord 29 = .ok (.aload_n 0, 1) := by decide +kernel
theorem dX0_isWord_30 : decode cX0_isWord 30 = .ok (.getfield 41, 3) := by decide +kernel
theorem dX0_isWord_33 : decode cX0_isWord 33 = .ok (.iload_n 2, 1) := by decide +kernel
theorem dX0_isWord_34 : decode cX0_isWord 34 = .ok (.iadd, 1) := by decide +kernel
theorem dX0_isWord_35 : decode cX0_isWord 35 = .ok (.invokevirtual 76, 3) := by decide +kernel
theorem dX0_isWord_38 : decode cX0_isWord 38 = .ok (.aload_n 1, 1) := by decide +kernel
theorem dX0_isWord_39 : decode cX0_isWord 39 = .ok (.iload_n 2, 1) := by decide +kernel
theorem dX0_isWord_40 : decode cX0_isWord 40 = .ok (.invokevirtual 109, 3) := by decide +kernel
theorem dX0_isWord_43 : decode cX0_isWord 43 = .ok (.if_icmp .eq 5, 3) := by decide +kernel
theorem dX0_isWord_46 : decode cX0_isWord 46 = .ok (.iconst 0, 1) := by decide +kernel
theorem dX0_isWord_47 : decode cX0_isWord 47 = .ok (.ireturn, 1) := by decide +kernel
theorem dX0_isWord_48 : decode cX0_isWord 48 = .ok (.iinc 2 1, 3) := by decide +kernel
theorem dX0_isWord_51 : decode cX0_isWord 51 = .ok (.goto (-31), 3) := by decide +kernel
theorem dX0_isWord_54 : decode cX0_isWord 54 = .ok (.iconst 1, 1) := by decide +kernel
theorem dX0_isWord_55 : decode cX0_isWord 55 = .ok (.ireturn, 1) := by decide +kernel
theorem dX0_word_0 : decode cX0_word 0 = .ok (.iload_n 0, 1) := by decide +kernel
theorem dX0_word_1 : decode cX0_word 1 = .ok (.tableswitch 92 0 10 #[59, 62, 65, 68, 71, 74, 77, 80, 83, 86, 89], 59) := by decide +kernel
theorem dX0_word_60 : decode cX0_word 60 = .ok (.ldc 113, 2) := by decide +kernel
theorem dX0_word_62 : decode cX0_word 62 = .ok (.areturn, 1) := by decide +kernel
theorem dX0_word_63 : decode cX0_word 63 = .ok (.ldc 115, 2) := by decide +kernel
theorem dX0_word_65 : decode cX0_word 65 = .ok (.areturn, 1) := by decide +kernel
theorem dX0_word_66 : decode cX0_word 66 = .ok (.ldc 117, 2) := by decide +kernel
theorem dX0_word_68 : decode cX0_word 68 = .ok (.areturn, 1) := by decide +kernel
theorem dX0_word_69 : decode cX0_word 69 = .ok (.ldc 119, 2) := by decide +kernel
theorem dX0_word_71 : decode cX0_word 71 = .ok (.areturn, 1) := by decide +kernel
theorem dX0_word_72 : decode cX0_word 72 = .ok (.ldc 121, 2) := by decide +kernel
theorem dX0_word_74 : decode cX0_word 74 = .ok (.areturn, 1) := by decide +kernel
theorem dX0_word_75 : decode cX0_word 75 = .ok (.ldc 123, 2) := by decide +kernel
theorem dX0_word_77 : decode cX0_word 77 = .ok (.areturn, 1) := by decide +kernel
theorem dX0_word_78 : decode cX0_word 78 = .ok (.ldc 125, 2) := by decide +kernel
theorem dX0_word_80 : decode cX0_word 80 = .ok (.areturn, 1) := by decide +kernel
theorem dX0_word_81 : decode cX0_word 81 = .ok (.ldc 127, 2) := by decide +kernel
theorem dX0_word_83 : decode cX0_word 83 = .ok (.areturn, 1) := by decide +kernel
theorem dX0_word_84 : decode cX0_word 84 = .ok (.ldc 129, 2) := by decide +kernel
theorem dX0_word_86 : decode cX0_word 86 = .ok (.areturn, 1) := by decide +kernel
theorem dX0_word_87 : decode cX0_word 87 = .ok (.ldc 131, 2) := by decide +kernel
theorem dX0_word_89 : decode cX0_word 89 = .ok (.areturn, 1) := by decide +kernel
theorem dX0_word_90 : decode cX0_word 90 = .ok (.ldc 133, 2) := by decide +kernel
theorem dX0_word_92 : decode cX0_word 92 = .ok (.areturn, 1) := by decide +kernel
theorem dX0_word_93 : decode cX0_word 93 = .ok (.ldc 135, 2) := by decide +kernel
theorem dX0_word_95 : decode cX0_word 95 = .ok (.areturn, 1) := by decide +kernel
theorem dX1_init_0 : decode cX1_init 0 = .ok (.aload_n 0, 1) := by decide +kernel
theorem dX1_init_1 : decode cX1_init 1 = .ok (.invokespecial 3, 3) := by decide +kernel
theorem dX1_init_4 : decode cX1_init 4 = .ok (.aload_n 0, 1) := by decide +kernel
theorem dX1_init_5 : decode cX1_init 5 = .ok (.iconst (-1), 1) := by decide +kernel
theorem dX1_init_6 : decode cX1_init 6 = .ok (.putfield 11, 3) := by decide +kernel
theorem dX1_init_9 : decode cX1_init 9 = .ok (.aload_n 0, 1) := by decide +kernel
theorem dX1_init_10 : decode cX1_init 10 = .ok (.bipush 40, 2) := by decide +kernel
theorem dX1_init_12 : decode cX1_init 12 = .ok (.newarray .int, 2) := by decide +kernel
theorem dX1_init_14 : decode cX1_init 14 = .ok (.putfield 15, 3) := by decide +kernel
theorem dX1_init_17 : decode cX1_init 17 = .ok (.return_, 1) := by decide +kernel
theorem dX1_becomeRow_0 : decode cX1_becomeRow 0 = .ok (.aload_n 0, 1) := by decide +kernel
theorem dX1_becomeRow_1 : decode cX1_becomeRow 1 = .ok (.iload_n 1, 1) := by decide +kernel
theorem dX1_becomeRow_2 : decode cX1_becomeRow 2 = .ok (.putfield 11, 3) := by decide +kernel
theorem dX1_becomeRow_5 : decode cX1_becomeRow 5 = .ok (.aload_n 0, 1) := by decide +kernel
theorem dX1_becomeRow_6 : decode cX1_becomeRow 6 = .ok (.iconst 0, 1) := by decide +kernel
theorem dX1_becomeRow_7 : decode cX1_becomeRow 7 = .ok (.bipush 40, 2) := by decide +kernel
theorem dX1_becomeRow_9 : decode cX1_becomeRow 9 = .ok (.iload_n 2, 1) := by decide +kernel
theorem dX1_becomeRow_10 : decode cX1_becomeRow 10 = .ok (.invokestatic 19, 3) := by decide +kernel
theorem dX1_becomeRow_13 : decode cX1_becomeRow 13 = .ok (.invokestatic 25, 3) := by decide +kernel
theorem dX1_becomeRow_16 : decode cX1_becomeRow 16 = .ok (.putfield 28, 3) := by decide +kernel
theorem dX1_becomeRow_19 : decode cX1_becomeRow 19 = .ok (.aload_n 0, 1) := by decide +kernel
theorem dX1_becomeRow_20 : decode cX1_becomeRow 20 = .ok (.getfield 15, 3) := by decide +kernel
theorem dX1_becomeRow_23 : decode cX1_becomeRow 23 = .ok (.iconst 0, 1) := by decide +kernel
theorem dX1_becomeRow_24 : decode cX1_becomeRow 24 = .ok (.invokestatic 31, 3) := by decide +kernel
theorem dX1_becomeRow_27 : decode cX1_becomeRow 27 = .ok (.return_, 1) := by decide +kernel
theorem dX1_has_0 : decode cX1_has 0 = .ok (.iload_n 1, 1) := by decide +kernel
theorem dX1_has_1 : decode cX1_has 1 = .ok (.ifCond .lt 21, 3) := by decide +kernel
theorem dX1_has_4 : decode cX1_has 4 = .ok (.iload_n 1, 1) := by decide +kernel
theorem dX1_has_5 : decode cX1_has 5 = .ok (.aload_n 0, 1) := by decide +kernel
theorem dX1_has_6 : decode cX1_has 6 = .ok (.getfield 28, 3) := by decide +kernel
theorem dX1_has_9 : decode cX1_has 9 = .ok (.if_icmp .ge 13, 3) := by decide +kernel
theorem dX1_has_12 : decode cX1_has 12 = .ok (.iload_n 1, 1) := by decide +kernel
theorem dX1_has_13 : decode cX1_has 13 = .ok (.bipush 40, 2) := by decide +kernel
theorem dX1_has_15 : decode cX1_has 15 = .ok (.if_icmp .ge 7, 3) := by decide +kernel
theorem dX1_has_18 : decode cX1_has 18 = .ok (.iconst 1, 1) := by decide +kernel
theorem dX1_has_19 : decode cX1_has 19 = .ok (.goto 4, 3) := by decide +kernel
theorem dX1_has_22 : decode cX1_has 22 = .ok (.iconst 0, 1) := by decide +kernel
theorem dX1_has_23 : decode cX1_has 23 = .ok (.ireturn, 1) := by decide +kernel
theorem dX1_hasRun_0 : decode cX1_hasRun 0 = .ok (.iload_n 1, 1) := by decide +kernel
theorem dX1_hasRun_1 : decode cX1_hasRun 1 = .ok (.ifCond .lt 29, 3) := by decide +kernel
theorem dX1_hasRun_4 : decode cX1_hasRun 4 = .ok (.iload_n 2, 1) := by decide +kernel
theorem dX1_hasRun_5 : decode cX1_hasRun 5 = .ok (.ifCond .lt 25, 3) := by decide +kernel
theorem dX1_hasRun_8 : decode cX1_hasRun 8 = .ok (.iload_n 1, 1) := by decide +kernel
theorem dX1_hasRun_9 : decode cX1_hasRun 9 = .ok (.aload_n 0, 1) := by decide +kernel
theorem dX1_hasRun_10 : decode cX1_hasRun 10 = .ok (.getfield 28, 3) := by decide +kernel
theorem dX1_hasRun_13 : decode cX1_hasRun 13 = .ok (.if_icmp .gt 17, 3) := by decide +kernel
theorem dX1_hasRun_16 : decode cX1_hasRun 16 = .ok (.iload_n 2, 1) := by decide +kernel
theorem dX1_hasRun_17 : decode cX1_hasRun 17 = .ok (.aload_n 0, 1) := by decide +kernel
theorem dX1_hasRun_18 : decode cX1_hasRun 18 = .ok (.getfield 28, 3) := by decide +kernel
theorem dX1_hasRun_21 : decode cX1_hasRun 21 = .ok (.iload_n 1, 1) := by decide +kernel
theorem dX1_hasRun_22 : decode cX1_hasRun 22 = .ok (.isub, 1) := by decide +kernel
theorem dX1_hasRun_23 : decode cX1_hasRun 23 = .ok (.if_icmp .gt 7, 3) := by decide +kernel
theorem dX1_hasRun_26 : decode cX1_hasRun 26 = .ok (.iconst 1, 1) := by decide +kernel
theorem dX1_hasRun_27 : decode cX1_hasRun 27 = .ok (.goto 4, 3) := by decide +kernel
theorem dX1_hasRun_30 : decode cX1_hasRun 30 = .ok (.iconst 0, 1) := by decide +kernel
theorem dX1_hasRun_31 : decode cX1_hasRun 31 = .ok (.ireturn, 1) := by decide +kernel
theorem dX1_read_0 : decode cX1_read 0 = .ok (.aload_n 0, 1) := by decide +kernel
theorem dX1_read_1 : decode cX1_read 1 = .ok (.iload_n 1, 1) := by decide +kernel
theorem dX1_read_2 : decode cX1_read 2 = .ok (.invokevirtual 37, 3) := by decide +kernel
theorem dX1_read_5 : decode cX1_read 5 = .ok (.ifCond .eq 12, 3) := by decide +kernel
theorem dX1_read_8 : decode cX1_read 8 = .ok (.aload_n 0, 1) := by decide +kernel
theorem dX1_read_9 : decode cX1_read 9 = .ok (.getfield 15, 3) := by decide +kernel
theorem dX1_read_12 : decode cX1_read 12 = .ok (.iload_n 1, 1) := by decide +kernel
theorem dX1_read_13 : decode cX1_read 13 = .ok (.iaload, 1) := by decide +kernel
theorem dX1_read_14 : decode cX1_read 14 = .ok (.goto 4, 3) := by decide +kernel
theorem dX1_read_17 : decode cX1_read 17 = .ok (.iconst 0, 1) := by decide +kernel
theorem dX1_read_18 : decode cX1_read 18 = .ok (.ireturn, 1) := by decide +kernel
theorem dX1_write_0 : decode cX1_write 0 = .ok (.aload_n 0, 1) := by decide +kernel
theorem dX1_write_1 : decode cX1_write 1 = .ok (.iload_n 1, 1) := by decide +kernel
theorem dX1_write_2 : decode cX1_write 2 = .ok (.invokevirtual 37, 3) := by decide +kernel
theorem dX1_write_5 : decode cX1_write 5 = .ok (.ifCond .eq 35, 3) := by decide +kernel
theorem dX1_write_8 : decode cX1_write 8 = .ok (.aload_n 0, 1) := by decide +kernel
theorem dX1_write_9 : decode cX1_write 9 = .ok (.getfield 15, 3) := by decide +kernel
theorem dX1_write_12 : decode cX1_write 12 = .ok (.iload_n 1, 1) := by decide +kernel
theorem dX1_write_13 : decode cX1_write 13 = .ok (.aload_n 0, 1) := by decide +kernel
theorem dX1_write_14 : decode cX1_write 14 = .ok (.getfield 11, 3) := by decide +kernel
theorem dX1_write_17 : decode cX1_write 17 = .ok (.ifCond .ne 8, 3) := by decide +kernel
theorem dX1_write_20 : decode cX1_write 20 = .ok (.iload_n 2, 1) := by decide +kernel
theorem dX1_write_21 : decode cX1_write 21 = .ok (.i2b, 1) := by decide +kernel
theorem dX1_write_22 : decode cX1_write 22 = .ok (.goto 17, 3) := by decide +kernel
theorem dX1_write_25 : decode cX1_write 25 = .ok (.aload_n 0, 1) := by decide +kernel
theorem dX1_write_26 : decode cX1_write 26 = .ok (.getfield 11, 3) := by decide +kernel
theorem dX1_write_29 : decode cX1_write 29 = .ok (.iconst 1, 1) := by decide +kernel
theorem dX1_write_30 : decode cX1_write 30 = .ok (.if_icmp .ne 8, 3) := by decide +kernel
theorem dX1_write_33 : decode cX1_write 33 = .ok (.iload_n 2, 1) := by decide +kernel
theorem dX1_write_34 : decode cX1_write 34 = .ok (.i2s, 1) := by decide +kernel
theorem dX1_write_35 : decode cX1_write 35 = .ok (.goto 4, 3) := by decide +kernel
theorem dX1_write_38 : decode cX1_write 38 = .ok (.iload_n 2, 1) := by decide +kernel
theorem dX1_write_39 : decode cX1_write 39 = .ok (.iastore, 1) := by decide +kernel
theorem dX1_write_40 : decode cX1_write 40 = .ok (.return_, 1) := by decide +kernel
theorem dX1_isSock_0 : decode cX1_isSock 0 = .ok (.aload_n 0, 1) := by decide +kernel
theorem dX1_isSock_1 : decode cX1_isSock 1 = .ok (.getfield 28, 3) := by decide +kernel
theorem dX1_isSock_4 : decode cX1_isSock 4 = .ok (.iconst 1, 1) := by decide +kernel
theorem dX1_isSock_5 : decode cX1_isSock 5 = .ok (.if_icmp .lt 12, 3) := by decide +kernel
theorem dX1_isSock_8 : decode cX1_isSock 8 = .ok (.aload_n 0, 1) := by decide +kernel
theorem dX1_isSock_9 : decode cX1_isSock 9 = .ok (.getfield 28, 3) := by decide +kernel
theorem dX1_isSock_12 : decode cX1_isSock 12 = .ok (.bipush 16, 2) := by decide +kernel
theorem dX1_isSock_14 : decode cX1_isSock 14 = .ok (.if_icmp .le 5, 3) := by decide +kernel
theorem dX1_isSock_17 : decode cX1_isSock 17 = .ok (.iconst 0, 1) := by decide +kernel
theorem dX1_isSock_18 : decode cX1_isSock 18 = .ok (.ireturn, 1) := by decide +kernel
theorem dX1_isSock_19 : decode cX1_isSock 19 = .ok (.iconst 0, 1) := by decide +kernel
theorem dX1_isSock_20 : decode cX1_isSock 20 = .ok (.istore_n 1, 1) := by decide +kernel
theorem dX1_isSock_21 : decode cX1_isSock 21 = .ok (.iload_n 1, 1) := by decide +kernel
theorem dX1_isSock_22 : decode cX1_isSock 22 = .ok (.aload_n 0, 1) := by decide +kernel
theorem dX1_isSock_23 : decode cX1_isSock 23 = .ok (.getfield 28, 3) := by decide +kernel
theorem dX1_isSock_26 : decode cX1_isSock 26 = .ok (.if_icmp .ge 28, 3) := by decide +kernel
theorem dX1_isSock_29 : decode cX1_isSock 29 = .ok (.aload_n 0, 1) := by decide +kernel
theorem dX1_isSock_30 : decode cX1_isSock 30 = .ok (.iload_n 1, 1) := by decide +kernel
theorem dX1_isSock_31 : decode cX1_isSock 31 = .ok (.invokevirtual 41, 3) := by decide +kernel
theorem dX1_isSock_34 : decode cX1_isSock 34 = .ok (.ifCond .lt 12, 3) := by decide +kernel
theorem dX1_isSock_37 : decode cX1_isSock 37 = .ok (.aload_n 0, 1) := by decide +kernel
theorem dX1_isSock_38 : decode cX1_isSock 38 = .ok (.iload_n 1, 1) := by decide +kernel
theorem dX1_isSock_39 : decode cX1_isSock 39 = .ok (.invokevirtual 41, 3) := by decide +kernel
theorem dX1_isSock_42 : decode cX1_isSock 42 = .ok (.iconst 5, 1) := by decide +kernel
theorem dX1_isSock_43 : decode cX1_isSock 43 = .ok (.if_icmp .lt 5, 3) := by decide +kernel
theorem dX1_isSock_46 : decode cX1_isSock 46 = .ok (.iconst 0, 1) := by decide +kernel
theorem dX1_isSock_47 : decode cX1_isSock 47 = .ok (.ireturn, 1) := by decide +kernel
theorem dX1_isSock_48 : decode cX1_isSock 48 = .ok (.iinc 1 1, 3) := by decide +kernel
theorem dX1_isSock_51 : decode cX1_isSock 51 = .ok (.goto (-30), 3) := by decide +kernel
theorem dX1_isSock_54 : decode cX1_isSock 54 = .ok (.iconst 1, 1) := by decide +kernel
theorem dX1_isSock_55 : decode cX1_isSock 55 = .ok (.ireturn, 1) := by decide +kernel
theorem dX2_init_0 : decode cX2_init 0 = .ok (.aload_n 0, 1) := by decide +kernel
theorem dX2_init_1 : decode cX2_init 1 = .ok (.invokespecial 3, 3) := by decide +kernel
theorem dX2_init_4 : decode cX2_init 4 = .ok (.aload_n 0, 1) := by decide +kernel
theorem dX2_init_5 : decode cX2_init 5 = .ok (.bipush 99, 2) := by decide +kernel
theorem dX2_init_7 : decode cX2_init 7 = .ok (.putfield 9, 3) := by decide +kernel
theorem dX2_init_10 : decode cX2_init 10 = .ok (.aload_n 0, 1) := by decide +kernel
theorem dX2_init_11 : decode cX2_init 11 = .ok (.iconst 1, 1) := by decide +kernel
theorem dX2_init_12 : decode cX2_init 12 = .ok (.putfield 15, 3) := by decide +kernel
theorem dX2_init_15 : decode cX2_init 15 = .ok (.aload_n 0, 1) := by decide +kernel
theorem dX2_init_16 : decode cX2_init 16 = .ok (.bipush 16, 2) := by decide +kernel
theorem dX2_init_18 : decode cX2_init 18 = .ok (.newarray .int, 2) := by decide +kernel
theorem dX2_init_20 : decode cX2_init 20 = .ok (.putfield 18, 3) := by decide +kernel
theorem dX2_init_23 : decode cX2_init 23 = .ok (.return_, 1) := by decide +kernel
theorem dX2_arrive_0 : decode cX2_arrive 0 = .ok (.aload_n 0, 1) := by decide +kernel
theorem dX2_arrive_1 : decode cX2_arrive 1 = .ok (.iload_n 1, 1) := by decide +kernel
theorem dX2_arrive_2 : decode cX2_arrive 2 = .ok (.bipush 10, 2) := by decide +kernel
theorem dX2_arrive_4 : decode cX2_arrive 4 = .ok (.idiv, 1) := by decide +kernel
theorem dX2_arrive_5 : decode cX2_arrive 5 = .ok (.putfield 22, 3) := by decide +kernel
theorem dX2_arrive_8 : decode cX2_arrive 8 = .ok (.aload_n 0, 1) := by decide +kernel
theorem dX2_arrive_9 : decode cX2_arrive 9 = .ok (.iload_n 1, 1) := by decide +kernel
theorem dX2_arrive_10 : decode cX2_arrive 10 = .ok (.bipush 10, 2) := by decide +kernel
theorem dX2_arrive_12 : decode cX2_arrive 12 = .ok (.irem, 1) := by decide +kernel
theorem dX2_arrive_13 : decode cX2_arrive 13 = .ok (.putfield 25, 3) := by decide +kernel
theorem dX2_arrive_16 : decode cX2_arrive 16 = .ok (.aload_n 0, 1) := by decide +kernel
theorem dX2_arrive_17 : decode cX2_arrive 17 = .ok (.iload_n 2, 1) := by decide +kernel
theorem dX2_arrive_18 : decode cX2_arrive 18 = .ok (.bipush 10, 2) := by decide +kernel
theorem dX2_arrive_20 : decode cX2_arrive 20 = .ok (.idiv, 1) := by decide +kernel
theorem dX2_arrive_21 : decode cX2_arrive 21 = .ok (.putfield 28, 3) := by decide +kernel
theorem dX2_arrive_24 : decode cX2_arrive 24 = .ok (.aload_n 0, 1) := by decide +kernel
theorem dX2_arrive_25 : decode cX2_arrive 25 = .ok (.iload_n 2, 1) := by decide +kernel
theorem dX2_arrive_26 : decode cX2_arrive 26 = .ok (.bipush 10, 2) := by decide +kernel
theorem dX2_arrive_28 : decode cX2_arrive 28 = .ok (.irem, 1) := by decide +kernel
theorem dX2_arrive_29 : decode cX2_arrive 29 = .ok (.putfield 31, 3) := by decide +kernel
theorem dX2_arrive_32 : decode cX2_arrive 32 = .ok (.aload_n 0, 1) := by decide +kernel
theorem dX2_arrive_33 : decode cX2_arrive 33 = .ok (.iconst 0, 1) := by decide +kernel
theorem dX2_arrive_34 : decode cX2_arrive 34 = .ok (.putfield 34, 3) := by decide +kernel
theorem dX2_arrive_37 : decode cX2_arrive 37 = .ok (.aload_n 0, 1) := by decide +kernel
theorem dX2_arrive_38 : decode cX2_arrive 38 = .ok (.iconst 0, 1) := by decide +kernel
theorem dX2_arrive_39 : decode cX2_arrive 39 = .ok (.putfield 37, 3) := by decide +kernel
theorem dX2_arrive_42 : decode cX2_arrive 42 = .ok (.aload_n 0, 1) := by decide +kernel
theorem dX2_arrive_43 : decode cX2_arrive 43 = .ok (.bipush 99, 2) := by decide +kernel
theorem dX2_arrive_45 : decode cX2_arrive 45 = .ok (.putfield 9, 3) := by decide +kernel
theorem dX2_arrive_48 : decode cX2_arrive 48 = .ok (.aload_n 0, 1) := by decide +kernel
theorem dX2_arrive_49 : decode cX2_arrive 49 = .ok (.iconst 1, 1) := by decide +kernel
theorem dX2_arrive_50 : decode cX2_arrive 50 = .ok (.putfield 15, 3) := by decide +kernel
theorem dX2_arrive_53 : decode cX2_arrive 53 = .ok (.aload_n 0, 1) := by decide +kernel
theorem dX2_arrive_54 : decode cX2_arrive 54 = .ok (.getfield 18, 3) := by decide +kernel
theorem dX2_arrive_57 : decode cX2_arrive 57 = .ok (.iconst 0, 1) := by decide +kernel
theorem dX2_arrive_58 : decode cX2_arrive 58 = .ok (.iconst 0, 1) := by decide +kernel
theorem dX2_arrive_59 : decode cX2_arrive 59 = .ok (.iastore, 1) := by decide +kernel
theorem dX2_arrive_60 : decode cX2_arrive 60 = .ok (.return_, 1) := by decide +kernel
theorem dX2_becomeAs_0 : decode cX2_becomeAs 0 = .ok (.aload_n 0, 1) := by decide +kernel
theorem dX2_becomeAs_1 : decode cX2_becomeAs 1 = .ok (.aload_n 1, 1) := by decide +kernel
theorem dX2_becomeAs_2 : decode cX2_becomeAs 2 = .ok (.getfield 22, 3) := by decide +kernel
theorem dX2_becomeAs_5 : decode cX2_becomeAs 5 = .ok (.putfield 22, 3) := by decide +kernel
theorem dX2_becomeAs_8 : decode cX2_becomeAs 8 = .ok (.aload_n 0, 1) := by decide +kernel
theorem dX2_becomeAs_9 : decode cX2_becomeAs 9 = .ok (.aload_n 1, 1) := by decide +kernel
theorem dX2_becomeAs_10 : decode cX2_becomeAs 10 = .ok (.getfield 25, 3) := by decide +kernel
theorem dX2_becomeAs_13 : decode cX2_becomeAs 13 = .ok (.putfield 25, 3) := by decide +kernel
theorem dX2_becomeAs_16 : decode cX2_becomeAs 16 = .ok (.aload_n 0, 1) := by decide +kernel
theorem dX2_becomeAs_17 : decode cX2_becomeAs 17 = .ok (.aload_n 1, 1) := by decide +kernel
theorem dX2_becomeAs_18 : decode cX2_becomeAs 18 = .ok (.getfield 28, 3) := by decide +kernel
theorem dX2_becomeAs_21 : decode cX2_becomeAs 21 = .ok (.putfield 28, 3) := by decide +kernel
theorem dX2_becomeAs_24 : decode cX2_becomeAs 24 = .ok (.aload_n 0, 1) := by decide +kernel
theorem dX2_becomeAs_25 : decode cX2_becomeAs 25 = .ok (.aload_n 1, 1) := by decide +kernel
theorem dX2_becomeAs_26 : decode cX2_becomeAs 26 = .ok (.getfield 31, 3) := by decide +kernel
theorem dX2_becomeAs_29 : decode cX2_becomeAs 29 = .ok (.putfield 31, 3) := by decide +kernel
theorem dX2_becomeAs_32 : decode cX2_becomeAs 32 = .ok (.aload_n 0, 1) := by decide +kernel
theorem dX2_becomeAs_33 : decode cX2_becomeAs 33 = .ok (.aload_n 1, 1) := by decide +kernel
theorem dX2_becomeAs_34 : decode cX2_becomeAs 34 = .ok (.getfield 34, 3) := by decide +kernel
theorem dX2_becomeAs_37 : decode cX2_becomeAs 37 = .ok (.putfield 34, 3) := by decide +kernel
theorem dX2_becomeAs_40 : decode cX2_becomeAs 40 = .ok (.aload_n 0, 1) := by decide +kernel
theorem dX2_becomeAs_41 : decode cX2_becomeAs 41 = .ok (.aload_n 1, 1) := by decide +kernel
theorem dX2_becomeAs_42 : decode cX2_becomeAs 42 = .ok (.getfield 37, 3) := by decide +kernel
theorem dX2_becomeAs_45 : decode cX2_becomeAs 45 = .ok (.putfield 37, 3) := by decide +kernel
theorem dX2_becomeAs_48 : decode cX2_becomeAs 48 = .ok (.aload_n 0, 1) := by decide +kernel
theorem dX2_becomeAs_49 : decode cX2_becomeAs 49 = .ok (.aload_n 1, 1) := by decide +kernel
theorem dX2_becomeAs_50 : decode cX2_becomeAs 50 = .ok (.getfield 9, 3) := by decide +kernel
theorem dX2_becomeAs_53 : decode cX2_becomeAs 53 = .ok (.putfield 9, 3) := by decide +kernel
theorem dX2_becomeAs_56 : decode cX2_becomeAs 56 = .ok (.aload_n 0, 1) := by decide +kernel
theorem dX2_becomeAs_57 : decode cX2_becomeAs 57 = .ok (.aload_n 1, 1) := by decide +kernel
theorem dX2_becomeAs_58 : decode cX2_becomeAs 58 = .ok (.getfield 15, 3) := by decide +kernel
theorem dX2_becomeAs_61 : decode cX2_becomeAs 61 = .ok (.putfield 15, 3) := by decide +kernel
theorem dX2_becomeAs_64 : decode cX2_becomeAs 64 = .ok (.aload_n 1, 1) := by decide +kernel
theorem dX2_becomeAs_65 : decode cX2_becomeAs 65 = .ok (.getfield 18, 3) := by decide +kernel
theorem dX2_becomeAs_68 : decode cX2_becomeAs 68 = .ok (.iconst 0, 1) := by decide +kernel
theorem dX2_becomeAs_69 : decode cX2_becomeAs 69 = .ok (.aload_n 0, 1) := by decide +kernel
theorem dX2_becomeAs_70 : decode cX2_becomeAs 70 = .ok (.getfield 18, 3) := by decide +kernel
theorem dX2_becomeAs_73 : decode cX2_becomeAs 73 = .ok (.iconst 0, 1) := by decide +kernel
theorem dX2_becomeAs_74 : decode cX2_becomeAs 74 = .ok (.bipush 16, 2) := by decide +kernel
theorem dX2_becomeAs_76 : decode cX2_becomeAs 76 = .ok (.invokestatic 40, 3) := by decide +kernel
theorem dX2_becomeAs_79 : decode cX2_becomeAs 79 = .ok (.return_, 1) := by decide +kernel
theorem dX2_bound_0 : decode cX2_bound 0 = .ok (.iload_n 1, 1) := by decide +kernel
theorem dX2_bound_1 : decode cX2_bound 1 = .ok (.tableswitch 48 0 4 #[35, 38, 40, 45, 45], 35) := by decide +kernel
theorem dX2_bound_36 : decode cX2_bound 36 = .ok (.bipush 64, 2) := by decide +kernel
theorem dX2_bound_38 : decode cX2_bound 38 = .ok (.ireturn, 1) := by decide +kernel
theorem dX2_bound_39 : decode cX2_bound 39 = .ok (.iconst 4, 1) := by decide +kernel
theorem dX2_bound_40 : decode cX2_bound 40 = .ok (.ireturn, 1) := by decide +kernel
theorem dX2_bound_41 : decode cX2_bound 41 = .ok (.aload_n 0, 1) := by decide +kernel
theorem dX2_bound_42 : decode cX2_bound 42 = .ok (.getfield 15, 3) := by decide +kernel
theorem dX2_bound_45 : decode cX2_bound 45 = .ok (.ireturn, 1) := by decide +kernel
theorem dX2_bound_46 : decode cX2_bound 46 = .ok (.bipush 100, 2) := by decide +kernel
theorem dX2_bound_48 : decode cX2_bound 48 = .ok (.ireturn, 1) := by decide +kernel
theorem dX2_bound_49 : decode cX2_bound 49 = .ok (.iconst 0, 1) := by decide +kernel
theorem dX2_bound_50 : decode cX2_bound 50 = .ok (.ireturn, 1) := by decide +kernel
theorem dX2_part_0 : decode cX2_part 0 = .ok (.iload_n 1, 1) := by decide +kernel
theorem dX2_part_1 : decode cX2_part 1 = .ok (.tableswitch 51 0 3 #[31, 36, 41, 46], 31) := by decide +kernel
theorem dX2_part_32 : decode cX2_part 32 = .ok (.aload_n 0, 1) := by decide +kernel
theorem dX2_part_33 : decode cX2_part 33 = .ok (.getfield 28, 3) := by decide +kernel
theorem dX2_part_36 : decode cX2_part 36 = .ok (.ireturn, 1) := by decide +kernel
theorem dX2_part_37 : decode cX2_part 37 = .ok (.aload_n 0, 1) := by decide +kernel
theorem dX2_part_38 : decode cX2_part 38 = .ok (.getfield 31, 3) := by decide +kernel
theorem dX2_part_41 : decode cX2_part 41 = .ok (.ireturn, 1) := by decide +kernel
theorem dX2_part_42 : decode cX2_part 42 = .ok (.aload_n 0, 1) := by decide +kernel
theorem dX2_part_43 : decode cX2_part 43 = .ok (.getfield 34, 3) := by decide +kernel
theorem dX2_part_46 : decode cX2_part 46 = .ok (.ireturn, 1) := by decide +kernel
theorem dX2_part_47 : decode cX2_part 47 = .ok (.aload_n 0, 1) := by decide +kernel
theorem dX2_part_48 : decode cX2_part 48 = .ok (.getfield 37, 3) := by decide +kernel
theorem dX2_part_51 : decode cX2_part 51 = .ok (.ireturn, 1) := by decide +kernel
theorem dX2_part_52 : decode cX2_part 52 = .ok (.aload_n 0, 1) := by decide +kernel
theorem dX2_part_53 : decode cX2_part 53 = .ok (.getfield 9, 3) := by decide +kernel
theorem dX2_part_56 : decode cX2_part 56 = .ok (.ireturn, 1) := by decide +kernel
theorem dX2_become_0 : decode cX2_become 0 = .ok (.iload_n 1, 1) := by decide +kernel
theorem dX2_become_1 : decode cX2_become 1 = .ok (.tableswitch 75 0 4 #[35, 43, 51, 59, 67], 35) := by decide +kernel
theorem dX2_become_36 : decode cX2_become 36 = .ok (.aload_n 0, 1) := by decide +kernel
theorem dX2_become_37 : decode cX2_become 37 = .ok (.iload_n 2, 1) := by decide +kernel
theorem dX2_become_38 : decode cX2_become 38 = .ok (.putfield 28, 3) := by decide +kernel
theorem dX2_become_41 : decode cX2_become 41 = .ok (.goto 35, 3) := by decide +kernel
theorem dX2_become_44 : decode cX2_become 44 = .ok (.aload_n 0, 1) := by decide +kernel
theorem dX2_become_45 : decode cX2_become 45 = .ok (.iload_n 2, 1) := by decide +kernel
theorem dX2_become_46 : decode cX2_become 46 = .ok (.putfield 31, 3) := by decide +kernel
theorem dX2_become_49 : decode cX2_become 49 = .ok (.goto 27, 3) := by decide +kernel
theorem dX2_become_52 : decode cX2_become 52 = .ok (.aload_n 0, 1) := by decide +kernel
theorem dX2_become_53 : decode cX2_become 53 = .ok (.iload_n 2, 1) := by decide +kernel
theorem dX2_become_54 : decode cX2_become 54 = .ok (.putfield 34, 3) := by decide +kernel
theorem dX2_become_57 : decode cX2_become 57 = .ok (.goto 19, 3) := by decide +kernel
theorem dX2_become_60 : decode cX2_become 60 = .ok (.aload_n 0, 1) := by decide +kernel
theorem dX2_become_61 : decode cX2_become 61 = .ok (.iload_n 2, 1) := by decide +kernel
theorem dX2_become_62 : decode cX2_become 62 = .ok (.putfield 37, 3) := by decide +kernel
theorem dX2_become_65 : decode cX2_become 65 = .ok (.goto 11, 3) := by decide +kernel
theorem dX2_become_68 : decode cX2_become 68 = .ok (.aload_n 0, 1) := by decide +kernel
theorem dX2_become_69 : decode cX2_become 69 = .ok (.iload_n 2, 1) := by decide +kernel
theorem dX2_become_70 : decode cX2_become 70 = .ok (.putfield 9, 3) := by decide +kernel
theorem dX2_become_73 : decode cX2_become 73 = .ok (.goto 3, 3) := by decide +kernel
theorem dX2_become_76 : decode cX2_become 76 = .ok (.return_, 1) := by decide +kernel
theorem dX2_stitchAt_0 : decode cX2_stitchAt 0 = .ok (.iload_n 1, 1) := by decide +kernel
theorem dX2_stitchAt_1 : decode cX2_stitchAt 1 = .ok (.ifCond .lt 18, 3) := by decide +kernel
theorem dX2_stitchAt_4 : decode cX2_stitchAt 4 = .ok (.iload_n 1, 1) := by decide +kernel
theorem dX2_stitchAt_5 : decode cX2_stitchAt 5 = .ok (.bipush 16, 2) := by decide +kernel
theorem dX2_stitchAt_7 : decode cX2_stitchAt 7 = .ok (.if_icmp .ge 12, 3) := by decide +kernel
theorem dX2_stitchAt_10 : decode cX2_stitchAt 10 = .ok (.aload_n 0, 1) := by decide +kernel
theorem dX2_stitchAt_11 : decode cX2_stitchAt 11 = .ok (.getfield 18, 3) := by decide +kernel
theorem dX2_stitchAt_14 : decode cX2_stitchAt 14 = .ok (.iload_n 1, 1) := by decide +kernel
theorem dX2_stitchAt_15 : decode cX2_stitchAt 15 = .ok (.iaload, 1) := by decide +kernel
theorem dX2_stitchAt_16 : decode cX2_stitchAt 16 = .ok (.goto 4, 3) := by decide +kernel
theorem dX2_stitchAt_19 : decode cX2_stitchAt 19 = .ok (.iconst 0, 1) := by decide +kernel
theorem dX2_stitchAt_20 : decode cX2_stitchAt 20 = .ok (.ireturn, 1) := by decide +kernel
theorem dX2_stitchRound_0 : decode cX2_stitchRound 0 = .ok (.aload_n 0, 1) := by decide +kernel
theorem dX2_stitchRound_1 : decode cX2_stitchRound 1 = .ok (.getfield 15, 3) := by decide +kernel
theorem dX2_stitchRound_4 : decode cX2_stitchRound 4 = .ok (.ifCond .le 16, 3) := by decide +kernel
theorem dX2_stitchRound_7 : decode cX2_stitchRound 7 = .ok (.aload_n 0, 1) := by decide +kernel
theorem dX2_stitchRound_8 : decode cX2_stitchRound 8 = .ok (.iload_n 1, 1) := by decide +kernel
theorem dX2_stitchRound_9 : decode cX2_stitchRound 9 = .ok (.aload_n 0, 1) := by decide +kernel
theorem dX2_stitchRound_10 : decode cX2_stitchRound 10 = .ok (.getfield 15, 3) := by decide +kernel
theorem dX2_stitchRound_13 : decode cX2_stitchRound 13 = .ok (.irem, 1) := by decide +kernel
theorem dX2_stitchRound_14 : decode cX2_stitchRound 14 = .ok (.invokevirtual 46, 3) := by decide +kernel
theorem dX2_stitchRound_17 : decode cX2_stitchRound 17 = .ok (.goto 4, 3) := by decide +kernel
theorem dX2_stitchRound_20 : decode cX2_stitchRound 20 = .ok (.iconst 0, 1) := by decide +kernel
theorem dX2_stitchRound_21 : decode cX2_stitchRound 21 = .ok (.ireturn, 1) := by decide +kernel
theorem dX2_mend_0 : decode cX2_mend 0 = .ok (.iload_n 1, 1) := by decide +kernel
theorem dX2_mend_1 : decode cX2_mend 1 = .ok (.ifCond .lt 16, 3) := by decide +kernel
theorem dX2_mend_4 : decode cX2_mend 4 = .ok (.iload_n 1, 1) := by decide +kernel
theorem dX2_mend_5 : decode cX2_mend 5 = .ok (.bipush 16, 2) := by decide +kernel
theorem dX2_mend_7 : decode cX2_mend 7 = .ok (.if_icmp .ge 10, 3) := by decide +kernel
theorem dX2_mend_10 : decode cX2_mend 10 = .ok (.aload_n 0, 1) := by decide +kernel
theorem dX2_mend_11 : decode cX2_mend 11 = .ok (.getfield 18, 3) := by decide +kernel
theorem dX2_mend_14 : decode cX2_mend 14 = .ok (.iload_n 1, 1) := by decide +kernel
theorem dX2_mend_15 : decode cX2_mend 15 = .ok (.iload_n 2, 1) := by decide +kernel
theorem dX2_mend_16 : decode cX2_mend 16 = .ok (.iastore, 1) := by decide +kernel
theorem dX2_mend_17 : decode cX2_mend 17 = .ok (.return_, 1) := by decide +kernel
theorem dX2_wear_0 : decode cX2_wear 0 = .ok (.aload_n 0, 1) := by decide +kernel
theorem dX2_wear_1 : decode cX2_wear 1 = .ok (.aload_n 1, 1) := by decide +kernel
theorem dX2_wear_2 : decode cX2_wear 2 = .ok (.getfield 50, 3) := by decide +kernel
theorem dX2_wear_5 : decode cX2_wear 5 = .ok (.putfield 15, 3) := by decide +kernel
theorem dX2_wear_8 : decode cX2_wear 8 = .ok (.aload_n 0, 1) := by decide +kernel
theorem dX2_wear_9 : decode cX2_wear 9 = .ok (.iconst 0, 1) := by decide +kernel
theorem dX2_wear_10 : decode cX2_wear 10 = .ok (.putfield 34, 3) := by decide +kernel
theorem dX2_wear_13 : decode cX2_wear 13 = .ok (.iconst 0, 1) := by decide +kernel
theorem dX2_wear_14 : decode cX2_wear 14 = .ok (.istore_n 2, 1) := by decide +kernel
theorem dX2_wear_15 : decode cX2_wear 15 = .ok (.iload_n 2, 1) := by decide +kernel
theorem dX2_wear_16 : decode cX2_wear 16 = .ok (.aload_n 0, 1) := by decide +kernel
theorem dX2_wear_17 : decode cX2_wear 17 = .ok (.getfield 15, 3) := by decide +kernel
theorem dX2_wear_20 : decode cX2_wear 20 = .ok (.if_icmp .ge 19, 3) := by decide +kernel
theorem dX2_wear_23 : decode cX2_wear 23 = .ok (.aload_n 0, 1) := by decide +kernel
theorem dX2_wear_24 : decode cX2_wear 24 = .ok (.iload_n 2, 1) := by decide +kernel
theorem dX2_wear_25 : decode cX2_wear 25 = .ok (.aload_n 1, 1) := by decide +kernel
theorem dX2_wear_26 : decode cX2_wear 26 = .ok (.iload_n 2, 1) := by decide +kernel
theorem dX2_wear_27 : decode cX2_wear 27 = .ok (.invokevirtual 53, 3) := by decide +kernel
theorem dX2_wear_30 : decode cX2_wear 30 = .ok (.invokevirtual 56, 3) := by decide +kernel
theorem dX2_wear_33 : decode cX2_wear 33 = .ok (.iinc 2 1, 3) := by decide +kernel
theorem dX2_wear_36 : decode cX2_wear 36 = .ok (.goto (-21), 3) := by decide +kernel
theorem dX2_wear_39 : decode cX2_wear 39 = .ok (.return_, 1) := by decide +kernel
theorem dX2_isA_0 : decode cX2_isA 0 = .ok (.iload_n 1, 1) := by decide +kernel
theorem dX2_isA_1 : decode cX2_isA 1 = .ok (.tableswitch 73 0 2 #[27, 29, 51], 27) := by decide +kernel
theorem dX2_isA_28 : decode cX2_isA 28 = .ok (.iconst 1, 1) := by decide +kernel
theorem dX2_isA_29 : decode cX2_isA 29 = .ok (.ireturn, 1) := by decide +kernel
theorem dX2_isA_30 : decode cX2_isA 30 = .ok (.aload_n 0, 1) := by decide +kernel
theorem dX2_isA_31 : decode cX2_isA 31 = .ok (.getfield 22, 3) := by decide +kernel
theorem dX2_isA_34 : decode cX2_isA 34 = .ok (.iconst 1, 1) := by decide +kernel
theorem dX2_isA_35 : decode cX2_isA 35 = .ok (.if_icmp .eq 11, 3) := by decide +kernel
theorem dX2_isA_38 : decode cX2_isA 38 = .ok (.aload_n 0, 1) := by decide +kernel
theorem dX2_isA_39 : decode cX2_isA 39 = .ok (.getfield 22, 3) := by decide +kernel
theorem dX2_isA_42 : decode cX2_isA 42 = .ok (.iconst 3, 1) := by decide +kernel
theorem dX2_isA_43 : decode cX2_isA 43 = .ok (.if_icmp .ne 7, 3) := by decide +kernel
theorem dX2_isA_46 : decode cX2_isA 46 = .ok (.iconst 1, 1) := by decide +kernel
theorem dX2_isA_47 : decode cX2_isA 47 = .ok (.goto 4, 3) := by decide +kernel
theorem dX2_isA_50 : decode cX2_isA 50 = .ok (.iconst 0, 1) := by decide +kernel
theorem dX2_isA_51 : decode cX2_isA 51 = .ok (.ireturn, 1) := by decide +kernel
theorem dX2_isA_52 : decode cX2_isA 52 = .ok (.aload_n 0, 1) := by decide +kernel
theorem dX2_isA_53 : decode cX2_isA 53 = .ok (.getfield 22, 3) := by decide +kernel
theorem dX2_isA_56 : decode cX2_isA 56 = .ok (.iconst 2, 1) := by decide +kernel
theorem dX2_isA_57 : decode cX2_isA 57 = .ok (.if_icmp .eq 11, 3) := by decide +kernel
theorem dX2_isA_60 : decode cX2_isA 60 = .ok (.aload_n 0, 1) := by decide +kernel
theorem dX2_isA_61 : decode cX2_isA 61 = .ok (.getfield 22, 3) := by decide +kernel
theorem dX2_isA_64 : decode cX2_isA 64 = .ok (.iconst 4, 1) := by decide +kernel
theorem dX2_isA_65 : decode cX2_isA 65 = .ok (.if_icmp .ne 7, 3) := by decide +kernel
theorem dX2_isA_68 : decode cX2_isA 68 = .ok (.iconst 1, 1) := by decide +kernel
theorem dX2_isA_69 : decode cX2_isA 69 = .ok (.goto 4, 3) := by decide +kernel
theorem dX2_isA_72 : decode cX2_isA 72 = .ok (.iconst 0, 1) := by decide +kernel
theorem dX2_isA_73 : decode cX2_isA 73 = .ok (.ireturn, 1) := by decide +kernel
theorem dX2_isA_74 : decode cX2_isA 74 = .ok (.aload_n 0, 1) := by decide +kernel
theorem dX2_isA_75 : decode cX2_isA 75 = .ok (.getfield 22, 3) := by decide +kernel
theorem dX2_isA_78 : decode cX2_isA 78 = .ok (.iload_n 1, 1) := by decide +kernel
theorem dX2_isA_79 : decode cX2_isA 79 = .ok (.if_icmp .ne 7, 3) := by decide +kernel
theorem dX2_isA_82 : decode cX2_isA 82 = .ok (.iconst 1, 1) := by decide +kernel
theorem dX2_isA_83 : decode cX2_isA 83 = .ok (.goto 4, 3) := by decide +kernel
theorem dX2_isA_86 : decode cX2_isA 86 = .ok (.iconst 0, 1) := by decide +kernel
theorem dX2_isA_87 : decode cX2_isA 87 = .ok (.ireturn, 1) := by decide +kernel
theorem dX2_goesBy_0 : decode cX2_goesBy 0 = .ok (.aload_n 1, 1) := by decide +kernel
theorem dX2_goesBy_1 : decode cX2_goesBy 1 = .ok (.iconst 0, 1) := by decide +kernel
theorem dX2_goesBy_2 : decode cX2_goesBy 2 = .ok (.aload_n 0, 1) := by decide +kernel
theorem dX2_goesBy_3 : decode cX2_goesBy 3 = .ok (.invokevirtual 62, 3) := by decide +kernel
theorem dX2_goesBy_6 : decode cX2_goesBy 6 = .ok (.istore_n 2, 1) := by decide +kernel
theorem dX2_goesBy_7 : decode cX2_goesBy 7 = .ok (.aload_n 0, 1) := by decide +kernel
theorem dX2_goesBy_8 : decode cX2_goesBy 8 = .ok (.getfield 9, 3) := by decide +kernel
theorem dX2_goesBy_11 : decode cX2_goesBy 11 = .ok (.ifCond .ne 7, 3) := by decide +kernel
theorem dX2_goesBy_14 : decode cX2_goesBy 14 = .ok (.iconst 0, 1) := by decide +kernel
theorem dX2_goesBy_15 : decode cX2_goesBy 15 = .ok (.goto 4, 3) := by decide +kernel
theorem dX2_goesBy_18 : decode cX2_goesBy 18 = .ok (.iload_n 2, 1) := by decide +kernel
theorem dX2_goesBy_19 : decode cX2_goesBy 19 = .ok (.istore_n 3, 1) := by decide +kernel
theorem dX2_goesBy_20 : decode cX2_goesBy 20 = .ok (.aload_n 0, 1) := by decide +kernel
theorem dX2_goesBy_21 : decode cX2_goesBy 21 = .ok (.getfield 22, 3) := by decide +kernel
theorem dX2_goesBy_24 : decode cX2_goesBy 24 = .ok (.tableswitch 73 1 5 #[36, 50, 42, 50, 64], 36) := by decide +kernel
theorem dX2_goesBy_60 : decode cX2_goesBy 60 = .ok (.aload_n 0, 1) := by decide +kernel
theorem dX2_goesBy_61 : decode cX2_goesBy 61 = .ok (.iload_n 3, 1) := by decide +kernel
theorem dX2_goesBy_62 : decode cX2_goesBy 62 = .ok (.invokevirtual 66, 3) := by decide +kernel
theorem dX2_goesBy_65 : decode cX2_goesBy 65 = .ok (.ireturn, 1) := by decide +kernel
theorem dX2_goesBy_66 : decode cX2_goesBy 66 = .ok (.aload_n 0, 1) := by decide +kernel
theorem dX2_goesBy_67 : decode cX2_goesBy 67 = .ok (.iload_n 3, 1) := by decide +kernel
theorem dX2_goesBy_68 : decode cX2_goesBy 68 = .ok (.invokevirtual 66, 3) := by decide +kernel
theorem dX2_goesBy_71 : decode cX2_goesBy 71 = .ok (.iconst 1, 1) := by decide +kernel
theorem dX2_goesBy_72 : decode cX2_goesBy 72 = .ok (.iadd, 1) := by decide +kernel
theorem dX2_goesBy_73 : decode cX2_goesBy 73 = .ok (.ireturn, 1) := by decide +kernel
theorem dX2_goesBy_74 : decode cX2_goesBy 74 = .ok (.iload_n 3, 1) := by decide +kernel
theorem dX2_goesBy_75 : decode cX2_goesBy 75 = .ok (.iconst 1, 1) := by decide +kernel
theorem dX2_goesBy_76 : decode cX2_goesBy 76 = .ok (.aload_n 0, 1) := by decide +kernel
theorem dX2_goesBy_77 : decode cX2_goesBy 77 = .ok (.getfield 9, 3) := by decide +kernel
theorem dX2_goesBy_80 : decode cX2_goesBy 80 = .ok (.bipush 10, 2) := by decide +kernel
theorem dX2_goesBy_82 : decode cX2_goesBy 82 = .ok (.idiv, 1) := by decide +kernel
theorem dX2_goesBy_83 : decode cX2_goesBy 83 = .ok (.iadd, 1) := by decide +kernel
theorem dX2_goesBy_84 : decode cX2_goesBy 84 = .ok (.invokestatic 69, 3) := by decide +kernel
theorem dX2_goesBy_87 : decode cX2_goesBy 87 = .ok (.ireturn, 1) := by decide +kernel
theorem dX2_goesBy_88 : decode cX2_goesBy 88 = .ok (.iload_n 2, 1) := by decide +kernel
theorem dX2_goesBy_89 : decode cX2_goesBy 89 = .ok (.aload_n 0, 1) := by decide +kernel
theorem dX2_goesBy_90 : decode cX2_goesBy 90 = .ok (.getfield 25, 3) := by decide +kernel
theorem dX2_goesBy_93 : decode cX2_goesBy 93 = .ok (.invokestatic 69, 3) := by decide +kernel
theorem dX2_goesBy_96 : decode cX2_goesBy 96 = .ok (.ireturn, 1) := by decide +kernel
theorem dX2_goesBy_97 : decode cX2_goesBy 97 = .ok (.iload_n 3, 1) := by decide +kernel
theorem dX2_goesBy_98 : decode cX2_goesBy 98 = .ok (.ireturn, 1) := by decide +kernel
theorem dX2_goesAsBaby_0 : decode cX2_goesAsBaby 0 = .ok (.aload_n 0, 1) := by decide +kernel
theorem dX2_goesAsBaby_1 : decode cX2_goesAsBaby 1 = .ok (.getfield 25, 3) := by decide +kernel
theorem dX2_goesAsBaby_4 : decode cX2_goesAsBaby 4 = .ok (.iconst 1, 1) := by decide +kernel
theorem dX2_goesAsBaby_5 : decode cX2_goesAsBaby 5 = .ok (.iadd, 1) := by decide +kernel
theorem dX2_goesAsBaby_6 : decode cX2_goesAsBaby 6 = .ok (.istore_n 2, 1) := by decide +kernel
theorem dX2_goesAsBaby_7 : decode cX2_goesAsBaby 7 = .ok (.iload_n 2, 1) := by decide +kernel
theorem dX2_goesAsBaby_8 : decode cX2_goesAsBaby 8 = .ok (.ifCond .le 11, 3) := by decide +kernel
theorem dX2_goesAsBaby_11 : decode cX2_goesAsBaby 11 = .ok (.iconst 2, 1) := by decide +kernel
theorem dX2_goesAsBaby_12 : decode cX2_goesAsBaby 12 = .ok (.iload_n 1, 1) := by decide +kernel
theorem dX2_goesAsBaby_13 : decode cX2_goesAsBaby 13 = .ok (.imul, 1) := by decide +kernel
theorem dX2_goesAsBaby_14 : decode cX2_goesAsBaby 14 = .ok (.iload_n 2, 1) := by decide +kernel
theorem dX2_goesAsBaby_15 : decode cX2_goesAsBaby 15 = .ok (.irem, 1) := by decide +kernel
theorem dX2_goesAsBaby_16 : decode cX2_goesAsBaby 16 = .ok (.goto 4, 3) := by decide +kernel
theorem dX2_goesAsBaby_19 : decode cX2_goesAsBaby 19 = .ok (.iconst 0, 1) := by decide +kernel
theorem dX2_goesAsBaby_20 : decode cX2_goesAsBaby 20 = .ok (.ireturn, 1) := by decide +kernel
theorem dX2_mindsBy_0 : decode cX2_mindsBy 0 = .ok (.aload_n 1, 1) := by decide +kernel
theorem dX2_mindsBy_1 : decode cX2_mindsBy 1 = .ok (.iconst 1, 1) := by decide +kernel
theorem dX2_mindsBy_2 : decode cX2_mindsBy 2 = .ok (.aload_n 0, 1) := by decide +kernel
theorem dX2_mindsBy_3 : decode cX2_mindsBy 3 = .ok (.invokevirtual 62, 3) := by decide +kernel
theorem dX2_mindsBy_6 : decode cX2_mindsBy 6 = .ok (.istore_n 2, 1) := by decide +kernel
theorem dX2_mindsBy_7 : decode cX2_mindsBy 7 = .ok (.aload_n 0, 1) := by decide +kernel
theorem dX2_mindsBy_8 : decode cX2_mindsBy 8 = .ok (.getfield 22, 3) := by decide +kernel
theorem dX2_mindsBy_11 : decode cX2_mindsBy 11 = .ok (.tableswitch 51 1 4 #[29, 51, 29, 34], 29) := by decide +kernel
theorem dX2_mindsBy_40 : decode cX2_mindsBy 40 = .ok (.iload_n 2, 1) := by decide +kernel
theorem dX2_mindsBy_41 : decode cX2_mindsBy 41 = .ok (.bipush 10, 2) := by decide +kernel
theorem dX2_mindsBy_43 : decode cX2_mindsBy 43 = .ok (.iadd, 1) := by decide +kernel
theorem dX2_mindsBy_44 : decode cX2_mindsBy 44 = .ok (.ireturn, 1) := by decide +kernel
theorem dX2_mindsBy_45 : decode cX2_mindsBy 45 = .ok (.aload_n 0, 1) := by decide +kernel
theorem dX2_mindsBy_46 : decode cX2_mindsBy 46 = .ok (.getfield 37, 3) := by decide +kernel
theorem dX2_mindsBy_49 : decode cX2_mindsBy 49 = .ok (.aload_n 0, 1) := by decide +kernel
theorem dX2_mindsBy_50 : decode cX2_mindsBy 50 = .ok (.getfield 25, 3) := by decide +kernel
theorem dX2_mindsBy_53 : decode cX2_mindsBy 53 = .ok (.if_icmp .le 7, 3) := by decide +kernel
theorem dX2_mindsBy_56 : decode cX2_mindsBy 56 = .ok (.iload_n 2, 1) := by decide +kernel
theorem dX2_mindsBy_57 : decode cX2_mindsBy 57 = .ok (.goto 4, 3) := by decide +kernel
theorem dX2_mindsBy_60 : decode cX2_mindsBy 60 = .ok (.iconst 0, 1) := by decide +kernel
theorem dX2_mindsBy_61 : decode cX2_mindsBy 61 = .ok (.ireturn, 1) := by decide +kernel
theorem dX2_mindsBy_62 : decode cX2_mindsBy 62 = .ok (.iload_n 2, 1) := by decide +kernel
theorem dX2_mindsBy_63 : decode cX2_mindsBy 63 = .ok (.ireturn, 1) := by decide +kernel
theorem dX2_wearsBy_0 : decode cX2_wearsBy 0 = .ok (.aload_n 1, 1) := by decide +kernel
theorem dX2_wearsBy_1 : decode cX2_wearsBy 1 = .ok (.iconst 2, 1) := by decide +kernel
theorem dX2_wearsBy_2 : decode cX2_wearsBy 2 = .ok (.aload_n 0, 1) := by decide +kernel
theorem dX2_wearsBy_3 : decode cX2_wearsBy 3 = .ok (.invokevirtual 62, 3) := by decide +kernel
theorem dX2_wearsBy_6 : decode cX2_wearsBy 6 = .ok (.istore_n 3, 1) := by decide +kernel
theorem dX2_wearsBy_7 : decode cX2_wearsBy 7 = .ok (.aload_n 0, 1) := by decide +kernel
theorem dX2_wearsBy_8 : decode cX2_wearsBy 8 = .ok (.getfield 22, 3) := by decide +kernel
theorem dX2_wearsBy_11 : decode cX2_wearsBy 11 = .ok (.tableswitch 54 2 5 #[29, 36, 48, 50], 29) := by decide +kernel
theorem dX2_wearsBy_40 : decode cX2_wearsBy 40 = .ok (.iload_n 3, 1) := by decide +kernel
theorem dX2_wearsBy_41 : decode cX2_wearsBy 41 = .ok (.aload_n 0, 1) := by decide +kernel
theorem dX2_wearsBy_42 : decode cX2_wearsBy 42 = .ok (.getfield 25, 3) := by decide +kernel
theorem dX2_wearsBy_45 : decode cX2_wearsBy 45 = .ok (.iadd, 1) := by decide +kernel
theorem dX2_wearsBy_46 : decode cX2_wearsBy 46 = .ok (.ireturn, 1) := by decide +kernel
theorem dX2_wearsBy_47 : decode cX2_wearsBy 47 = .ok (.iload_n 2, 1) := by decide +kernel
theorem dX2_wearsBy_48 : decode cX2_wearsBy 48 = .ok (.iconst 3, 1) := by decide +kernel
theorem dX2_wearsBy_49 : decode cX2_wearsBy 49 = .ok (.irem, 1) := by decide +kernel
theorem dX2_wearsBy_50 : decode cX2_wearsBy 50 = .ok (.ifCond .ne 7, 3) := by decide +kernel
theorem dX2_wearsBy_53 : decode cX2_wearsBy 53 = .ok (.iload_n 3, 1) := by decide +kernel
theorem dX2_wearsBy_54 : decode cX2_wearsBy 54 = .ok (.goto 4, 3) := by decide +kernel
theorem dX2_wearsBy_57 : decode cX2_wearsBy 57 = .ok (.iconst 0, 1) := by decide +kernel
theorem dX2_wearsBy_58 : decode cX2_wearsBy 58 = .ok (.ireturn, 1) := by decide +kernel
theorem dX2_wearsBy_59 : decode cX2_wearsBy 59 = .ok (.iconst 0, 1) := by decide +kernel
theorem dX2_wearsBy_60 : decode cX2_wearsBy 60 = .ok (.ireturn, 1) := by decide +kernel
theorem dX2_wearsBy_61 : decode cX2_wearsBy 61 = .ok (.iconst 2, 1) := by decide +kernel
theorem dX2_wearsBy_62 : decode cX2_wearsBy 62 = .ok (.iload_n 3, 1) := by decide +kernel
theorem dX2_wearsBy_63 : decode cX2_wearsBy 63 = .ok (.imul, 1) := by decide +kernel
theorem dX2_wearsBy_64 : decode cX2_wearsBy 64 = .ok (.ireturn, 1) := by decide +kernel
theorem dX2_wearsBy_65 : decode cX2_wearsBy 65 = .ok (.iload_n 3, 1) := by decide +kernel
theorem dX2_wearsBy_66 : decode cX2_wearsBy 66 = .ok (.ireturn, 1) := by decide +kernel
theorem dX2_walk_0 : decode cX2_walk 0 = .ok (.aload_n 0, 1) := by decide +kernel
theorem dX2_walk_1 : decode cX2_walk 1 = .ok (.aload_n 1, 1) := by decide +kernel
theorem dX2_walk_2 : decode cX2_walk 2 = .ok (.invokevirtual 75, 3) := by decide +kernel
theorem dX2_walk_5 : decode cX2_walk 5 = .ok (.istore 5, 2) := by decide +kernel
theorem dX2_walk_7 : decode cX2_walk 7 = .ok (.aload_n 0, 1) := by decide +kernel
theorem dX2_walk_8 : decode cX2_walk 8 = .ok (.aload_n 1, 1) := by decide +kernel
theorem dX2_walk_9 : decode cX2_walk 9 = .ok (.iload_n 2, 1) := by decide +kernel
theorem dX2_walk_10 : decode cX2_walk 10 = .ok (.invokevirtual 79, 3) := by decide +kernel
theorem dX2_walk_13 : decode cX2_walk 13 = .ok (.istore 6, 2) := by decide +kernel
theorem dX2_walk_15 : decode cX2_walk 15 = .ok (.iconst 0, 1) := by decide +kernel
theorem dX2_walk_16 : decode cX2_walk 16 = .ok (.istore 7, 2) := by decide +kernel
theorem dX2_walk_18 : decode cX2_walk 18 = .ok (.iload 7, 2) := by decide +kernel
theorem dX2_walk_20 : decode cX2_walk 20 = .ok (.iload 5, 2) := by decide +kernel
theorem dX2_walk_22 : decode cX2_walk 22 = .ok (.if_icmp .ge 17, 3) := by decide +kernel
theorem dX2_walk_25 : decode cX2_walk 25 = .ok (.aload_n 0, 1) := by decide +kernel
theorem dX2_walk_26 : decode cX2_walk 26 = .ok (.lload_n 3, 1) := by decide +kernel
theorem dX2_walk_27 : decode cX2_walk 27 = .ok (.invokevirtual 83, 3) := by decide +kernel
theorem dX2_walk_30 : decode cX2_walk 30 = .ok (.ifCond .eq 9, 3) := by decide +kernel
theorem dX2_walk_33 : decode cX2_walk 33 = .ok (.iinc 7 1, 3) := by decide +kernel
theorem dX2_walk_36 : decode cX2_walk 36 = .ok (.goto (-18), 3) := by decide +kernel
theorem dX2_walk_39 : decode cX2_walk 39 = .ok (.aload_n 0, 1) := by decide +kernel
theorem dX2_walk_40 : decode cX2_walk 40 = .ok (.iconst 0, 1) := by decide +kernel
theorem dX2_walk_41 : decode cX2_walk 41 = .ok (.aload_n 0, 1) := by decide +kernel
theorem dX2_walk_42 : decode cX2_walk 42 = .ok (.getfield 9, 3) := by decide +kernel
theorem dX2_walk_45 : decode cX2_walk 45 = .ok (.iload 6, 2) := by decide +kernel
theorem dX2_walk_47 : decode cX2_walk 47 = .ok (.isub, 1) := by decide +kernel
theorem dX2_walk_48 : decode cX2_walk 48 = .ok (.invokestatic 87, 3) := by decide +kernel
theorem dX2_walk_51 : decode cX2_walk 51 = .ok (.putfield 9, 3) := by decide +kernel
theorem dX2_walk_54 : decode cX2_walk 54 = .ok (.iload 7, 2) := by decide +kernel
theorem dX2_walk_56 : decode cX2_walk 56 = .ok (.ireturn, 1) := by decide +kernel
theorem dX2_goOn_0 : decode cX2_goOn 0 = .ok (.aload_n 0, 1) := by decide +kernel
theorem dX2_goOn_1 : decode cX2_goOn 1 = .ok (.aload_n 0, 1) := by decide +kernel
theorem dX2_goOn_2 : decode cX2_goOn 2 = .ok (.getfield 34, 3) := by decide +kernel
theorem dX2_goOn_5 : decode cX2_goOn 5 = .ok (.invokevirtual 46, 3) := by decide +kernel
theorem dX2_goOn_8 : decode cX2_goOn 8 = .ok (.istore_n 3, 1) := by decide +kernel
theorem dX2_goOn_9 : decode cX2_goOn 9 = .ok (.aload_n 0, 1) := by decide +kernel
theorem dX2_goOn_10 : decode cX2_goOn 10 = .ok (.aload_n 0, 1) := by decide +kernel
theorem dX2_goOn_11 : decode cX2_goOn 11 = .ok (.getfield 34, 3) := by decide +kernel
theorem dX2_goOn_14 : decode cX2_goOn 14 = .ok (.iconst 1, 1) := by decide +kernel
theorem dX2_goOn_15 : decode cX2_goOn 15 = .ok (.iadd, 1) := by decide +kernel
theorem dX2_goOn_16 : decode cX2_goOn 16 = .ok (.aload_n 0, 1) := by decide +kernel
theorem dX2_goOn_17 : decode cX2_goOn 17 = .ok (.getfield 15, 3) := by decide +kernel
theorem dX2_goOn_20 : decode cX2_goOn 20 = .ok (.if_icmp .ge 12, 3) := by decide +kernel
theorem dX2_goOn_23 : decode cX2_goOn 23 = .ok (.aload_n 0, 1) := by decide +kernel
theorem dX2_goOn_24 : decode cX2_goOn 24 = .ok (.getfield 34, 3) := by decide +kernel
theorem dX2_goOn_27 : decode cX2_goOn 27 = .ok (.iconst 1, 1) := by decide +kernel
theorem dX2_goOn_28 : decode cX2_goOn 28 = .ok (.iadd, 1) := by decide +kernel
theorem dX2_goOn_29 : decode cX2_goOn 29 = .ok (.goto 4, 3) := by decide +kernel
theorem dX2_goOn_32 : decode cX2_goOn 32 = .ok (.iconst 0, 1) := by decide +kernel
theorem dX2_goOn_33 : decode cX2_goOn 33 = .ok (.putfield 34, 3) := by decide +kernel
theorem dX2_goOn_36 : decode cX2_goOn 36 = .ok (.iload_n 3, 1) := by decide +kernel
theorem dX2_goOn_37 : decode cX2_goOn 37 = .ok (.iconst 3, 1) := by decide +kernel
theorem dX2_goOn_38 : decode cX2_goOn 38 = .ok (.if_icmp .ne 5, 3) := by decide +kernel
theorem dX2_goOn_41 : decode cX2_goOn 41 = .ok (.iconst 0, 1) := by decide +kernel
theorem dX2_goOn_42 : decode cX2_goOn 42 = .ok (.ireturn, 1) := by decide +kernel
theorem dX2_goOn_43 : decode cX2_goOn 43 = .ok (.iload_n 3, 1) := by decide +kernel
theorem dX2_goOn_44 : decode cX2_goOn 44 = .ok (.iconst 1, 1) := by decide +kernel
theorem dX2_goOn_45 : decode cX2_goOn 45 = .ok (.if_icmp .ne 18, 3) := by decide +kernel
theorem dX2_goOn_48 : decode cX2_goOn 48 = .ok (.aload_n 0, 1) := by decide +kernel
theorem dX2_goOn_49 : decode cX2_goOn 49 = .ok (.aload_n 0, 1) := by decide +kernel
theorem dX2_goOn_50 : decode cX2_goOn 50 = .ok (.getfield 31, 3) := by decide +kernel
theorem dX2_goOn_53 : decode cX2_goOn 53 = .ok (.iconst 3, 1) := by decide +kernel
theorem dX2_goOn_54 : decode cX2_goOn 54 = .ok (.iadd, 1) := by decide +kernel
theorem dX2_goOn_55 : decode cX2_goOn 55 = .ok (.iconst 4, 1) := by decide +kernel
theorem dX2_goOn_56 : decode cX2_goOn 56 = .ok (.irem, 1) := by decide +kernel
theorem dX2_goOn_57 : decode cX2_goOn 57 = .ok (.putfield 31, 3) := by decide +kernel
theorem dX2_goOn_60 : decode cX2_goOn 60 = .ok (.goto 20, 3) := by decide +kernel
theorem dX2_goOn_63 : decode cX2_goOn 63 = .ok (.iload_n 3, 1) := by decide +kernel
theorem dX2_goOn_64 : decode cX2_goOn 64 = .ok (.iconst 2, 1) := by decide +kernel
theorem dX2_goOn_65 : decode cX2_goOn 65 = .ok (.if_icmp .ne 15, 3) := by decide +kernel
theorem dX2_goOn_68 : decode cX2_goOn 68 = .ok (.aload_n 0, 1) := by decide +kernel
theorem dX2_goOn_69 : decode cX2_goOn 69 = .ok (.aload_n 0, 1) := by decide +kernel
theorem dX2_goOn_70 : decode cX2_goOn 70 = .ok (.getfield 31, 3) := by decide +kernel
theorem dX2_goOn_73 : decode cX2_goOn 73 = .ok (.iconst 1, 1) := by decide +kernel
theorem dX2_goOn_74 : decode cX2_goOn 74 = .ok (.iadd, 1) := by decide +kernel
theorem dX2_goOn_75 : decode cX2_goOn 75 = .ok (.iconst 4, 1) := by decide +kernel
theorem dX2_goOn_76 : decode cX2_goOn 76 = .ok (.irem, 1) := by decide +kernel
theorem dX2_goOn_77 : decode cX2_goOn 77 = .ok (.putfield 31, 3) := by decide +kernel
theorem dX2_goOn_80 : decode cX2_goOn 80 = .ok (.aload_n 0, 1) := by decide +kernel
theorem dX2_goOn_81 : decode cX2_goOn 81 = .ok (.invokevirtual 90, 3) := by decide +kernel
theorem dX2_goOn_84 : decode cX2_goOn 84 = .ok (.istore 4, 2) := by decide +kernel
theorem dX2_goOn_86 : decode cX2_goOn 86 = .ok (.iload 4, 2) := by decide +kernel
theorem dX2_goOn_88 : decode cX2_goOn 88 = .ok (.iconst (-1), 1) := by decide +kernel
theorem dX2_goOn_89 : decode cX2_goOn 89 = .ok (.if_icmp .ne 5, 3) := by decide +kernel
theorem dX2_goOn_92 : decode cX2_goOn 92 = .ok (.iconst 0, 1) := by decide +kernel
theorem dX2_goOn_93 : decode cX2_goOn 93 = .ok (.ireturn, 1) := by decide +kernel
theorem dX2_goOn_94 : decode cX2_goOn 94 = .ok (.iload_n 3, 1) := by decide +kernel
theorem dX2_goOn_95 : decode cX2_goOn 95 = .ok (.iconst 4, 1) := by decide +kernel
theorem dX2_goOn_96 : decode cX2_goOn 96 = .ok (.if_icmp .eq 29, 3) := by decide +kernel
theorem dX2_goOn_99 : decode cX2_goOn 99 = .ok (.lload_n 1, 1) := by decide +kernel
theorem dX2_goOn_100 : decode cX2_goOn 100 = .ok (.iload 4, 2) := by decide +kernel
theorem dX2_goOn_102 : decode cX2_goOn 102 = .ok (.invokestatic 94, 3) := by decide +kernel
theorem dX2_goOn_105 : decode cX2_goOn 105 = .ok (.ifCond .eq 20, 3) := by decide +kernel
theorem dX2_goOn_108 : decode cX2_goOn 108 = .ok (.aload_n 0, 1) := by decide +kernel
theorem dX2_goOn_109 : decode cX2_goOn 109 = .ok (.bipush 99, 2) := by decide +kernel
theorem dX2_goOn_111 : decode cX2_goOn 111 = .ok (.aload_n 0, 1) := by decide +kernel
theorem dX2_goOn_112 : decode cX2_goOn 112 = .ok (.getfield 37, 3) := by decide +kernel
theorem dX2_goOn_115 : decode cX2_goOn 115 = .ok (.iconst 1, 1) := by decide +kernel
theorem dX2_goOn_116 : decode cX2_goOn 116 = .ok (.iadd, 1) := by decide +kernel
theorem dX2_goOn_117 : decode cX2_goOn 117 = .ok (.invokestatic 69, 3) := by decide +kernel
theorem dX2_goOn_120 : decode cX2_goOn 120 = .ok (.putfield 37, 3) := by decide +kernel
theorem dX2_goOn_123 : decode cX2_goOn 123 = .ok (.iconst 0, 1) := by decide +kernel
theorem dX2_goOn_124 : decode cX2_goOn 124 = .ok (.ireturn, 1) := by decide +kernel
theorem dX2_goOn_125 : decode cX2_goOn 125 = .ok (.aload_n 0, 1) := by decide +kernel
theorem dX2_goOn_126 : decode cX2_goOn 126 = .ok (.iload 4, 2) := by decide +kernel
theorem dX2_goOn_128 : decode cX2_goOn 128 = .ok (.putfield 28, 3) := by decide +kernel
theorem dX2_goOn_131 : decode cX2_goOn 131 = .ok (.aload_n 0, 1) := by decide +kernel
theorem dX2_goOn_132 : decode cX2_goOn 132 = .ok (.dup, 1) := by decide +kernel
theorem dX2_goOn_133 : decode cX2_goOn 133 = .ok (.getfield 98, 3) := by decide +kernel
theorem dX2_goOn_136 : decode cX2_goOn 136 = .ok (.lconst 1, 1) := by decide +kernel
theorem dX2_goOn_137 : decode cX2_goOn 137 = .ok (.iload 4, 2) := by decide +kernel
theorem dX2_goOn_139 : decode cX2_goOn 139 = .ok (.lshl, 1) := by decide +kernel
theorem dX2_goOn_140 : decode cX2_goOn 140 = .ok (.lor, 1) := by decide +kernel
theorem dX2_goOn_141 : decode cX2_goOn 141 = .ok (.putfield 98, 3) := by decide +kernel
theorem dX2_goOn_144 : decode cX2_goOn 144 = .ok (.iconst 1, 1) := by decide +kernel
theorem dX2_goOn_145 : decode cX2_goOn 145 = .ok (.ireturn, 1) := by decide +kernel
theorem dX2_beside_0 : decode cX2_beside 0 = .ok (.aload_n 0, 1) := by decide +kernel
theorem dX2_beside_1 : decode cX2_beside 1 = .ok (.getfield 28, 3) := by decide +kernel
theorem dX2_beside_4 : decode cX2_beside 4 = .ok (.bipush 8, 2) := by decide +kernel
theorem dX2_beside_6 : decode cX2_beside 6 = .ok (.irem, 1) := by decide +kernel
theorem dX2_beside_7 : decode cX2_beside 7 = .ok (.istore_n 1, 1) := by decide +kernel
theorem dX2_beside_8 : decode cX2_beside 8 = .ok (.aload_n 0, 1) := by decide +kernel
theorem dX2_beside_9 : decode cX2_beside 9 = .ok (.getfield 28, 3) := by decide +kernel
theorem dX2_beside_12 : decode cX2_beside 12 = .ok (.bipush 8, 2) := by decide +kernel
theorem dX2_beside_14 : decode cX2_beside 14 = .ok (.idiv, 1) := by decide +kernel
theorem dX2_beside_15 : decode cX2_beside 15 = .ok (.istore_n 2, 1) := by decide +kernel
theorem dX2_beside_16 : decode cX2_beside 16 = .ok (.aload_n 0, 1) := by decide +kernel
theorem dX2_beside_17 : decode cX2_beside 17 = .ok (.getfield 31, 3) := by decide +kernel
theorem dX2_beside_20 : decode cX2_beside 20 = .ok (.tableswitch 82 0 2 #[28, 47, 67], 28) := by decide +kernel
theorem dX2_beside_48 : decode cX2_beside 48 = .ok (.iload_n 1, 1) := by decide +kernel
theorem dX2_beside_49 : decode cX2_beside 49 = .ok (.iconst 1, 1) := by decide +kernel
theorem dX2_beside_50 : decode cX2_beside 50 = .ok (.iadd, 1) := by decide +kernel
theorem dX2_beside_51 : decode cX2_beside 51 = .ok (.bipush 8, 2) := by decide +kernel
theorem dX2_beside_53 : decode cX2_beside 53 = .ok (.if_icmp .ge 12, 3) := by decide +kernel
theorem dX2_beside_56 : decode cX2_beside 56 = .ok (.aload_n 0, 1) := by decide +kernel
theorem dX2_beside_57 : decode cX2_beside 57 = .ok (.getfield 28, 3) := by decide +kernel
theorem dX2_beside_60 : decode cX2_beside 60 = .ok (.iconst 1, 1) := by decide +kernel
theorem dX2_beside_61 : decode cX2_beside 61 = .ok (.iadd, 1) := by decide +kernel
theorem dX2_beside_62 : decode cX2_beside 62 = .ok (.goto 4, 3) := by decide +kernel
theorem dX2_beside_65 : decode cX2_beside 65 = .ok (.iconst (-1), 1) := by decide +kernel
theorem dX2_beside_66 : decode cX2_beside 66 = .ok (.ireturn, 1) := by decide +kernel
theorem dX2_beside_67 : decode cX2_beside 67 = .ok (.iload_n 2, 1) := by decide +kernel
theorem dX2_beside_68 : decode cX2_beside 68 = .ok (.iconst 1, 1) := by decide +kernel
theorem dX2_beside_69 : decode cX2_beside 69 = .ok (.iadd, 1) := by decide +kernel
theorem dX2_beside_70 : decode cX2_beside 70 = .ok (.bipush 8, 2) := by decide +kernel
theorem dX2_beside_72 : decode cX2_beside 72 = .ok (.if_icmp .ge 13, 3) := by decide +kernel
theorem dX2_beside_75 : decode cX2_beside 75 = .ok (.aload_n 0, 1) := by decide +kernel
theorem dX2_beside_76 : decode cX2_beside 76 = .ok (.getfield 28, 3) := by decide +kernel
theorem dX2_beside_79 : decode cX2_beside 79 = .ok (.bipush 8, 2) := by decide +kernel
theorem dX2_beside_81 : decode cX2_beside 81 = .ok (.iadd, 1) := by decide +kernel
theorem dX2_beside_82 : decode cX2_beside 82 = .ok (.goto 4, 3) := by decide +kernel
theorem dX2_beside_85 : decode cX2_beside 85 = .ok (.iconst (-1), 1) := by decide +kernel
theorem dX2_beside_86 : decode cX2_beside 86 = .ok (.ireturn, 1) := by decide +kernel
theorem dX2_beside_87 : decode cX2_beside 87 = .ok (.iload_n 1, 1) := by decide +kernel
theorem dX2_beside_88 : decode cX2_beside 88 = .ok (.ifCond .le 12, 3) := by decide +kernel
theorem dX2_beside_91 : decode cX2_beside 91 = .ok (.aload_n 0, 1) := by decide +kernel
theorem dX2_beside_92 : decode cX2_beside 92 = .ok (.getfield 28, 3) := by decide +kernel
theorem dX2_beside_95 : decode cX2_beside 95 = .ok (.iconst 1, 1) := by decide +kernel
theorem dX2_beside_96 : decode cX2_beside 96 = .ok (.isub, 1) := by decide +kernel
theorem dX2_beside_97 : decode cX2_beside 97 = .ok (.goto 4, 3) := by decide +kernel
theorem dX2_beside_100 : decode cX2_beside 100 = .ok (.iconst (-1), 1) := by decide +kernel
theorem dX2_beside_101 : decode cX2_beside 101 = .ok (.ireturn, 1) := by decide +kernel
theorem dX2_beside_102 : decode cX2_beside 102 = .ok (.iload_n 2, 1) := by decide +kernel
theorem dX2_beside_103 : decode cX2_beside 103 = .ok (.ifCond .le 13, 3) := by decide +kernel
theorem dX2_beside_106 : decode cX2_beside 106 = .ok (.aload_n 0, 1) := by decide +kernel
theorem dX2_beside_107 : decode cX2_beside 107 = .ok (.getfield 28, 3) := by decide +kernel
theorem dX2_beside_110 : decode cX2_beside 110 = .ok (.bipush 8, 2) := by decide +kernel
theorem dX2_beside_112 : decode cX2_beside 112 = .ok (.isub, 1) := by decide +kernel
theorem dX2_beside_113 : decode cX2_beside 113 = .ok (.goto 4, 3) := by decide +kernel
theorem dX2_beside_116 : decode cX2_beside 116 = .ok (.iconst (-1), 1) := by decide +kernel
theorem dX2_beside_117 : decode cX2_beside 117 = .ok (.ireturn, 1) := by decide +kernel
theorem dX2_named_0 : decode cX2_named 0 = .ok (.iload_n 1, 1) := by decide +kernel
theorem dX2_named_1 : decode cX2_named 1 = .ok (.tableswitch 66 0 4 #[35, 40, 48, 56, 61], 35) := by decide +kernel
theorem dX2_named_36 : decode cX2_named 36 = .ok (.aload_n 0, 1) := by decide +kernel
theorem dX2_named_37 : decode cX2_named 37 = .ok (.getfield 34, 3) := by decide +kernel
theorem dX2_named_40 : decode cX2_named 40 = .ok (.ireturn, 1) := by decide +kernel
theorem dX2_named_41 : decode cX2_named 41 = .ok (.aload_n 0, 1) := by decide +kernel
theorem dX2_named_42 : decode cX2_named 42 = .ok (.getfield 28, 3) := by decide +kernel
theorem dX2_named_45 : decode cX2_named 45 = .ok (.bipush 8, 2) := by decide +kernel
theorem dX2_named_47 : decode cX2_named 47 = .ok (.irem, 1) := by decide +kernel
theorem dX2_named_48 : decode cX2_named 48 = .ok (.ireturn, 1) := by decide +kernel
theorem dX2_named_49 : decode cX2_named 49 = .ok (.aload_n 0, 1) := by decide +kernel
theorem dX2_named_50 : decode cX2_named 50 = .ok (.getfield 28, 3) := by decide +kernel
theorem dX2_named_53 : decode cX2_named 53 = .ok (.bipush 8, 2) := by decide +kernel
theorem dX2_named_55 : decode cX2_named 55 = .ok (.idiv, 1) := by decide +kernel
theorem dX2_named_56 : decode cX2_named 56 = .ok (.ireturn, 1) := by decide +kernel
theorem dX2_named_57 : decode cX2_named 57 = .ok (.aload_n 0, 1) := by decide +kernel
theorem dX2_named_58 : decode cX2_named 58 = .ok (.getfield 37, 3) := by decide +kernel
theorem dX2_named_61 : decode cX2_named 61 = .ok (.ireturn, 1) := by decide +kernel
theorem dX2_named_62 : decode cX2_named 62 = .ok (.aload_n 0, 1) := by decide +kernel
theorem dX2_named_63 : decode cX2_named 63 = .ok (.getfield 9, 3) := by decide +kernel
theorem dX2_named_66 : decode cX2_named 66 = .ok (.ireturn, 1) := by decide +kernel
theorem dX2_named_67 : decode cX2_named 67 = .ok (.aload_n 0, 1) := by decide +kernel
theorem dX2_named_68 : decode cX2_named 68 = .ok (.getfield 25, 3) := by decide +kernel
theorem dX2_named_71 : decode cX2_named 71 = .ok (.ireturn, 1) := by decide +kernel
theorem dX3_init_0 : decode cX3_init 0 = .ok (.aload_n 0, 1) := by decide +kernel
theorem dX3_init_1 : decode cX3_init 1 = .ok (.invokespecial 3, 3) := by decide +kernel
theorem dX3_init_4 : decode cX3_init 4 = .ok (.aload_n 0, 1) := by decide +kernel
theorem dX3_init_5 : decode cX3_init 5 = .ok (.sipush 160, 3) := by decide +kernel
theorem dX3_init_8 : decode cX3_init 8 = .ok (.newarray .int, 2) := by decide +kernel
theorem dX3_init_10 : decode cX3_init 10 = .ok (.putfield 9, 3) := by decide +kernel
theorem dX3_init_13 : decode cX3_init 13 = .ok (.aload_n 0, 1) := by decide +kernel
theorem dX3_init_14 : decode cX3_init 14 = .ok (.sipush 160, 3) := by decide +kernel
theorem dX3_init_17 : decode cX3_init 17 = .ok (.newarray .int, 2) := by decide +kernel
theorem dX3_init_19 : decode cX3_init 19 = .ok (.putfield 15, 3) := by decide +kernel
theorem dX3_init_22 : decode cX3_init 22 = .ok (.aload_n 0, 1) := by decide +kernel
theorem dX3_init_23 : decode cX3_init 23 = .ok (.iconst 3, 1) := by decide +kernel
theorem dX3_init_24 : decode cX3_init 24 = .ok (.newarray .int, 2) := by decide +kernel
theorem dX3_init_26 : decode cX3_init 26 = .ok (.putfield 18, 3) := by decide +kernel
theorem dX3_init_29 : decode cX3_init 29 = .ok (.aload_n 0, 1) := by decide +kernel
theorem dX3_init_30 : decode cX3_init 30 = .ok (.aload_n 1, 1) := by decide +kernel
theorem dX3_init_31 : decode cX3_init 31 = .ok (.putfield 21, 3) := by decide +kernel
theorem dX3_init_34 : decode cX3_init 34 = .ok (.return_, 1) := by decide +kernel
theorem dX3_emit_0 : decode cX3_emit 0 = .ok (.aload_n 0, 1) := by decide +kernel
theorem dX3_emit_1 : decode cX3_emit 1 = .ok (.getfield 24, 3) := by decide +kernel
theorem dX3_emit_4 : decode cX3_emit 4 = .ok (.ifCond .lt 43, 3) := by decide +kernel
theorem dX3_emit_7 : decode cX3_emit 7 = .ok (.aload_n 0, 1) := by decide +kernel
theorem dX3_emit_8 : decode cX3_emit 8 = .ok (.getfield 24, 3) := by decide +kernel
theorem dX3_emit_11 : decode cX3_emit 11 = .ok (.sipush 160, 3) := by decide +kernel
theorem dX3_emit_14 : decode cX3_emit 14 = .ok (.if_icmp .ge 33, 3) := by decide +kernel
theorem dX3_emit_17 : decode cX3_emit 17 = .ok (.aload_n 0, 1) := by decide +kernel
theorem dX3_emit_18 : decode cX3_emit 18 = .ok (.getfield 9, 3) := by decide +kernel
theorem dX3_emit_21 : decode cX3_emit 21 = .ok (.aload_n 0, 1) := by decide +kernel
theorem dX3_emit_22 : decode cX3_emit 22 = .ok (.getfield 24, 3) := by decide +kernel
theorem dX3_emit_25 : decode cX3_emit 25 = .ok (.iload_n 1, 1) := by decide +kernel
theorem dX3_emit_26 : decode cX3_emit 26 = .ok (.iastore, 1) := by decide +kernel
theorem dX3_emit_27 : decode cX3_emit 27 = .ok (.aload_n 0, 1) := by decide +kernel
theorem dX3_emit_28 : decode cX3_emit 28 = .ok (.getfield 15, 3) := by decide +kernel
theorem dX3_emit_31 : decode cX3_emit 31 = .ok (.aload_n 0, 1) := by decide +kernel
theorem dX3_emit_32 : decode cX3_emit 32 = .ok (.getfield 24, 3) := by decide +kernel
theorem dX3_emit_35 : decode cX3_emit 35 = .ok (.iload_n 2, 1) := by decide +kernel
theorem dX3_emit_36 : decode cX3_emit 36 = .ok (.iastore, 1) := by decide +kernel
theorem dX3_emit_37 : decode cX3_emit 37 = .ok (.aload_n 0, 1) := by decide +kernel
theorem dX3_emit_38 : decode cX3_emit 38 = .ok (.dup, 1) := by decide +kernel
theorem dX3_emit_39 : decode cX3_emit 39 = .ok (.getfield 24, 3) := by decide +kernel
theorem dX3_emit_42 : decode cX3_emit 42 = .ok (.iconst 1, 1) := by decide +kernel
theorem dX3_emit_43 : decode cX3_emit 43 = .ok (.iadd, 1) := by decide +kernel
theorem dX3_emit_44 : decode cX3_emit 44 = .ok (.putfield 24, 3) := by decide +kernel
theorem dX3_emit_47 : decode cX3_emit 47 = .ok (.return_, 1) := by decide +kernel
theorem dX3_says_0 : decode cX3_says 0 = .ok (.iload_n 1, 1) := by decide +kernel
theorem dX3_says_1 : decode cX3_says 1 = .ok (.ifCond .lt 8, 3) := by decide +kernel
theorem dX3_says_4 : decode cX3_says 4 = .ok (.iload_n 1, 1) := by decide +kernel
theorem dX3_says_5 : decode cX3_says 5 = .ok (.iconst 3, 1) := by decide +kernel
theorem dX3_says_6 : decode cX3_says 6 = .ok (.if_icmp .lt 5, 3) := by decide +kernel
theorem dX3_says_9 : decode cX3_says 9 = .ok (.iconst 0, 1) := by decide +kernel
theorem dX3_says_10 : decode cX3_says 10 = .ok (.ireturn, 1) := by decide +kernel
theorem dX3_says_11 : decode cX3_says 11 = .ok (.sipush 160, 3) := by decide +kernel
theorem dX3_says_14 : decode cX3_says 14 = .ok (.aload_n 0, 1) := by decide +kernel
theorem dX3_says_15 : decode cX3_says 15 = .ok (.getfield 18, 3) := by decide +kernel
theorem dX3_says_18 : decode cX3_says 18 = .ok (.iload_n 1, 1) := by decide +kernel
theorem dX3_says_19 : decode cX3_says 19 = .ok (.iaload, 1) := by decide +kernel
theorem dX3_says_20 : decode cX3_says 20 = .ok (.invokestatic 28, 3) := by decide +kernel
theorem dX3_says_23 : decode cX3_says 23 = .ok (.istore_n 3, 1) := by decide +kernel
theorem dX3_says_24 : decode cX3_says 24 = .ok (.iconst 0, 1) := by decide +kernel
theorem dX3_says_25 : decode cX3_says 25 = .ok (.istore 4, 2) := by decide +kernel
theorem dX3_says_27 : decode cX3_says 27 = .ok (.iload_n 1, 1) := by decide +kernel
theorem dX3_says_28 : decode cX3_says 28 = .ok (.ifCond .le 18, 3) := by decide +kernel
theorem dX3_says_31 : decode cX3_says 31 = .ok (.iconst 0, 1) := by decide +kernel
theorem dX3_says_32 : decode cX3_says 32 = .ok (.aload_n 0, 1) := by decide +kernel
theorem dX3_says_33 : decode cX3_says 33 = .ok (.getfield 18, 3) := by decide +kernel
theorem dX3_says_36 : decode cX3_says 36 = .ok (.iload_n 1, 1) := by decide +kernel
theorem dX3_says_37 : decode cX3_says 37 = .ok (.iconst 1, 1) := by decide +kernel
theorem dX3_says_38 : decode cX3_says 38 = .ok (.isub, 1) := by decide +kernel
theorem dX3_says_39 : decode cX3_says 39 = .ok (.iaload, 1) := by decide +kernel
theorem dX3_says_40 : decode cX3_says 40 = .ok (.invokestatic 34, 3) := by decide +kernel
theorem dX3_says_43 : decode cX3_says 43 = .ok (.goto 4, 3) := by decide +kernel
theorem dX3_says_46 : decode cX3_says 46 = .ok (.iconst 0, 1) := by decide +kernel
theorem dX3_says_47 : decode cX3_says 47 = .ok (.istore 5, 2) := by decide +kernel
theorem dX3_says_49 : decode cX3_says 49 = .ok (.iload 5, 2) := by decide +kernel
theorem dX3_says_51 : decode cX3_says 51 = .ok (.iload_n 3, 1) := by decide +kernel
theorem dX3_says_52 : decode cX3_says 52 = .ok (.if_icmp .ge 163, 3) := by decide +kernel
theorem dX3_says_55 : decode cX3_says 55 = .ok (.aload_n 0, 1) := by decide +kernel
theorem dX3_says_56 : decode cX3_says 56 = .ok (.getfield 9, 3) := by decide +kernel
theorem dX3_says_59 : decode cX3_says 59 = .ok (.iload 5, 2) := by decide +kernel
theorem dX3_says_61 : decode cX3_says 61 = .ok (.iaload, 1) := by decide +kernel
theorem dX3_says_62 : decode cX3_says 62 = .ok (.istore 6, 2) := by decide +kernel
theorem dX3_says_64 : decode cX3_says 64 = .ok (.iload 6, 2) := by decide +kernel
theorem dX3_says_66 : decode cX3_says 66 = .ok (.ifCond .eq 9, 3) := by decide +kernel
theorem dX3_says_69 : decode cX3_says 69 = .ok (.iload 6, 2) := by decide +kernel
theorem dX3_says_71 : decode cX3_says 71 = .ok (.iconst 1, 1) := by decide +kernel
theorem dX3_says_72 : decode cX3_says 72 = .ok (.if_icmp .ne 52, 3) := by decide +kernel
theorem dX3_says_75 : decode cX3_says 75 = .ok (.iload 4, 2) := by decide +kernel
theorem dX3_says_77 : decode cX3_says 77 = .ok (.aload_n 0, 1) := by decide +kernel
theorem dX3_says_78 : decode cX3_says 78 = .ok (.getfield 21, 3) := by decide +kernel
theorem dX3_says_81 : decode cX3_says 81 = .ok (.arraylength, 1) := by decide +kernel
theorem dX3_says_82 : decode cX3_says 82 = .ok (.if_icmp .ge 127, 3) := by decide +kernel
theorem dX3_says_85 : decode cX3_says 85 = .ok (.aload_n 0, 1) := by decide +kernel
theorem dX3_says_86 : decode cX3_says 86 = .ok (.getfield 21, 3) := by decide +kernel
theorem dX3_says_89 : decode cX3_says 89 = .ok (.iload 4, 2) := by decide +kernel
theorem dX3_says_91 : decode cX3_says 91 = .ok (.iload 6, 2) := by decide +kernel
theorem dX3_says_93 : decode cX3_says 93 = .ok (.ifCond .ne 13, 3) := by decide +kernel
theorem dX3_says_96 : decode cX3_says 96 = .ok (.aload_n 0, 1) := by decide +kernel
theorem dX3_says_97 : decode cX3_says 97 = .ok (.getfield 15, 3) := by decide +kernel
theorem dX3_says_100 : decode cX3_says 100 = .ok (.iload 5, 2) := by decide +kernel
theorem dX3_says_102 : decode cX3_says 102 = .ok (.iaload, 1) := by decide +kernel
theorem dX3_says_103 : decode cX3_says 103 = .ok (.goto 14, 3) := by decide +kernel
theorem dX3_says_106 : decode cX3_says 106 = .ok (.aload_n 2, 1) := by decide +kernel
theorem dX3_says_107 : decode cX3_says 107 = .ok (.aload_n 0, 1) := by decide +kernel
theorem dX3_says_108 : decode cX3_says 108 = .ok (.getfield 15, 3) := by decide +kernel
theorem dX3_says_111 : decode cX3_says 111 = .ok (.iload 5, 2) := by decide +kernel
theorem dX3_says_113 : decode cX3_says 113 = .ok (.iaload, 1) := by decide +kernel
theorem dX3_says_114 : decode cX3_says 114 = .ok (.invokevirtual 37, 3) := by decide +kernel
theorem dX3_says_117 : decode cX3_says 117 = .ok (.iastore, 1) := by decide +kernel
theorem dX3_says_118 : decode cX3_says 118 = .ok (.iinc 4 1, 3) := by decide +kernel
theorem dX3_says_121 : decode cX3_says 121 = .ok (.goto 88, 3) := by decide +kernel
theorem dX3_says_124 : decode cX3_says 124 = .ok (.iload 6, 2) := by decide +kernel
theorem dX3_says_126 : decode cX3_says 126 = .ok (.iconst 2, 1) := by decide +kernel
theorem dX3_says_127 : decode cX3_says 127 = .ok (.if_icmp .eq 9, 3) := by decide +kernel
theorem dX3_says_130 : decode cX3_says 130 = .ok (.iload 6, 2) := by decide +kernel
theorem dX3_says_132 : decode cX3_says 132 = .ok (.iconst 3, 1) := by decide +kernel
theorem dX3_says_133 : decode cX3_says 133 = .ok (.if_icmp .ne 35, 3) := by decide +kernel
theorem dX3_says_136 : decode cX3_says 136 = .ok (.iload 4, 2) := by decide +kernel
theorem dX3_says_138 : decode cX3_says 138 = .ok (.iconst 1, 1) := by decide +kernel
theorem dX3_says_139 : decode cX3_says 139 = .ok (.if_icmp .lt 70, 3) := by decide +kernel
theorem dX3_says_142 : decode cX3_says 142 = .ok (.aload_n 0, 1) := by decide +kernel
theorem dX3_says_143 : decode cX3_says 143 = .ok (.getfield 21, 3) := by decide +kernel
theorem dX3_says_146 : decode cX3_says 146 = .ok (.iload 4, 2) := by decide +kernel
theorem dX3_says_148 : decode cX3_says 148 = .ok (.iconst 1, 1) := by decide +kernel
theorem dX3_says_149 : decode cX3_says 149 = .ok (.isub, 1) := by decide +kernel
theorem dX3_says_150 : decode cX3_says 150 = .ok (.iload 6, 2) := by decide +kernel
theorem dX3_says_152 : decode cX3_says 152 = .ok (.aload_n 0, 1) := by decide +kernel
theorem dX3_says_153 : decode cX3_says 153 = .ok (.getfield 21, 3) := by decide +kernel
theorem dX3_says_156 : decode cX3_says 156 = .ok (.iload 4, 2) := by decide +kernel
theorem dX3_says_158 : decode cX3_says 158 = .ok (.iconst 1, 1) := by decide +kernel
theorem dX3_says_159 : decode cX3_says 159 = .ok (.isub, 1) := by decide +kernel
theorem dX3_says_160 : decode cX3_says 160 = .ok (.iaload, 1) := by decide +kernel
theorem dX3_says_161 : decode cX3_says 161 = .ok (.invokestatic 43, 3) := by decide +kernel
theorem dX3_says_164 : decode cX3_says 164 = .ok (.iastore, 1) := by decide +kernel
theorem dX3_says_165 : decode cX3_says 165 = .ok (.goto 44, 3) := by decide +kernel
theorem dX3_says_168 : decode cX3_says 168 = .ok (.iload 4, 2) := by decide +kernel
theorem dX3_says_170 : decode cX3_says 170 = .ok (.iconst 2, 1) := by decide +kernel
theorem dX3_says_171 : decode cX3_says 171 = .ok (.if_icmp .lt 38, 3) := by decide +kernel
theorem dX3_says_174 : decode cX3_says 174 = .ok (.aload_n 0, 1) := by decide +kernel
theorem dX3_says_175 : decode cX3_says 175 = .ok (.getfield 21, 3) := by decide +kernel
theorem dX3_says_178 : decode cX3_says 178 = .ok (.iload 4, 2) := by decide +kernel
theorem dX3_says_180 : decode cX3_says 180 = .ok (.iconst 2, 1) := by decide +kernel
theorem dX3_says_181 : decode cX3_says 181 = .ok (.isub, 1) := by decide +kernel
theorem dX3_says_182 : decode cX3_says 182 = .ok (.iload 6, 2) := by decide +kernel
theorem dX3_says_184 : decode cX3_says 184 = .ok (.aload_n 0, 1) := by decide +kernel
theorem dX3_says_185 : decode cX3_says 185 = .ok (.getfield 21, 3) := by decide +kernel
theorem dX3_says_188 : decode cX3_says 188 = .ok (.iload 4, 2) := by decide +kernel
theorem dX3_says_190 : decode cX3_says 190 = .ok (.iconst 2, 1) := by decide +kernel
theorem dX3_says_191 : decode cX3_says 191 = .ok (.isub, 1) := by decide +kernel
theorem dX3_says_192 : decode cX3_says 192 = .ok (.iaload, 1) := by decide +kernel
theorem dX3_says_193 : decode cX3_says 193 = .ok (.aload_n 0, 1) := by decide +kernel
theorem dX3_says_194 : decode cX3_says 194 = .ok (.getfield 21, 3) := by decide +kernel
theorem dX3_says_197 : decode cX3_says 197 = .ok (.iload 4, 2) := by decide +kernel
theorem dX3_says_199 : decode cX3_says 199 = .ok (.iconst 1, 1) := by decide +kernel
theorem dX3_says_200 : decode cX3_says 200 = .ok (.isub, 1) := by decide +kernel
theorem dX3_says_201 : decode cX3_says 201 = .ok (.iaload, 1) := by decide +kernel
theorem dX3_says_202 : decode cX3_says 202 = .ok (.invokestatic 46, 3) := by decide +kernel
theorem dX3_says_205 : decode cX3_says 205 = .ok (.iastore, 1) := by decide +kernel
theorem dX3_says_206 : decode cX3_says 206 = .ok (.iinc 4 (-1), 3) := by decide +kernel
theorem dX3_says_209 : decode cX3_says 209 = .ok (.iinc 5 1, 3) := by decide +kernel
theorem dX3_says_212 : decode cX3_says 212 = .ok (.goto (-163), 3) := by decide +kernel
theorem dX3_says_215 : decode cX3_says 215 = .ok (.iload_n 1, 1) := by decide +kernel
theorem dX3_says_216 : decode cX3_says 216 = .ok (.iload 4, 2) := by decide +kernel
theorem dX3_says_218 : decode cX3_says 218 = .ok (.ifCond .le 12, 3) := by decide +kernel
theorem dX3_says_221 : decode cX3_says 221 = .ok (.aload_n 0, 1) := by decide +kernel
theorem dX3_says_222 : decode cX3_says 222 = .ok (.getfield 21, 3) := by decide +kernel
theorem dX3_says_225 : decode cX3_says 225 = .ok (.iconst 0, 1) := by decide +kernel
theorem dX3_says_226 : decode cX3_says 226 = .ok (.iaload, 1) := by decide +kernel
theorem dX3_says_227 : decode cX3_says 227 = .ok (.goto 4, 3) := by decide +kernel
theorem dX3_says_230 : decode cX3_says 230 = .ok (.iconst 0, 1) := by decide +kernel
theorem dX3_says_231 : decode cX3_says 231 = .ok (.invokestatic 50, 3) := by decide +kernel
theorem dX3_says_234 : decode cX3_says 234 = .ok (.ireturn, 1) := by decide +kernel
theorem dX3_within_0 : decode cX3_within 0 = .ok (.iload_n 0, 1) := by decide +kernel
theorem dX3_within_1 : decode cX3_within 1 = .ok (.iconst 1, 1) := by decide +kernel
theorem dX3_within_2 : decode cX3_within 2 = .ok (.if_icmp .ne 8, 3) := by decide +kernel
theorem dX3_within_5 : decode cX3_within 5 = .ok (.bipush (-99), 2) := by decide +kernel
theorem dX3_within_7 : decode cX3_within 7 = .ok (.goto 4, 3) := by decide +kernel
theorem dX3_within_10 : decode cX3_within 10 = .ok (.iconst 0, 1) := by decide +kernel
theorem dX3_within_11 : decode cX3_within 11 = .ok (.istore_n 2, 1) := by decide +kernel
theorem dX3_within_12 : decode cX3_within 12 = .ok (.iload_n 0, 1) := by decide +kernel
theorem dX3_within_13 : decode cX3_within 13 = .ok (.ifCond .ne 8, 3) := by decide +kernel
theorem dX3_within_16 : decode cX3_within 16 = .ok (.bipush 20, 2) := by decide +kernel
theorem dX3_within_18 : decode cX3_within 18 = .ok (.goto 5, 3) := by decide +kernel
theorem dX3_within_21 : decode cX3_within 21 = .ok (.bipush 99, 2) := by decide +kernel
theorem dX3_within_23 : decode cX3_within 23 = .ok (.istore_n 3, 1) := by decide +kernel
theorem dX3_within_24 : decode cX3_within 24 = .ok (.iload_n 2, 1) := by decide +kernel
theorem dX3_within_25 : decode cX3_within 25 = .ok (.iload_n 3, 1) := by decide +kernel
theorem dX3_within_26 : decode cX3_within 26 = .ok (.iload_n 1, 1) := by decide +kernel
theorem dX3_within_27 : decode cX3_within 27 = .ok (.invokestatic 28, 3) := by decide +kernel
theorem dX3_within_30 : decode cX3_within 30 = .ok (.invokestatic 34, 3) := by decide +kernel
theorem dX3_within_33 : decode cX3_within 33 = .ok (.ireturn, 1) := by decide +kernel
theorem dX3_ofOne_0 : decode cX3_ofOne 0 = .ok (.iload_n 0, 1) := by decide +kernel
theorem dX3_ofOne_1 : decode cX3_ofOne 1 = .ok (.iconst 2, 1) := by decide +kernel
theorem dX3_ofOne_2 : decode cX3_ofOne 2 = .ok (.if_icmp .ne 6, 3) := by decide +kernel
theorem dX3_ofOne_5 : decode cX3_ofOne 5 = .ok (.iload_n 1, 1) := by decide +kernel
theorem dX3_ofOne_6 : decode cX3_ofOne 6 = .ok (.ineg, 1) := by decide +kernel
theorem dX3_ofOne_7 : decode cX3_ofOne 7 = .ok (.ireturn, 1) := by decide +kernel
theorem dX3_ofOne_8 : decode cX3_ofOne 8 = .ok (.iload_n 1, 1) := by decide +kernel
theorem dX3_ofOne_9 : decode cX3_ofOne 9 = .ok (.ifCond .ne 7, 3) := by decide +kernel
theorem dX3_ofOne_12 : decode cX3_ofOne 12 = .ok (.iconst 1, 1) := by decide +kernel
theorem dX3_ofOne_13 : decode cX3_ofOne 13 = .ok (.goto 4, 3) := by decide +kernel
theorem dX3_ofOne_16 : decode cX3_ofOne 16 = .ok (.iconst 0, 1) := by decide +kernel
theorem dX3_ofOne_17 : decode cX3_ofOne 17 = .ok (.ireturn, 1) := by decide +kernel
theorem dX3_ofTwo_0 : decode cX3_ofTwo 0 = .ok (.iload_n 0, 1) := by decide +kernel
theorem dX3_ofTwo_1 : decode cX3_ofTwo 1 = .ok (.tableswitch 87 4 9 #[39, 43, 47, 51, 62, 73], 39) := by decide +kernel
theorem dX3_ofTwo_40 : decode cX3_ofTwo 40 = .ok (.iload_n 1, 1) := by decide +kernel
theorem dX3_ofTwo_41 : decode cX3_ofTwo 41 = .ok (.iload_n 2, 1) := by decide +kernel
theorem dX3_ofTwo_42 : decode cX3_ofTwo 42 = .ok (.imul, 1) := by decide +kernel
theorem dX3_ofTwo_43 : decode cX3_ofTwo 43 = .ok (.ireturn, 1) := by decide +kernel
theorem dX3_ofTwo_44 : decode cX3_ofTwo 44 = .ok (.iload_n 1, 1) := by decide +kernel
theorem dX3_ofTwo_45 : decode cX3_ofTwo 45 = .ok (.iload_n 2, 1) := by decide +kernel
theorem dX3_ofTwo_46 : decode cX3_ofTwo 46 = .ok (.iadd, 1) := by decide +kernel
theorem dX3_ofTwo_47 : decode cX3_ofTwo 47 = .ok (.ireturn, 1) := by decide +kernel
theorem dX3_ofTwo_48 : decode cX3_ofTwo 48 = .ok (.iload_n 1, 1) := by decide +kernel
theorem dX3_ofTwo_49 : decode cX3_ofTwo 49 = .ok (.iload_n 2, 1) := by decide +kernel
theorem dX3_ofTwo_50 : decode cX3_ofTwo 50 = .ok (.isub, 1) := by decide +kernel
theorem dX3_ofTwo_51 : decode cX3_ofTwo 51 = .ok (.ireturn, 1) := by decide +kernel
theorem dX3_ofTwo_52 : decode cX3_ofTwo 52 = .ok (.iload_n 1, 1) := by decide +kernel
theorem dX3_ofTwo_53 : decode cX3_ofTwo 53 = .ok (.iload_n 2, 1) := by decide +kernel
theorem dX3_ofTwo_54 : decode cX3_ofTwo 54 = .ok (.if_icmp .ge 7, 3) := by decide +kernel
theorem dX3_ofTwo_57 : decode cX3_ofTwo 57 = .ok (.iconst 1, 1) := by decide +kernel
theorem dX3_ofTwo_58 : decode cX3_ofTwo 58 = .ok (.goto 4, 3) := by decide +kernel
theorem dX3_ofTwo_61 : decode cX3_ofTwo 61 = .ok (.iconst 0, 1) := by decide +kernel
theorem dX3_ofTwo_62 : decode cX3_ofTwo 62 = .ok (.ireturn, 1) := by decide +kernel
theorem dX3_ofTwo_63 : decode cX3_ofTwo 63 = .ok (.iload_n 1, 1) := by decide +kernel
theorem dX3_ofTwo_64 : decode cX3_ofTwo 64 = .ok (.iload_n 2, 1) := by decide +kernel
theorem dX3_ofTwo_65 : decode cX3_ofTwo 65 = .ok (.if_icmp .ne 7, 3) := by decide +kernel
theorem dX3_ofTwo_68 : decode cX3_ofTwo 68 = .ok (.iconst 1, 1) := by decide +kernel
theorem dX3_ofTwo_69 : decode cX3_ofTwo 69 = .ok (.goto 4, 3) := by decide +kernel
theorem dX3_ofTwo_72 : decode cX3_ofTwo 72 = .ok (.iconst 0, 1) := by decide +kernel
theorem dX3_ofTwo_73 : decode cX3_ofTwo 73 = .ok (.ireturn, 1) := by decide +kernel
theorem dX3_ofTwo_74 : decode cX3_ofTwo 74 = .ok (.iload_n 1, 1) := by decide +kernel
theorem dX3_ofTwo_75 : decode cX3_ofTwo 75 = .ok (.ifCond .eq 11, 3) := by decide +kernel
theorem dX3_ofTwo_78 : decode cX3_ofTwo 78 = .ok (.iload_n 2, 1) := by decide +kernel
theorem dX3_ofTwo_79 : decode cX3_ofTwo 79 = .ok (.ifCond .eq 7, 3) := by decide +kernel
theorem dX3_ofTwo_82 : decode cX3_ofTwo 82 = .ok (.iconst 1, 1) := by decide +kernel
theorem dX3_ofTwo_83 : decode cX3_ofTwo 83 = .ok (.goto 4, 3) := by decide +kernel
theorem dX3_ofTwo_86 : decode cX3_ofTwo 86 = .ok (.iconst 0, 1) := by decide +kernel
theorem dX3_ofTwo_87 : decode cX3_ofTwo 87 = .ok (.ireturn, 1) := by decide +kernel
theorem dX3_ofTwo_88 : decode cX3_ofTwo 88 = .ok (.iload_n 1, 1) := by decide +kernel
theorem dX3_ofTwo_89 : decode cX3_ofTwo 89 = .ok (.ifCond .ne 7, 3) := by decide +kernel
theorem dX3_ofTwo_92 : decode cX3_ofTwo 92 = .ok (.iload_n 2, 1) := by decide +kernel
theorem dX3_ofTwo_93 : decode cX3_ofTwo 93 = .ok (.ifCond .eq 7, 3) := by decide +kernel
theorem dX3_ofTwo_96 : decode cX3_ofTwo 96 = .ok (.iconst 1, 1) := by decide +kernel
theorem dX3_ofTwo_97 : decode cX3_ofTwo 97 = .ok (.goto 4, 3) := by decide +kernel
theorem dX3_ofTwo_100 : decode cX3_ofTwo 100 = .ok (.iconst 0, 1) := by decide +kernel
theorem dX3_ofTwo_101 : decode cX3_ofTwo 101 = .ok (.ireturn, 1) := by decide +kernel
theorem dX4_init_0 : decode cX4_init 0 = .ok (.aload_n 0, 1) := by decide +kernel
theorem dX4_init_1 : decode cX4_init 1 = .ok (.invokespecial 3, 3) := by decide +kernel
theorem dX4_init_4 : decode cX4_init 4 = .ok (.aload_n 0, 1) := by decide +kernel
theorem dX4_init_5 : decode cX4_init 5 = .ok (.bipush 6, 2) := by decide +kernel
theorem dX4_init_7 : decode cX4_init 7 = .ok (.anewarray 9, 3) := by decide +kernel
theorem dX4_init_10 : decode cX4_init 10 = .ok (.putfield 11, 3) := by decide +kernel
theorem dX4_init_13 : decode cX4_init 13 = .ok (.iconst 0, 1) := by decide +kernel
theorem dX4_init_14 : decode cX4_init 14 = .ok (.istore_n 1, 1) := by decide +kernel
theorem dX4_init_15 : decode cX4_init 15 = .ok (.iload_n 1, 1) := by decide +kernel
theorem dX4_init_16 : decode cX4_init 16 = .ok (.bipush 6, 2) := by decide +kernel
theorem dX4_init_18 : decode cX4_init 18 = .ok (.if_icmp .ge 22, 3) := by decide +kernel
theorem dX4_init_21 : decode cX4_init 21 = .ok (.aload_n 0, 1) := by decide +kernel
theorem dX4_init_22 : decode cX4_init 22 = .ok (.getfield 11, 3) := by decide +kernel
theorem dX4_init_25 : decode cX4_init 25 = .ok (.iload_n 1, 1) := by decide +kernel
theorem dX4_init_26 : decode cX4_init 26 = .ok (.new 9, 3) := by decide +kernel
theorem dX4_init_29 : decode cX4_init 29 = .ok (.dup, 1) := by decide +kernel
theorem dX4_init_30 : decode cX4_init 30 = .ok (.invokespecial 17, 3) := by decide +kernel
theorem dX4_init_33 : decode cX4_init 33 = .ok (.aastore, 1) := by decide +kernel
theorem dX4_init_34 : decode cX4_init 34 = .ok (.iinc 1 1, 3) := by decide +kernel
theorem dX4_init_37 : decode cX4_init 37 = .ok (.goto (-22), 3) := by decide +kernel
theorem dX4_init_40 : decode cX4_init 40 = .ok (.return_, 1) := by decide +kernel
theorem dX4_becomeAs_0 : decode cX4_becomeAs 0 = .ok (.aload_n 0, 1) := by decide +kernel
theorem dX4_becomeAs_1 : decode cX4_becomeAs 1 = .ok (.aload_n 1, 1) := by decide +kernel
theorem dX4_becomeAs_2 : decode cX4_becomeAs 2 = .ok (.getfield 18, 3) := by decide +kernel
theorem dX4_becomeAs_5 : decode cX4_becomeAs 5 = .ok (.putfield 18, 3) := by decide +kernel
theorem dX4_becomeAs_8 : decode cX4_becomeAs 8 = .ok (.aload_n 0, 1) := by decide +kernel
theorem dX4_becomeAs_9 : decode cX4_becomeAs 9 = .ok (.aload_n 1, 1) := by decide +kernel
theorem dX4_becomeAs_10 : decode cX4_becomeAs 10 = .ok (.getfield 22, 3) := by decide +kernel
theorem dX4_becomeAs_13 : decode cX4_becomeAs 13 = .ok (.putfield 22, 3) := by decide +kernel
theorem dX4_becomeAs_16 : decode cX4_becomeAs 16 = .ok (.aload_n 0, 1) := by decide +kernel
theorem dX4_becomeAs_17 : decode cX4_becomeAs 17 = .ok (.aload_n 1, 1) := by decide +kernel
theorem dX4_becomeAs_18 : decode cX4_becomeAs 18 = .ok (.getfield 26, 3) := by decide +kernel
theorem dX4_becomeAs_21 : decode cX4_becomeAs 21 = .ok (.putfield 26, 3) := by decide +kernel
theorem dX4_becomeAs_24 : decode cX4_becomeAs 24 = .ok (.aload_n 0, 1) := by decide +kernel
theorem dX4_becomeAs_25 : decode cX4_becomeAs 25 = .ok (.aload_n 1, 1) := by decide +kernel
theorem dX4_becomeAs_26 : decode cX4_becomeAs 26 = .ok (.getfield 29, 3) := by decide +kernel
theorem dX4_becomeAs_29 : decode cX4_becomeAs 29 = .ok (.putfield 29, 3) := by decide +kernel
theorem dX4_becomeAs_32 : decode cX4_becomeAs 32 = .ok (.iconst 0, 1) := by decide +kernel
theorem dX4_becomeAs_33 : decode cX4_becomeAs 33 = .ok (.istore_n 2, 1) := by decide +kernel
theorem dX4_becomeAs_34 : decode cX4_becomeAs 34 = .ok (.iload_n 2, 1) := by decide +kernel
theorem dX4_becomeAs_35 : decode cX4_becomeAs 35 = .ok (.aload_n 0, 1) := by decide +kernel
theorem dX4_becomeAs_36 : decode cX4_becomeAs 36 = .ok (.getfield 29, 3) := by decide +kernel
theorem dX4_becomeAs_39 : decode cX4_becomeAs 39 = .ok (.if_icmp .ge 30, 3) := by decide +kernel
theorem dX4_becomeAs_42 : decode cX4_becomeAs 42 = .ok (.iload_n 2, 1) := by decide +kernel
theorem dX4_becomeAs_43 : decode cX4_becomeAs 43 = .ok (.bipush 6, 2) := by decide +kernel
theorem dX4_becomeAs_45 : decode cX4_becomeAs 45 = .ok (.if_icmp .ge 24, 3) := by decide +kernel
theorem dX4_becomeAs_48 : decode cX4_becomeAs 48 = .ok (.aload_n 0, 1) := by decide +kernel
theorem dX4_becomeAs_49 : decode cX4_becomeAs 49 = .ok (.getfield 11, 3) := by decide +kernel
theorem dX4_becomeAs_52 : decode cX4_becomeAs 52 = .ok (.iload_n 2, 1) := by decide +kernel
theorem dX4_becomeAs_53 : decode cX4_becomeAs 53 = .ok (.aaload, 1) := by decide +kernel
theorem dX4_becomeAs_54 : decode cX4_becomeAs 54 = .ok (.aload_n 1, 1) := by decide +kernel
theorem dX4_becomeAs_55 : decode cX4_becomeAs 55 = .ok (.getfield 11, 3) := by decide +kernel
theorem dX4_becomeAs_58 : decode cX4_becomeAs 58 = .ok (.iload_n 2, 1) := by decide +kernel
theorem dX4_becomeAs_59 : decode cX4_becomeAs 59 = .ok (.aaload, 1) := by decide +kernel
theorem dX4_becomeAs_60 : decode cX4_becomeAs 60 = .ok (.invokevirtual 32, 3) := by decide +kernel
theorem dX4_becomeAs_63 : decode cX4_becomeAs 63 = .ok (.iinc 2 1, 3) := by decide +kernel
theorem dX4_becomeAs_66 : decode cX4_becomeAs 66 = .ok (.goto (-32), 3) := by decide +kernel
theorem dX4_becomeAs_69 : decode cX4_becomeAs 69 = .ok (.return_, 1) := by decide +kernel
theorem dX4_numbered_0 : decode cX4_numbered 0 = .ok (.iload_n 1, 1) := by decide +kernel
theorem dX4_numbered_1 : decode cX4_numbered 1 = .ok (.ifCond .lt 26, 3) := by decide +kernel
theorem dX4_numbered_4 : decode cX4_numbered 4 = .ok (.iload_n 1, 1) := by decide +kernel
theorem dX4_numbered_5 : decode cX4_numbered 5 = .ok (.aload_n 0, 1) := by decide +kernel
theorem dX4_numbered_6 : decode cX4_numbered 6 = .ok (.getfield 29, 3) := by decide +kernel
theorem dX4_numbered_9 : decode cX4_numbered 9 = .ok (.if_icmp .ge 18, 3) := by decide +kernel
theorem dX4_numbered_12 : decode cX4_numbered 12 = .ok (.iload_n 1, 1) := by decide +kernel
theorem dX4_numbered_13 : decode cX4_numbered 13 = .ok (.bipush 6, 2) := by decide +kernel
theorem dX4_numbered_15 : decode cX4_numbered 15 = .ok (.if_icmp .ge 12, 3) := by decide +kernel
theorem dX4_numbered_18 : decode cX4_numbered 18 = .ok (.aload_n 0, 1) := by decide +kernel
theorem dX4_numbered_19 : decode cX4_numbered 19 = .ok (.getfield 11, 3) := by decide +kernel
theorem dX4_numbered_22 : decode cX4_numbered 22 = .ok (.iload_n 1, 1) := by decide +kernel
theorem dX4_numbered_23 : decode cX4_numbered 23 = .ok (.aaload, 1) := by decide +kernel
theorem dX4_numbered_24 : decode cX4_numbered 24 = .ok (.goto 4, 3) := by decide +kernel
theorem dX4_numbered_27 : decode cX4_numbered 27 = .ok (.aconst_null, 1) := by decide +kernel
theorem dX4_numbered_28 : decode cX4_numbered 28 = .ok (.areturn, 1) := by decide +kernel
theorem dX4_add_0 : decode cX4_add 0 = .ok (.aload_n 0, 1) := by decide +kernel
theorem dX4_add_1 : decode cX4_add 1 = .ok (.getfield 29, 3) := by decide +kernel
theorem dX4_add_4 : decode cX4_add 4 = .ok (.ifCond .lt 12, 3) := by decide +kernel
theorem dX4_add_7 : decode cX4_add 7 = .ok (.aload_n 0, 1) := by decide +kernel
theorem dX4_add_8 : decode cX4_add 8 = .ok (.getfield 29, 3) := by decide +kernel
theorem dX4_add_11 : decode cX4_add 11 = .ok (.bipush 6, 2) := by decide +kernel
theorem dX4_add_13 : decode cX4_add 13 = .ok (.if_icmp .lt 6, 3) := by decide +kernel
theorem dX4_add_16 : decode cX4_add 16 = .ok (.bipush (-4), 2) := by decide +kernel
theorem dX4_add_18 : decode cX4_add 18 = .ok (.ireturn, 1) := by decide +kernel
theorem dX4_add_19 : decode cX4_add 19 = .ok (.aload_n 0, 1) := by decide +kernel
theorem dX4_add_20 : decode cX4_add 20 = .ok (.getfield 11, 3) := by decide +kernel
theorem dX4_add_23 : decode cX4_add 23 = .ok (.aload_n 0, 1) := by decide +kernel
theorem dX4_add_24 : decode cX4_add 24 = .ok (.getfield 29, 3) := by decide +kernel
theorem dX4_add_27 : decode cX4_add 27 = .ok (.aaload, 1) := by decide +kernel
theorem dX4_add_28 : decode cX4_add 28 = .ok (.iload_n 1, 1) := by decide +kernel
theorem dX4_add_29 : decode cX4_add 29 = .ok (.iload_n 2, 1) := by decide +kernel
theorem dX4_add_30 : decode cX4_add 30 = .ok (.invokevirtual 36, 3) := by decide +kernel
theorem dX4_add_33 : decode cX4_add 33 = .ok (.aload_n 0, 1) := by decide +kernel
theorem dX4_add_34 : decode cX4_add 34 = .ok (.dup, 1) := by decide +kernel
theorem dX4_add_35 : decode cX4_add 35 = .ok (.getfield 29, 3) := by decide +kernel
theorem dX4_add_38 : decode cX4_add 38 = .ok (.iconst 1, 1) := by decide +kernel
theorem dX4_add_39 : decode cX4_add 39 = .ok (.iadd, 1) := by decide +kernel
theorem dX4_add_40 : decode cX4_add 40 = .ok (.putfield 29, 3) := by decide +kernel
theorem dX4_add_43 : decode cX4_add 43 = .ok (.aload_n 0, 1) := by decide +kernel
theorem dX4_add_44 : decode cX4_add 44 = .ok (.getfield 29, 3) := by decide +kernel
theorem dX4_add_47 : decode cX4_add 47 = .ok (.iconst 1, 1) := by decide +kernel
theorem dX4_add_48 : decode cX4_add 48 = .ok (.isub, 1) := by decide +kernel
theorem dX4_add_49 : decode cX4_add 49 = .ok (.ireturn, 1) := by decide +kernel
theorem dX4_pass_0 : decode cX4_pass 0 = .ok (.iconst 0, 1) := by decide +kernel
theorem dX4_pass_1 : decode cX4_pass 1 = .ok (.istore_n 2, 1) := by decide +kernel
theorem dX4_pass_2 : decode cX4_pass 2 = .ok (.iconst 0, 1) := by decide +kernel
theorem dX4_pass_3 : decode cX4_pass 3 = .ok (.istore_n 3, 1) := by decide +kernel
theorem dX4_pass_4 : decode cX4_pass 4 = .ok (.iload_n 3, 1) := by decide +kernel
theorem dX4_pass_5 : decode cX4_pass 5 = .ok (.aload_n 0, 1) := by decide +kernel
theorem dX4_pass_6 : decode cX4_pass 6 = .ok (.getfield 29, 3) := by decide +kernel
theorem dX4_pass_9 : decode cX4_pass 9 = .ok (.if_icmp .ge 36, 3) := by decide +kernel
theorem dX4_pass_12 : decode cX4_pass 12 = .ok (.iload_n 3, 1) := by decide +kernel
theorem dX4_pass_13 : decode cX4_pass 13 = .ok (.bipush 6, 2) := by decide +kernel
theorem dX4_pass_15 : decode cX4_pass 15 = .ok (.if_icmp .ge 30, 3) := by decide +kernel
theorem dX4_pass_18 : decode cX4_pass 18 = .ok (.iload_n 2, 1) := by decide +kernel
theorem dX4_pass_19 : decode cX4_pass 19 = .ok (.aload_n 0, 1) := by decide +kernel
theorem dX4_pass_20 : decode cX4_pass 20 = .ok (.getfield 11, 3) := by decide +kernel
theorem dX4_pass_23 : decode cX4_pass 23 = .ok (.iload_n 3, 1) := by decide +kernel
theorem dX4_pass_24 : decode cX4_pass 24 = .ok (.aaload, 1) := by decide +kernel
theorem dX4_pass_25 : decode cX4_pass 25 = .ok (.aload_n 1, 1) := by decide +kernel
theorem dX4_pass_26 : decode cX4_pass 26 = .ok (.aload_n 0, 1) := by decide +kernel
theorem dX4_pass_27 : decode cX4_pass 27 = .ok (.getfield 22, 3) := by decide +kernel
theorem dX4_pass_30 : decode cX4_pass 30 = .ok (.aload_n 0, 1) := by decide +kernel
theorem dX4_pass_31 : decode cX4_pass 31 = .ok (.getfield 18, 3) := by decide +kernel
theorem dX4_pass_34 : decode cX4_pass 34 = .ok (.invokevirtual 40, 3) := by decide +kernel
theorem dX4_pass_37 : decode cX4_pass 37 = .ok (.iadd, 1) := by decide +kernel
theorem dX4_pass_38 : decode cX4_pass 38 = .ok (.istore_n 2, 1) := by decide +kernel
theorem dX4_pass_39 : decode cX4_pass 39 = .ok (.iinc 3 1, 3) := by decide +kernel
theorem dX4_pass_42 : decode cX4_pass 42 = .ok (.goto (-38), 3) := by decide +kernel
theorem dX4_pass_45 : decode cX4_pass 45 = .ok (.aload_n 0, 1) := by decide +kernel
theorem dX4_pass_46 : decode cX4_pass 46 = .ok (.dup, 1) := by decide +kernel
theorem dX4_pass_47 : decode cX4_pass 47 = .ok (.getfield 22, 3) := by decide +kernel
theorem dX4_pass_50 : decode cX4_pass 50 = .ok (.iconst 1, 1) := by decide +kernel
theorem dX4_pass_51 : decode cX4_pass 51 = .ok (.iadd, 1) := by decide +kernel
theorem dX4_pass_52 : decode cX4_pass 52 = .ok (.putfield 22, 3) := by decide +kernel
theorem dX4_pass_55 : decode cX4_pass 55 = .ok (.iload_n 2, 1) := by decide +kernel
theorem dX4_pass_56 : decode cX4_pass 56 = .ok (.ireturn, 1) := by decide +kernel
theorem dX4_mindsOfAll_0 : decode cX4_mindsOfAll 0 = .ok (.iconst 0, 1) := by decide +kernel
theorem dX4_mindsOfAll_1 : decode cX4_mindsOfAll 1 = .ok (.istore_n 2, 1) := by decide +kernel
theorem dX4_mindsOfAll_2 : decode cX4_mindsOfAll 2 = .ok (.iconst 0, 1) := by decide +kernel
theorem dX4_mindsOfAll_3 : decode cX4_mindsOfAll 3 = .ok (.istore_n 3, 1) := by decide +kernel
theorem dX4_mindsOfAll_4 : decode cX4_mindsOfAll 4 = .ok (.iload_n 3, 1) := by decide +kernel
theorem dX4_mindsOfAll_5 : decode cX4_mindsOfAll 5 = .ok (.aload_n 0, 1) := by decide +kernel
theorem dX4_mindsOfAll_6 : decode cX4_mindsOfAll 6 = .ok (.getfield 29, 3) := by decide +kernel
theorem dX4_mindsOfAll_9 : decode cX4_mindsOfAll 9 = .ok (.if_icmp .ge 28, 3) := by decide +kernel
theorem dX4_mindsOfAll_12 : decode cX4_mindsOfAll 12 = .ok (.iload_n 3, 1) := by decide +kernel
theorem dX4_mindsOfAll_13 : decode cX4_mindsOfAll 13 = .ok (.bipush 6, 2) := by decide +kernel
theorem dX4_mindsOfAll_15 : decode cX4_mindsOfAll 15 = .ok (.if_icmp .ge 22, 3) := by decide +kernel
theorem dX4_mindsOfAll_18 : decode cX4_mindsOfAll 18 = .ok (.iload_n 2, 1) := by decide +kernel
theorem dX4_mindsOfAll_19 : decode cX4_mindsOfAll 19 = .ok (.aload_n 0, 1) := by decide +kernel
theorem dX4_mindsOfAll_20 : decode cX4_mindsOfAll 20 = .ok (.getfield 11, 3) := by decide +kernel
theorem dX4_mindsOfAll_23 : decode cX4_mindsOfAll 23 = .ok (.iload_n 3, 1) := by decide +kernel
theorem dX4_mindsOfAll_24 : decode cX4_mindsOfAll 24 = .ok (.aaload, 1) := by decide +kernel
theorem dX4_mindsOfAll_25 : decode cX4_mindsOfAll 25 = .ok (.aload_n 1, 1) := by decide +kernel
theorem dX4_mindsOfAll_26 : decode cX4_mindsOfAll 26 = .ok (.invokevirtual 44, 3) := by decide +kernel
theorem dX4_mindsOfAll_29 : decode cX4_mindsOfAll 29 = .ok (.iadd, 1) := by decide +kernel
theorem dX4_mindsOfAll_30 : decode cX4_mindsOfAll 30 = .ok (.istore_n 2, 1) := by decide +kernel
theorem dX4_mindsOfAll_31 : decode cX4_mindsOfAll 31 = .ok (.iinc 3 1, 3) := by decide +kernel
theorem dX4_mindsOfAll_34 : decode cX4_mindsOfAll 34 = .ok (.goto (-30), 3) := by decide +kernel
theorem dX4_mindsOfAll_37 : decode cX4_mindsOfAll 37 = .ok (.iload_n 2, 1) := by decide +kernel
theorem dX4_mindsOfAll_38 : decode cX4_mindsOfAll 38 = .ok (.ireturn, 1) := by decide +kernel
theorem dX4_twos_0 : decode cX4_twos 0 = .ok (.iconst 0, 1) := by decide +kernel
theorem dX4_twos_1 : decode cX4_twos 1 = .ok (.istore_n 1, 1) := by decide +kernel
theorem dX4_twos_2 : decode cX4_twos 2 = .ok (.iconst 0, 1) := by decide +kernel
theorem dX4_twos_3 : decode cX4_twos 3 = .ok (.istore_n 2, 1) := by decide +kernel
theorem dX4_twos_4 : decode cX4_twos 4 = .ok (.iload_n 2, 1) := by decide +kernel
theorem dX4_twos_5 : decode cX4_twos 5 = .ok (.aload_n 0, 1) := by decide +kernel
theorem dX4_twos_6 : decode cX4_twos 6 = .ok (.getfield 29, 3) := by decide +kernel
theorem dX4_twos_9 : decode cX4_twos 9 = .ok (.if_icmp .ge 52, 3) := by decide +kernel
theorem dX4_twos_12 : decode cX4_twos 12 = .ok (.iload_n 2, 1) := by decide +kernel
theorem dX4_twos_13 : decode cX4_twos 13 = .ok (.bipush 6, 2) := by decide +kernel
theorem dX4_twos_15 : decode cX4_twos 15 = .ok (.if_icmp .ge 46, 3) := by decide +kernel
theorem dX4_twos_18 : decode cX4_twos 18 = .ok (.iconst 0, 1) := by decide +kernel
theorem dX4_twos_19 : decode cX4_twos 19 = .ok (.istore_n 3, 1) := by decide +kernel
theorem dX4_twos_20 : decode cX4_twos 20 = .ok (.iload_n 3, 1) := by decide +kernel
theorem dX4_twos_21 : decode cX4_twos 21 = .ok (.iload_n 2, 1) := by decide +kernel
theorem dX4_twos_22 : decode cX4_twos 22 = .ok (.if_icmp .ge 33, 3) := by decide +kernel
theorem dX4_twos_25 : decode cX4_twos 25 = .ok (.aload_n 0, 1) := by decide +kernel
theorem dX4_twos_26 : decode cX4_twos 26 = .ok (.getfield 11, 3) := by decide +kernel
theorem dX4_twos_29 : decode cX4_twos 29 = .ok (.iload_n 2, 1) := by decide +kernel
theorem dX4_twos_30 : decode cX4_twos 30 = .ok (.aaload, 1) := by decide +kernel
theorem dX4_twos_31 : decode cX4_twos 31 = .ok (.getfield 48, 3) := by decide +kernel
theorem dX4_twos_34 : decode cX4_twos 34 = .ok (.aload_n 0, 1) := by decide +kernel
theorem dX4_twos_35 : decode cX4_twos 35 = .ok (.getfield 11, 3) := by decide +kernel
theorem dX4_twos_38 : decode cX4_twos 38 = .ok (.iload_n 3, 1) := by decide +kernel
theorem dX4_twos_39 : decode cX4_twos 39 = .ok (.aaload, 1) := by decide +kernel
theorem dX4_twos_40 : decode cX4_twos 40 = .ok (.getfield 48, 3) := by decide +kernel
theorem dX4_twos_43 : decode cX4_twos 43 = .ok (.if_icmp .ne 6, 3) := by decide +kernel
theorem dX4_twos_46 : decode cX4_twos 46 = .ok (.iinc 1 1, 3) := by decide +kernel
theorem dX4_twos_49 : decode cX4_twos 49 = .ok (.iinc 3 1, 3) := by decide +kernel
theorem dX4_twos_52 : decode cX4_twos 52 = .ok (.goto (-32), 3) := by decide +kernel
theorem dX4_twos_55 : decode cX4_twos 55 = .ok (.iinc 2 1, 3) := by decide +kernel
theorem dX4_twos_58 : decode cX4_twos 58 = .ok (.goto (-54), 3) := by decide +kernel
theorem dX4_twos_61 : decode cX4_twos 61 = .ok (.iload_n 1, 1) := by decide +kernel
theorem dX4_twos_62 : decode cX4_twos 62 = .ok (.ireturn, 1) := by decide +kernel
