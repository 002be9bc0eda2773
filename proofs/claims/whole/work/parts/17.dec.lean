theorem dX8_worst_0 : decode cX8_worst 0 = .ok (.aload_n 0, 1) := by decide +kernel
theorem dX8_worst_1 : decode cX8_worst 1 = .ok (.iload_n 1, 1) := by decide +kernel
theorem dX8_worst_2 : decode cX8_worst 2 = .ok (.invokevirtual 144, 3) := by decide +kernel
theorem dX8_worst_5 : decode cX8_worst 5 = .ok (.ifCond .eq 18, 3) := by decide +kernel
theorem dX8_worst_8 : decode cX8_worst 8 = .ok (.aload_n 0, 1) := by decide +kernel
theorem dX8_worst_9 : decode cX8_worst 9 = .ok (.iload_n 2, 1) := by decide +kernel
theorem dX8_worst_10 : decode cX8_worst 10 = .ok (.invokevirtual 200, 3) := by decide +kernel
theorem dX8_worst_13 : decode cX8_worst 13 = .ok (.ifCond .eq 10, 3) := by decide +kernel
theorem dX8_worst_16 : decode cX8_worst 16 = .ok (.aload_n 0, 1) := by decide +kernel
theorem dX8_worst_17 : decode cX8_worst 17 = .ok (.invokevirtual 151, 3) := by decide +kernel
theorem dX8_worst_20 : decode cX8_worst 20 = .ok (.ifCond .ne 7, 3) := by decide +kernel
theorem dX8_worst_23 : decode cX8_worst 23 = .ok (.ldc2_w 203, 3) := by decide +kernel
theorem dX8_worst_26 : decode cX8_worst 26 = .ok (.lreturn, 1) := by decide +kernel
theorem dX8_worst_27 : decode cX8_worst 27 = .ok (.aload_n 0, 1) := by decide +kernel
theorem dX8_worst_28 : decode cX8_worst 28 = .ok (.iload_n 1, 1) := by decide +kernel
theorem dX8_worst_29 : decode cX8_worst 29 = .ok (.iload_n 2, 1) := by decide +kernel
theorem dX8_worst_30 : decode cX8_worst 30 = .ok (.invokevirtual 218, 3) := by decide +kernel
theorem dX8_worst_33 : decode cX8_worst 33 = .ok (.iconst 0, 1) := by decide +kernel
theorem dX8_worst_34 : decode cX8_worst 34 = .ok (.istore_n 3, 1) := by decide +kernel
theorem dX8_worst_35 : decode cX8_worst 35 = .ok (.lconst 0, 1) := by decide +kernel
theorem dX8_worst_36 : decode cX8_worst 36 = .ok (.lstore 4, 2) := by decide +kernel
theorem dX8_worst_38 : decode cX8_worst 38 = .ok (.iload_n 1, 1) := by decide +kernel
theorem dX8_worst_39 : decode cX8_worst 39 = .ok (.istore 6, 2) := by decide +kernel
theorem dX8_worst_41 : decode cX8_worst 41 = .ok (.iload 6, 2) := by decide +kernel
theorem dX8_worst_43 : decode cX8_worst 43 = .ok (.aload_n 0, 1) := by decide +kernel
theorem dX8_worst_44 : decode cX8_worst 44 = .ok (.getfield 41, 3) := by decide +kernel
theorem dX8_worst_47 : decode cX8_worst 47 = .ok (.if_icmp .ge 83, 3) := by decide +kernel
theorem dX8_worst_50 : decode cX8_worst 50 = .ok (.aload_n 0, 1) := by decide +kernel
theorem dX8_worst_51 : decode cX8_worst 51 = .ok (.getfield 83, 3) := by decide +kernel
theorem dX8_worst_54 : decode cX8_worst 54 = .ok (.iload 6, 2) := by decide +kernel
theorem dX8_worst_56 : decode cX8_worst 56 = .ok (.baload, 1) := by decide +kernel
theorem dX8_worst_57 : decode cX8_worst 57 = .ok (.ifCond .eq 67, 3) := by decide +kernel
theorem dX8_worst_60 : decode cX8_worst 60 = .ok (.aload_n 0, 1) := by decide +kernel
theorem dX8_worst_61 : decode cX8_worst 61 = .ok (.getfield 50, 3) := by decide +kernel
theorem dX8_worst_64 : decode cX8_worst 64 = .ok (.iload 6, 2) := by decide +kernel
theorem dX8_worst_66 : decode cX8_worst 66 = .ok (.iaload, 1) := by decide +kernel
theorem dX8_worst_67 : decode cX8_worst 67 = .ok (.aload_n 0, 1) := by decide +kernel
theorem dX8_worst_68 : decode cX8_worst 68 = .ok (.getfield 32, 3) := by decide +kernel
theorem dX8_worst_71 : decode cX8_worst 71 = .ok (.iconst 1, 1) := by decide +kernel
theorem dX8_worst_72 : decode cX8_worst 72 = .ok (.isub, 1) := by decide +kernel
theorem dX8_worst_73 : decode cX8_worst 73 = .ok (.if_icmp .ge 6, 3) := by decide +kernel
theorem dX8_worst_76 : decode cX8_worst 76 = .ok (.goto 48, 3) := by decide +kernel
theorem dX8_worst_79 : decode cX8_worst 79 = .ok (.aload_n 0, 1) := by decide +kernel
theorem dX8_worst_80 : decode cX8_worst 80 = .ok (.getfield 89, 3) := by decide +kernel
theorem dX8_worst_83 : decode cX8_worst 83 = .ok (.iload 6, 2) := by decide +kernel
theorem dX8_worst_85 : decode cX8_worst 85 = .ok (.iaload, 1) := by decide +kernel
theorem dX8_worst_86 : decode cX8_worst 86 = .ok (.aload_n 0, 1) := by decide +kernel
theorem dX8_worst_87 : decode cX8_worst 87 = .ok (.aload_n 0, 1) := by decide +kernel
theorem dX8_worst_88 : decode cX8_worst 88 = .ok (.getfield 86, 3) := by decide +kernel
theorem dX8_worst_91 : decode cX8_worst 91 = .ok (.iload 6, 2) := by decide +kernel
theorem dX8_worst_93 : decode cX8_worst 93 = .ok (.iaload, 1) := by decide +kernel
theorem dX8_worst_94 : decode cX8_worst 94 = .ok (.invokevirtual 184, 3) := by decide +kernel
theorem dX8_worst_97 : decode cX8_worst 97 = .ok (.iadd, 1) := by decide +kernel
theorem dX8_worst_98 : decode cX8_worst 98 = .ok (.i2l, 1) := by decide +kernel
theorem dX8_worst_99 : decode cX8_worst 99 = .ok (.lstore 7, 2) := by decide +kernel
theorem dX8_worst_101 : decode cX8_worst 101 = .ok (.iload_n 3, 1) := by decide +kernel
theorem dX8_worst_102 : decode cX8_worst 102 = .ok (.ifCond .eq 16, 3) := by decide +kernel
theorem dX8_worst_105 : decode cX8_worst 105 = .ok (.lload 4, 2) := by decide +kernel
theorem dX8_worst_107 : decode cX8_worst 107 = .ok (.lload 7, 2) := by decide +kernel
theorem dX8_worst_109 : decode cX8_worst 109 = .ok (.lcmp, 1) := by decide +kernel
theorem dX8_worst_110 : decode cX8_worst 110 = .ok (.ifCond .ge 8, 3) := by decide +kernel
theorem dX8_worst_113 : decode cX8_worst 113 = .ok (.lload 4, 2) := by decide +kernel
theorem dX8_worst_115 : decode cX8_worst 115 = .ok (.goto 5, 3) := by decide +kernel
theorem dX8_worst_118 : decode cX8_worst 118 = .ok (.lload 7, 2) := by decide +kernel
theorem dX8_worst_120 : decode cX8_worst 120 = .ok (.lstore 4, 2) := by decide +kernel
theorem dX8_worst_122 : decode cX8_worst 122 = .ok (.iconst 1, 1) := by decide +kernel
theorem dX8_worst_123 : decode cX8_worst 123 = .ok (.istore_n 3, 1) := by decide +kernel
theorem dX8_worst_124 : decode cX8_worst 124 = .ok (.iinc 6 1, 3) := by decide +kernel
theorem dX8_worst_127 : decode cX8_worst 127 = .ok (.goto (-86), 3) := by decide +kernel
theorem dX8_worst_130 : decode cX8_worst 130 = .ok (.lload 4, 2) := by decide +kernel
theorem dX8_worst_132 : decode cX8_worst 132 = .ok (.lreturn, 1) := by decide +kernel
theorem dX8_lack_0 : decode cX8_lack 0 = .ok (.aload_n 0, 1) := by decide +kernel
theorem dX8_lack_1 : decode cX8_lack 1 = .ok (.iload_n 1, 1) := by decide +kernel
theorem dX8_lack_2 : decode cX8_lack 2 = .ok (.invokevirtual 144, 3) := by decide +kernel
theorem dX8_lack_5 : decode cX8_lack 5 = .ok (.ifCond .eq 11, 3) := by decide +kernel
theorem dX8_lack_8 : decode cX8_lack 8 = .ok (.aload_n 0, 1) := by decide +kernel
theorem dX8_lack_9 : decode cX8_lack 9 = .ok (.iload_n 2, 1) := by decide +kernel
theorem dX8_lack_10 : decode cX8_lack 10 = .ok (.invokevirtual 200, 3) := by decide +kernel
theorem dX8_lack_13 : decode cX8_lack 13 = .ok (.ifCond .ne 5, 3) := by decide +kernel
theorem dX8_lack_16 : decode cX8_lack 16 = .ok (.iconst (-1), 1) := by decide +kernel
theorem dX8_lack_17 : decode cX8_lack 17 = .ok (.ireturn, 1) := by decide +kernel
theorem dX8_lack_18 : decode cX8_lack 18 = .ok (.aload_n 0, 1) := by decide +kernel
theorem dX8_lack_19 : decode cX8_lack 19 = .ok (.invokevirtual 151, 3) := by decide +kernel
theorem dX8_lack_22 : decode cX8_lack 22 = .ok (.ifCond .ne 6, 3) := by decide +kernel
theorem dX8_lack_25 : decode cX8_lack 25 = .ok (.bipush (-3), 2) := by decide +kernel
theorem dX8_lack_27 : decode cX8_lack 27 = .ok (.ireturn, 1) := by decide +kernel
theorem dX8_lack_28 : decode cX8_lack 28 = .ok (.aload_n 0, 1) := by decide +kernel
theorem dX8_lack_29 : decode cX8_lack 29 = .ok (.iload_n 1, 1) := by decide +kernel
theorem dX8_lack_30 : decode cX8_lack 30 = .ok (.iload_n 2, 1) := by decide +kernel
theorem dX8_lack_31 : decode cX8_lack 31 = .ok (.invokevirtual 218, 3) := by decide +kernel
theorem dX8_lack_34 : decode cX8_lack 34 = .ok (.iconst 0, 1) := by decide +kernel
theorem dX8_lack_35 : decode cX8_lack 35 = .ok (.istore_n 3, 1) := by decide +kernel
theorem dX8_lack_36 : decode cX8_lack 36 = .ok (.iload_n 1, 1) := by decide +kernel
theorem dX8_lack_37 : decode cX8_lack 37 = .ok (.istore 4, 2) := by decide +kernel
theorem dX8_lack_39 : decode cX8_lack 39 = .ok (.iload 4, 2) := by decide +kernel
theorem dX8_lack_41 : decode cX8_lack 41 = .ok (.aload_n 0, 1) := by decide +kernel
theorem dX8_lack_42 : decode cX8_lack 42 = .ok (.getfield 41, 3) := by decide +kernel
theorem dX8_lack_45 : decode cX8_lack 45 = .ok (.if_icmp .ge 53, 3) := by decide +kernel
theorem dX8_lack_48 : decode cX8_lack 48 = .ok (.iload_n 3, 1) := by decide +kernel
theorem dX8_lack_49 : decode cX8_lack 49 = .ok (.aload_n 0, 1) := by decide +kernel
theorem dX8_lack_50 : decode cX8_lack 50 = .ok (.getfield 83, 3) := by decide +kernel
theorem dX8_lack_53 : decode cX8_lack 53 = .ok (.iload 4, 2) := by decide +kernel
theorem dX8_lack_55 : decode cX8_lack 55 = .ok (.baload, 1) := by decide +kernel
theorem dX8_lack_56 : decode cX8_lack 56 = .ok (.ifCond .eq 33, 3) := by decide +kernel
theorem dX8_lack_59 : decode cX8_lack 59 = .ok (.aload_n 0, 1) := by decide +kernel
theorem dX8_lack_60 : decode cX8_lack 60 = .ok (.getfield 50, 3) := by decide +kernel
theorem dX8_lack_63 : decode cX8_lack 63 = .ok (.iload 4, 2) := by decide +kernel
theorem dX8_lack_65 : decode cX8_lack 65 = .ok (.iaload, 1) := by decide +kernel
theorem dX8_lack_66 : decode cX8_lack 66 = .ok (.aload_n 0, 1) := by decide +kernel
theorem dX8_lack_67 : decode cX8_lack 67 = .ok (.getfield 32, 3) := by decide +kernel
theorem dX8_lack_70 : decode cX8_lack 70 = .ok (.iconst 1, 1) := by decide +kernel
theorem dX8_lack_71 : decode cX8_lack 71 = .ok (.isub, 1) := by decide +kernel
theorem dX8_lack_72 : decode cX8_lack 72 = .ok (.if_icmp .ne 17, 3) := by decide +kernel
theorem dX8_lack_75 : decode cX8_lack 75 = .ok (.aload_n 0, 1) := by decide +kernel
theorem dX8_lack_76 : decode cX8_lack 76 = .ok (.getfield 92, 3) := by decide +kernel
theorem dX8_lack_79 : decode cX8_lack 79 = .ok (.iload 4, 2) := by decide +kernel
theorem dX8_lack_81 : decode cX8_lack 81 = .ok (.baload, 1) := by decide +kernel
theorem dX8_lack_82 : decode cX8_lack 82 = .ok (.ifCond .eq 7, 3) := by decide +kernel
theorem dX8_lack_85 : decode cX8_lack 85 = .ok (.iconst 1, 1) := by decide +kernel
theorem dX8_lack_86 : decode cX8_lack 86 = .ok (.goto 4, 3) := by decide +kernel
theorem dX8_lack_89 : decode cX8_lack 89 = .ok (.iconst 0, 1) := by decide +kernel
theorem dX8_lack_90 : decode cX8_lack 90 = .ok (.iadd, 1) := by decide +kernel
theorem dX8_lack_91 : decode cX8_lack 91 = .ok (.istore_n 3, 1) := by decide +kernel
theorem dX8_lack_92 : decode cX8_lack 92 = .ok (.iinc 4 1, 3) := by decide +kernel
theorem dX8_lack_95 : decode cX8_lack 95 = .ok (.goto (-56), 3) := by decide +kernel
theorem dX8_lack_98 : decode cX8_lack 98 = .ok (.iload_n 3, 1) := by decide +kernel
theorem dX8_lack_99 : decode cX8_lack 99 = .ok (.ireturn, 1) := by decide +kernel
theorem dX8_flood_0 : decode cX8_flood 0 = .ok (.aload_n 0, 1) := by decide +kernel
theorem dX8_flood_1 : decode cX8_flood 1 = .ok (.iload_n 1, 1) := by decide +kernel
theorem dX8_flood_2 : decode cX8_flood 2 = .ok (.invokevirtual 200, 3) := by decide +kernel
theorem dX8_flood_5 : decode cX8_flood 5 = .ok (.ifCond .eq 40, 3) := by decide +kernel
theorem dX8_flood_8 : decode cX8_flood 8 = .ok (.aload_n 0, 1) := by decide +kernel
theorem dX8_flood_9 : decode cX8_flood 9 = .ok (.iload_n 2, 1) := by decide +kernel
theorem dX8_flood_10 : decode cX8_flood 10 = .ok (.invokevirtual 140, 3) := by decide +kernel
theorem dX8_flood_13 : decode cX8_flood 13 = .ok (.ifCond .eq 32, 3) := by decide +kernel
theorem dX8_flood_16 : decode cX8_flood 16 = .ok (.iload_n 3, 1) := by decide +kernel
theorem dX8_flood_17 : decode cX8_flood 17 = .ok (.iconst 0, 1) := by decide +kernel
theorem dX8_flood_18 : decode cX8_flood 18 = .ok (.aload_n 0, 1) := by decide +kernel
theorem dX8_flood_19 : decode cX8_flood 19 = .ok (.getfield 17, 3) := by decide +kernel
theorem dX8_flood_22 : decode cX8_flood 22 = .ok (.iload_n 2, 1) := by decide +kernel
theorem dX8_flood_23 : decode cX8_flood 23 = .ok (.iaload, 1) := by decide +kernel
theorem dX8_flood_24 : decode cX8_flood 24 = .ok (.invokestatic 122, 3) := by decide +kernel
theorem dX8_flood_27 : decode cX8_flood 27 = .ok (.ifCond .eq 18, 3) := by decide +kernel
theorem dX8_flood_30 : decode cX8_flood 30 = .ok (.iload 4, 2) := by decide +kernel
theorem dX8_flood_32 : decode cX8_flood 32 = .ok (.iconst 0, 1) := by decide +kernel
theorem dX8_flood_33 : decode cX8_flood 33 = .ok (.aload_n 0, 1) := by decide +kernel
theorem dX8_flood_34 : decode cX8_flood 34 = .ok (.getfield 32, 3) := by decide +kernel
theorem dX8_flood_37 : decode cX8_flood 37 = .ok (.iconst 1, 1) := by decide +kernel
theorem dX8_flood_38 : decode cX8_flood 38 = .ok (.isub, 1) := by decide +kernel
theorem dX8_flood_39 : decode cX8_flood 39 = .ok (.invokestatic 122, 3) := by decide +kernel
theorem dX8_flood_42 : decode cX8_flood 42 = .ok (.ifCond .ne 5, 3) := by decide +kernel
theorem dX8_flood_45 : decode cX8_flood 45 = .ok (.iconst (-1), 1) := by decide +kernel
theorem dX8_flood_46 : decode cX8_flood 46 = .ok (.ireturn, 1) := by decide +kernel
theorem dX8_flood_47 : decode cX8_flood 47 = .ok (.aload_n 0, 1) := by decide +kernel
theorem dX8_flood_48 : decode cX8_flood 48 = .ok (.invokevirtual 151, 3) := by decide +kernel
theorem dX8_flood_51 : decode cX8_flood 51 = .ok (.ifCond .ne 6, 3) := by decide +kernel
theorem dX8_flood_54 : decode cX8_flood 54 = .ok (.bipush (-3), 2) := by decide +kernel
theorem dX8_flood_56 : decode cX8_flood 56 = .ok (.ireturn, 1) := by decide +kernel
theorem dX8_flood_57 : decode cX8_flood 57 = .ok (.aload_n 0, 1) := by decide +kernel
theorem dX8_flood_58 : decode cX8_flood 58 = .ok (.iconst 0, 1) := by decide +kernel
theorem dX8_flood_59 : decode cX8_flood 59 = .ok (.iload_n 1, 1) := by decide +kernel
theorem dX8_flood_60 : decode cX8_flood 60 = .ok (.invokevirtual 218, 3) := by decide +kernel
theorem dX8_flood_63 : decode cX8_flood 63 = .ok (.iconst 0, 1) := by decide +kernel
theorem dX8_flood_64 : decode cX8_flood 64 = .ok (.istore 5, 2) := by decide +kernel
theorem dX8_flood_66 : decode cX8_flood 66 = .ok (.iconst 1, 1) := by decide +kernel
theorem dX8_flood_67 : decode cX8_flood 67 = .ok (.istore 6, 2) := by decide +kernel
theorem dX8_flood_69 : decode cX8_flood 69 = .ok (.iload 6, 2) := by decide +kernel
theorem dX8_flood_71 : decode cX8_flood 71 = .ok (.aload_n 0, 1) := by decide +kernel
theorem dX8_flood_72 : decode cX8_flood 72 = .ok (.getfield 41, 3) := by decide +kernel
theorem dX8_flood_75 : decode cX8_flood 75 = .ok (.if_icmp .ge 61, 3) := by decide +kernel
theorem dX8_flood_78 : decode cX8_flood 78 = .ok (.aload_n 0, 1) := by decide +kernel
theorem dX8_flood_79 : decode cX8_flood 79 = .ok (.getfield 50, 3) := by decide +kernel
theorem dX8_flood_82 : decode cX8_flood 82 = .ok (.iload 6, 2) := by decide +kernel
theorem dX8_flood_84 : decode cX8_flood 84 = .ok (.iaload, 1) := by decide +kernel
theorem dX8_flood_85 : decode cX8_flood 85 = .ok (.iload 4, 2) := by decide +kernel
theorem dX8_flood_87 : decode cX8_flood 87 = .ok (.if_icmp .eq 6, 3) := by decide +kernel
theorem dX8_flood_90 : decode cX8_flood 90 = .ok (.goto 40, 3) := by decide +kernel
theorem dX8_flood_93 : decode cX8_flood 93 = .ok (.aload_n 0, 1) := by decide +kernel
theorem dX8_flood_94 : decode cX8_flood 94 = .ok (.aload_n 0, 1) := by decide +kernel
theorem dX8_flood_95 : decode cX8_flood 95 = .ok (.getfield 86, 3) := by decide +kernel
theorem dX8_flood_98 : decode cX8_flood 98 = .ok (.iload 6, 2) := by decide +kernel
theorem dX8_flood_100 : decode cX8_flood 100 = .ok (.iaload, 1) := by decide +kernel
theorem dX8_flood_101 : decode cX8_flood 101 = .ok (.invokevirtual 164, 3) := by decide +kernel
theorem dX8_flood_104 : decode cX8_flood 104 = .ok (.iload 5, 2) := by decide +kernel
theorem dX8_flood_106 : decode cX8_flood 106 = .ok (.aload_n 0, 1) := by decide +kernel
theorem dX8_flood_107 : decode cX8_flood 107 = .ok (.getfield 56, 3) := by decide +kernel
theorem dX8_flood_110 : decode cX8_flood 110 = .ok (.iload_n 2, 1) := by decide +kernel
theorem dX8_flood_111 : decode cX8_flood 111 = .ok (.iaload, 1) := by decide +kernel
theorem dX8_flood_112 : decode cX8_flood 112 = .ok (.iload_n 3, 1) := by decide +kernel
theorem dX8_flood_113 : decode cX8_flood 113 = .ok (.if_icmp .le 13, 3) := by decide +kernel
theorem dX8_flood_116 : decode cX8_flood 116 = .ok (.aload_n 0, 1) := by decide +kernel
theorem dX8_flood_117 : decode cX8_flood 117 = .ok (.getfield 98, 3) := by decide +kernel
theorem dX8_flood_120 : decode cX8_flood 120 = .ok (.iload 6, 2) := by decide +kernel
theorem dX8_flood_122 : decode cX8_flood 122 = .ok (.iaload, 1) := by decide +kernel
theorem dX8_flood_123 : decode cX8_flood 123 = .ok (.goto 4, 3) := by decide +kernel
theorem dX8_flood_126 : decode cX8_flood 126 = .ok (.iconst 0, 1) := by decide +kernel
theorem dX8_flood_127 : decode cX8_flood 127 = .ok (.iadd, 1) := by decide +kernel
theorem dX8_flood_128 : decode cX8_flood 128 = .ok (.istore 5, 2) := by decide +kernel
theorem dX8_flood_130 : decode cX8_flood 130 = .ok (.iinc 6 1, 3) := by decide +kernel
theorem dX8_flood_133 : decode cX8_flood 133 = .ok (.goto (-64), 3) := by decide +kernel
theorem dX8_flood_136 : decode cX8_flood 136 = .ok (.iload 5, 2) := by decide +kernel
theorem dX8_flood_138 : decode cX8_flood 138 = .ok (.ireturn, 1) := by decide +kernel
theorem dX8_cases_0 : decode cX8_cases 0 = .ok (.aload_n 0, 1) := by decide +kernel
theorem dX8_cases_1 : decode cX8_cases 1 = .ok (.iload_n 1, 1) := by decide +kernel
theorem dX8_cases_2 : decode cX8_cases 2 = .ok (.invokevirtual 144, 3) := by decide +kernel
theorem dX8_cases_5 : decode cX8_cases 5 = .ok (.ifCond .ne 5, 3) := by decide +kernel
theorem dX8_cases_8 : decode cX8_cases 8 = .ok (.iconst (-1), 1) := by decide +kernel
theorem dX8_cases_9 : decode cX8_cases 9 = .ok (.ireturn, 1) := by decide +kernel
theorem dX8_cases_10 : decode cX8_cases 10 = .ok (.aload_n 0, 1) := by decide +kernel
theorem dX8_cases_11 : decode cX8_cases 11 = .ok (.invokevirtual 151, 3) := by decide +kernel
theorem dX8_cases_14 : decode cX8_cases 14 = .ok (.ifCond .ne 6, 3) := by decide +kernel
theorem dX8_cases_17 : decode cX8_cases 17 = .ok (.bipush (-3), 2) := by decide +kernel
theorem dX8_cases_19 : decode cX8_cases 19 = .ok (.ireturn, 1) := by decide +kernel
theorem dX8_cases_20 : decode cX8_cases 20 = .ok (.aload_n 0, 1) := by decide +kernel
theorem dX8_cases_21 : decode cX8_cases 21 = .ok (.iload_n 1, 1) := by decide +kernel
theorem dX8_cases_22 : decode cX8_cases 22 = .ok (.iconst 0, 1) := by decide +kernel
theorem dX8_cases_23 : decode cX8_cases 23 = .ok (.invokevirtual 218, 3) := by decide +kernel
theorem dX8_cases_26 : decode cX8_cases 26 = .ok (.aload_n 0, 1) := by decide +kernel
theorem dX8_cases_27 : decode cX8_cases 27 = .ok (.getfield 98, 3) := by decide +kernel
theorem dX8_cases_30 : decode cX8_cases 30 = .ok (.iload_n 1, 1) := by decide +kernel
theorem dX8_cases_31 : decode cX8_cases 31 = .ok (.iaload, 1) := by decide +kernel
theorem dX8_cases_32 : decode cX8_cases 32 = .ok (.ireturn, 1) := by decide +kernel
theorem dX8_begin_0 : decode cX8_begin 0 = .ok (.aload_n 0, 1) := by decide +kernel
theorem dX8_begin_1 : decode cX8_begin 1 = .ok (.iload_n 1, 1) := by decide +kernel
theorem dX8_begin_2 : decode cX8_begin 2 = .ok (.invokevirtual 200, 3) := by decide +kernel
theorem dX8_begin_5 : decode cX8_begin 5 = .ok (.ifCond .ne 5, 3) := by decide +kernel
theorem dX8_begin_8 : decode cX8_begin 8 = .ok (.iconst (-1), 1) := by decide +kernel
theorem dX8_begin_9 : decode cX8_begin 9 = .ok (.ireturn, 1) := by decide +kernel
theorem dX8_begin_10 : decode cX8_begin 10 = .ok (.aload_n 0, 1) := by decide +kernel
theorem dX8_begin_11 : decode cX8_begin 11 = .ok (.invokevirtual 151, 3) := by decide +kernel
theorem dX8_begin_14 : decode cX8_begin 14 = .ok (.ifCond .ne 6, 3) := by decide +kernel
theorem dX8_begin_17 : decode cX8_begin 17 = .ok (.bipush (-3), 2) := by decide +kernel
theorem dX8_begin_19 : decode cX8_begin 19 = .ok (.ireturn, 1) := by decide +kernel
theorem dX8_begin_20 : decode cX8_begin 20 = .ok (.aload_n 0, 1) := by decide +kernel
theorem dX8_begin_21 : decode cX8_begin 21 = .ok (.iconst 1, 1) := by decide +kernel
theorem dX8_begin_22 : decode cX8_begin 22 = .ok (.putfield 134, 3) := by decide +kernel
theorem dX8_begin_25 : decode cX8_begin 25 = .ok (.aload_n 0, 1) := by decide +kernel
theorem dX8_begin_26 : decode cX8_begin 26 = .ok (.iconst 0, 1) := by decide +kernel
theorem dX8_begin_27 : decode cX8_begin 27 = .ok (.putfield 221, 3) := by decide +kernel
theorem dX8_begin_30 : decode cX8_begin 30 = .ok (.aload_n 0, 1) := by decide +kernel
theorem dX8_begin_31 : decode cX8_begin 31 = .ok (.getfield 101, 3) := by decide +kernel
theorem dX8_begin_34 : decode cX8_begin 34 = .ok (.iconst 0, 1) := by decide +kernel
theorem dX8_begin_35 : decode cX8_begin 35 = .ok (.iconst 0, 1) := by decide +kernel
theorem dX8_begin_36 : decode cX8_begin 36 = .ok (.iastore, 1) := by decide +kernel
theorem dX8_begin_37 : decode cX8_begin 37 = .ok (.aload_n 0, 1) := by decide +kernel
theorem dX8_begin_38 : decode cX8_begin 38 = .ok (.getfield 104, 3) := by decide +kernel
theorem dX8_begin_41 : decode cX8_begin 41 = .ok (.iconst 0, 1) := by decide +kernel
theorem dX8_begin_42 : decode cX8_begin 42 = .ok (.iload_n 1, 1) := by decide +kernel
theorem dX8_begin_43 : decode cX8_begin 43 = .ok (.iastore, 1) := by decide +kernel
theorem dX8_begin_44 : decode cX8_begin 44 = .ok (.aload_n 0, 1) := by decide +kernel
theorem dX8_begin_45 : decode cX8_begin 45 = .ok (.getfield 107, 3) := by decide +kernel
theorem dX8_begin_48 : decode cX8_begin 48 = .ok (.iconst 0, 1) := by decide +kernel
theorem dX8_begin_49 : decode cX8_begin 49 = .ok (.iconst 0, 1) := by decide +kernel
theorem dX8_begin_50 : decode cX8_begin 50 = .ok (.iastore, 1) := by decide +kernel
theorem dX8_begin_51 : decode cX8_begin 51 = .ok (.aload_n 0, 1) := by decide +kernel
theorem dX8_begin_52 : decode cX8_begin 52 = .ok (.getfield 110, 3) := by decide +kernel
theorem dX8_begin_55 : decode cX8_begin 55 = .ok (.iconst 0, 1) := by decide +kernel
theorem dX8_begin_56 : decode cX8_begin 56 = .ok (.iconst 0, 1) := by decide +kernel
theorem dX8_begin_57 : decode cX8_begin 57 = .ok (.iastore, 1) := by decide +kernel
theorem dX8_begin_58 : decode cX8_begin 58 = .ok (.aload_n 0, 1) := by decide +kernel
theorem dX8_begin_59 : decode cX8_begin 59 = .ok (.getfield 113, 3) := by decide +kernel
theorem dX8_begin_62 : decode cX8_begin 62 = .ok (.iconst 0, 1) := by decide +kernel
theorem dX8_begin_63 : decode cX8_begin 63 = .ok (.iconst 0, 1) := by decide +kernel
theorem dX8_begin_64 : decode cX8_begin 64 = .ok (.iastore, 1) := by decide +kernel
theorem dX8_begin_65 : decode cX8_begin 65 = .ok (.aload_n 0, 1) := by decide +kernel
theorem dX8_begin_66 : decode cX8_begin 66 = .ok (.getfield 116, 3) := by decide +kernel
theorem dX8_begin_69 : decode cX8_begin 69 = .ok (.iconst 0, 1) := by decide +kernel
theorem dX8_begin_70 : decode cX8_begin 70 = .ok (.iconst 0, 1) := by decide +kernel
theorem dX8_begin_71 : decode cX8_begin 71 = .ok (.iastore, 1) := by decide +kernel
theorem dX8_begin_72 : decode cX8_begin 72 = .ok (.iconst 1, 1) := by decide +kernel
theorem dX8_begin_73 : decode cX8_begin 73 = .ok (.ireturn, 1) := by decide +kernel
theorem dX8_child_0 : decode cX8_child 0 = .ok (.iload_n 2, 1) := by decide +kernel
theorem dX8_child_1 : decode cX8_child 1 = .ok (.istore_n 3, 1) := by decide +kernel
theorem dX8_child_2 : decode cX8_child 2 = .ok (.iload_n 1, 1) := by decide +kernel
theorem dX8_child_3 : decode cX8_child 3 = .ok (.iconst 1, 1) := by decide +kernel
theorem dX8_child_4 : decode cX8_child 4 = .ok (.iadd, 1) := by decide +kernel
theorem dX8_child_5 : decode cX8_child 5 = .ok (.istore 4, 2) := by decide +kernel
theorem dX8_child_7 : decode cX8_child 7 = .ok (.iload 4, 2) := by decide +kernel
theorem dX8_child_9 : decode cX8_child 9 = .ok (.aload_n 0, 1) := by decide +kernel
theorem dX8_child_10 : decode cX8_child 10 = .ok (.getfield 41, 3) := by decide +kernel
theorem dX8_child_13 : decode cX8_child 13 = .ok (.if_icmp .ge 37, 3) := by decide +kernel
theorem dX8_child_16 : decode cX8_child 16 = .ok (.iload_n 2, 1) := by decide +kernel
theorem dX8_child_17 : decode cX8_child 17 = .ok (.ifCond .lt 33, 3) := by decide +kernel
theorem dX8_child_20 : decode cX8_child 20 = .ok (.aload_n 0, 1) := by decide +kernel
theorem dX8_child_21 : decode cX8_child 21 = .ok (.getfield 44, 3) := by decide +kernel
theorem dX8_child_24 : decode cX8_child 24 = .ok (.iload 4, 2) := by decide +kernel
theorem dX8_child_26 : decode cX8_child 26 = .ok (.iaload, 1) := by decide +kernel
theorem dX8_child_27 : decode cX8_child 27 = .ok (.iload_n 1, 1) := by decide +kernel
theorem dX8_child_28 : decode cX8_child 28 = .ok (.if_icmp .eq 6, 3) := by decide +kernel
theorem dX8_child_31 : decode cX8_child 31 = .ok (.goto 13, 3) := by decide +kernel
theorem dX8_child_34 : decode cX8_child 34 = .ok (.iload_n 3, 1) := by decide +kernel
theorem dX8_child_35 : decode cX8_child 35 = .ok (.ifCond .ne 6, 3) := by decide +kernel
theorem dX8_child_38 : decode cX8_child 38 = .ok (.iload 4, 2) := by decide +kernel
theorem dX8_child_40 : decode cX8_child 40 = .ok (.ireturn, 1) := by decide +kernel
theorem dX8_child_41 : decode cX8_child 41 = .ok (.iinc 3 (-1), 3) := by decide +kernel
theorem dX8_child_44 : decode cX8_child 44 = .ok (.iinc 4 1, 3) := by decide +kernel
theorem dX8_child_47 : decode cX8_child 47 = .ok (.goto (-40), 3) := by decide +kernel
theorem dX8_child_50 : decode cX8_child 50 = .ok (.iconst (-1), 1) := by decide +kernel
theorem dX8_child_51 : decode cX8_child 51 = .ok (.ireturn, 1) := by decide +kernel
theorem dX8_refused_0 : decode cX8_refused 0 = .ok (.aload_n 0, 1) := by decide +kernel
theorem dX8_refused_1 : decode cX8_refused 1 = .ok (.getfield 134, 3) := by decide +kernel
theorem dX8_refused_4 : decode cX8_refused 4 = .ok (.ifCond .ne 8, 3) := by decide +kernel
theorem dX8_refused_7 : decode cX8_refused 7 = .ok (.bipush (-6), 2) := by decide +kernel
theorem dX8_refused_9 : decode cX8_refused 9 = .ok (.goto 32, 3) := by decide +kernel
theorem dX8_refused_12 : decode cX8_refused 12 = .ok (.aload_n 0, 1) := by decide +kernel
theorem dX8_refused_13 : decode cX8_refused 13 = .ok (.getfield 50, 3) := by decide +kernel
theorem dX8_refused_16 : decode cX8_refused 16 = .ok (.aload_n 0, 1) := by decide +kernel
theorem dX8_refused_17 : decode cX8_refused 17 = .ok (.getfield 101, 3) := by decide +kernel
theorem dX8_refused_20 : decode cX8_refused 20 = .ok (.aload_n 0, 1) := by decide +kernel
theorem dX8_refused_21 : decode cX8_refused 21 = .ok (.getfield 221, 3) := by decide +kernel
theorem dX8_refused_24 : decode cX8_refused 24 = .ok (.iaload, 1) := by decide +kernel
theorem dX8_refused_25 : decode cX8_refused 25 = .ok (.iaload, 1) := by decide +kernel
theorem dX8_refused_26 : decode cX8_refused 26 = .ok (.aload_n 0, 1) := by decide +kernel
theorem dX8_refused_27 : decode cX8_refused 27 = .ok (.getfield 32, 3) := by decide +kernel
theorem dX8_refused_30 : decode cX8_refused 30 = .ok (.iconst 1, 1) := by decide +kernel
theorem dX8_refused_31 : decode cX8_refused 31 = .ok (.isub, 1) := by decide +kernel
theorem dX8_refused_32 : decode cX8_refused 32 = .ok (.if_icmp .ne 8, 3) := by decide +kernel
theorem dX8_refused_35 : decode cX8_refused 35 = .ok (.bipush (-4), 2) := by decide +kernel
theorem dX8_refused_37 : decode cX8_refused 37 = .ok (.goto 4, 3) := by decide +kernel
theorem dX8_refused_40 : decode cX8_refused 40 = .ok (.iconst 0, 1) := by decide +kernel
theorem dX8_refused_41 : decode cX8_refused 41 = .ok (.ireturn, 1) := by decide +kernel
theorem dX8_goes_0 : decode cX8_goes 0 = .ok (.aload_n 0, 1) := by decide +kernel
theorem dX8_goes_1 : decode cX8_goes 1 = .ok (.aload_n 0, 1) := by decide +kernel
theorem dX8_goes_2 : decode cX8_goes 2 = .ok (.getfield 104, 3) := by decide +kernel
theorem dX8_goes_5 : decode cX8_goes 5 = .ok (.aload_n 0, 1) := by decide +kernel
theorem dX8_goes_6 : decode cX8_goes 6 = .ok (.getfield 221, 3) := by decide +kernel
theorem dX8_goes_9 : decode cX8_goes 9 = .ok (.iaload, 1) := by decide +kernel
theorem dX8_goes_10 : decode cX8_goes 10 = .ok (.invokevirtual 164, 3) := by decide +kernel
theorem dX8_goes_13 : decode cX8_goes 13 = .ok (.aload_n 0, 1) := by decide +kernel
theorem dX8_goes_14 : decode cX8_goes 14 = .ok (.aload_n 0, 1) := by decide +kernel
theorem dX8_goes_15 : decode cX8_goes 15 = .ok (.getfield 50, 3) := by decide +kernel
theorem dX8_goes_18 : decode cX8_goes 18 = .ok (.iload_n 1, 1) := by decide +kernel
theorem dX8_goes_19 : decode cX8_goes 19 = .ok (.iaload, 1) := by decide +kernel
theorem dX8_goes_20 : decode cX8_goes 20 = .ok (.invokevirtual 191, 3) := by decide +kernel
theorem dX8_goes_23 : decode cX8_goes 23 = .ok (.istore_n 2, 1) := by decide +kernel
theorem dX8_goes_24 : decode cX8_goes 24 = .ok (.aload_n 0, 1) := by decide +kernel
theorem dX8_goes_25 : decode cX8_goes 25 = .ok (.iload_n 1, 1) := by decide +kernel
theorem dX8_goes_26 : decode cX8_goes 26 = .ok (.invokevirtual 178, 3) := by decide +kernel
theorem dX8_goes_29 : decode cX8_goes 29 = .ok (.istore_n 3, 1) := by decide +kernel
theorem dX8_goes_30 : decode cX8_goes 30 = .ok (.iconst 0, 1) := by decide +kernel
theorem dX8_goes_31 : decode cX8_goes 31 = .ok (.istore 4, 2) := by decide +kernel
theorem dX8_goes_33 : decode cX8_goes 33 = .ok (.iconst 0, 1) := by decide +kernel
theorem dX8_goes_34 : decode cX8_goes 34 = .ok (.istore 5, 2) := by decide +kernel
theorem dX8_goes_36 : decode cX8_goes 36 = .ok (.iload 5, 2) := by decide +kernel
theorem dX8_goes_38 : decode cX8_goes 38 = .ok (.aload_n 0, 1) := by decide +kernel
theorem dX8_goes_39 : decode cX8_goes 39 = .ok (.getfield 119, 3) := by decide +kernel
theorem dX8_goes_42 : decode cX8_goes 42 = .ok (.if_icmp .ge 25, 3) := by decide +kernel
theorem dX8_goes_45 : decode cX8_goes 45 = .ok (.iload 4, 2) := by decide +kernel
theorem dX8_goes_47 : decode cX8_goes 47 = .ok (.aload_n 0, 1) := by decide +kernel
theorem dX8_goes_48 : decode cX8_goes 48 = .ok (.getfield 53, 3) := by decide +kernel
theorem dX8_goes_51 : decode cX8_goes 51 = .ok (.iconst 3, 1) := by decide +kernel
theorem dX8_goes_52 : decode cX8_goes 52 = .ok (.iload_n 1, 1) := by decide +kernel
theorem dX8_goes_53 : decode cX8_goes 53 = .ok (.imul, 1) := by decide +kernel
theorem dX8_goes_54 : decode cX8_goes 54 = .ok (.iload 5, 2) := by decide +kernel
theorem dX8_goes_56 : decode cX8_goes 56 = .ok (.iadd, 1) := by decide +kernel
theorem dX8_goes_57 : decode cX8_goes 57 = .ok (.iaload, 1) := by decide +kernel
theorem dX8_goes_58 : decode cX8_goes 58 = .ok (.iadd, 1) := by decide +kernel
theorem dX8_goes_59 : decode cX8_goes 59 = .ok (.istore 4, 2) := by decide +kernel
theorem dX8_goes_61 : decode cX8_goes 61 = .ok (.iinc 5 1, 3) := by decide +kernel
theorem dX8_goes_64 : decode cX8_goes 64 = .ok (.goto (-28), 3) := by decide +kernel
theorem dX8_goes_67 : decode cX8_goes 67 = .ok (.aload_n 0, 1) := by decide +kernel
theorem dX8_goes_68 : decode cX8_goes 68 = .ok (.getfield 101, 3) := by decide +kernel
theorem dX8_goes_71 : decode cX8_goes 71 = .ok (.aload_n 0, 1) := by decide +kernel
theorem dX8_goes_72 : decode cX8_goes 72 = .ok (.getfield 221, 3) := by decide +kernel
theorem dX8_goes_75 : decode cX8_goes 75 = .ok (.iconst 1, 1) := by decide +kernel
theorem dX8_goes_76 : decode cX8_goes 76 = .ok (.iadd, 1) := by decide +kernel
theorem dX8_goes_77 : decode cX8_goes 77 = .ok (.iload_n 1, 1) := by decide +kernel
theorem dX8_goes_78 : decode cX8_goes 78 = .ok (.iastore, 1) := by decide +kernel
theorem dX8_goes_79 : decode cX8_goes 79 = .ok (.aload_n 0, 1) := by decide +kernel
theorem dX8_goes_80 : decode cX8_goes 80 = .ok (.getfield 104, 3) := by decide +kernel
theorem dX8_goes_83 : decode cX8_goes 83 = .ok (.aload_n 0, 1) := by decide +kernel
theorem dX8_goes_84 : decode cX8_goes 84 = .ok (.getfield 221, 3) := by decide +kernel
theorem dX8_goes_87 : decode cX8_goes 87 = .ok (.iconst 1, 1) := by decide +kernel
theorem dX8_goes_88 : decode cX8_goes 88 = .ok (.iadd, 1) := by decide +kernel
theorem dX8_goes_89 : decode cX8_goes 89 = .ok (.iload_n 3, 1) := by decide +kernel
theorem dX8_goes_90 : decode cX8_goes 90 = .ok (.iastore, 1) := by decide +kernel
theorem dX8_goes_91 : decode cX8_goes 91 = .ok (.aload_n 0, 1) := by decide +kernel
theorem dX8_goes_92 : decode cX8_goes 92 = .ok (.getfield 107, 3) := by decide +kernel
theorem dX8_goes_95 : decode cX8_goes 95 = .ok (.aload_n 0, 1) := by decide +kernel
theorem dX8_goes_96 : decode cX8_goes 96 = .ok (.getfield 221, 3) := by decide +kernel
theorem dX8_goes_99 : decode cX8_goes 99 = .ok (.iconst 1, 1) := by decide +kernel
theorem dX8_goes_100 : decode cX8_goes 100 = .ok (.iadd, 1) := by decide +kernel
theorem dX8_goes_101 : decode cX8_goes 101 = .ok (.aload_n 0, 1) := by decide +kernel
theorem dX8_goes_102 : decode cX8_goes 102 = .ok (.getfield 107, 3) := by decide +kernel
theorem dX8_goes_105 : decode cX8_goes 105 = .ok (.aload_n 0, 1) := by decide +kernel
theorem dX8_goes_106 : decode cX8_goes 106 = .ok (.getfield 221, 3) := by decide +kernel
theorem dX8_goes_109 : decode cX8_goes 109 = .ok (.iaload, 1) := by decide +kernel
theorem dX8_goes_110 : decode cX8_goes 110 = .ok (.iload_n 2, 1) := by decide +kernel
theorem dX8_goes_111 : decode cX8_goes 111 = .ok (.iadd, 1) := by decide +kernel
theorem dX8_goes_112 : decode cX8_goes 112 = .ok (.iastore, 1) := by decide +kernel
theorem dX8_goes_113 : decode cX8_goes 113 = .ok (.aload_n 0, 1) := by decide +kernel
theorem dX8_goes_114 : decode cX8_goes 114 = .ok (.getfield 110, 3) := by decide +kernel
theorem dX8_goes_117 : decode cX8_goes 117 = .ok (.aload_n 0, 1) := by decide +kernel
theorem dX8_goes_118 : decode cX8_goes 118 = .ok (.getfield 221, 3) := by decide +kernel
theorem dX8_goes_121 : decode cX8_goes 121 = .ok (.iconst 1, 1) := by decide +kernel
theorem dX8_goes_122 : decode cX8_goes 122 = .ok (.iadd, 1) := by decide +kernel
theorem dX8_goes_123 : decode cX8_goes 123 = .ok (.aload_n 0, 1) := by decide +kernel
theorem dX8_goes_124 : decode cX8_goes 124 = .ok (.getfield 110, 3) := by decide +kernel
theorem dX8_goes_127 : decode cX8_goes 127 = .ok (.aload_n 0, 1) := by decide +kernel
theorem dX8_goes_128 : decode cX8_goes 128 = .ok (.getfield 221, 3) := by decide +kernel
theorem dX8_goes_131 : decode cX8_goes 131 = .ok (.iaload, 1) := by decide +kernel
theorem dX8_goes_132 : decode cX8_goes 132 = .ok (.aload_n 0, 1) := by decide +kernel
theorem dX8_goes_133 : decode cX8_goes 133 = .ok (.getfield 158, 3) := by decide +kernel
theorem dX8_goes_136 : decode cX8_goes 136 = .ok (.iadd, 1) := by decide +kernel
theorem dX8_goes_137 : decode cX8_goes 137 = .ok (.iastore, 1) := by decide +kernel
theorem dX8_goes_138 : decode cX8_goes 138 = .ok (.aload_n 0, 1) := by decide +kernel
theorem dX8_goes_139 : decode cX8_goes 139 = .ok (.getfield 113, 3) := by decide +kernel
theorem dX8_goes_142 : decode cX8_goes 142 = .ok (.aload_n 0, 1) := by decide +kernel
theorem dX8_goes_143 : decode cX8_goes 143 = .ok (.getfield 221, 3) := by decide +kernel
theorem dX8_goes_146 : decode cX8_goes 146 = .ok (.iconst 1, 1) := by decide +kernel
theorem dX8_goes_147 : decode cX8_goes 147 = .ok (.iadd, 1) := by decide +kernel
theorem dX8_goes_148 : decode cX8_goes 148 = .ok (.aload_n 0, 1) := by decide +kernel
theorem dX8_goes_149 : decode cX8_goes 149 = .ok (.getfield 113, 3) := by decide +kernel
theorem dX8_goes_152 : decode cX8_goes 152 = .ok (.aload_n 0, 1) := by decide +kernel
theorem dX8_goes_153 : decode cX8_goes 153 = .ok (.getfield 221, 3) := by decide +kernel
theorem dX8_goes_156 : decode cX8_goes 156 = .ok (.iaload, 1) := by decide +kernel
theorem dX8_goes_157 : decode cX8_goes 157 = .ok (.aload_n 0, 1) := by decide +kernel
theorem dX8_goes_158 : decode cX8_goes 158 = .ok (.getfield 59, 3) := by decide +kernel
theorem dX8_goes_161 : decode cX8_goes 161 = .ok (.aload_n 0, 1) := by decide +kernel
theorem dX8_goes_162 : decode cX8_goes 162 = .ok (.getfield 119, 3) := by decide +kernel
theorem dX8_goes_165 : decode cX8_goes 165 = .ok (.iconst 1, 1) := by decide +kernel
theorem dX8_goes_166 : decode cX8_goes 166 = .ok (.isub, 1) := by decide +kernel
theorem dX8_goes_167 : decode cX8_goes 167 = .ok (.iaload, 1) := by decide +kernel
theorem dX8_goes_168 : decode cX8_goes 168 = .ok (.iadd, 1) := by decide +kernel
theorem dX8_goes_169 : decode cX8_goes 169 = .ok (.iastore, 1) := by decide +kernel
theorem dX8_goes_170 : decode cX8_goes 170 = .ok (.aload_n 0, 1) := by decide +kernel
theorem dX8_goes_171 : decode cX8_goes 171 = .ok (.getfield 116, 3) := by decide +kernel
theorem dX8_goes_174 : decode cX8_goes 174 = .ok (.aload_n 0, 1) := by decide +kernel
theorem dX8_goes_175 : decode cX8_goes 175 = .ok (.getfield 221, 3) := by decide +kernel
theorem dX8_goes_178 : decode cX8_goes 178 = .ok (.iconst 1, 1) := by decide +kernel
theorem dX8_goes_179 : decode cX8_goes 179 = .ok (.iadd, 1) := by decide +kernel
theorem dX8_goes_180 : decode cX8_goes 180 = .ok (.aload_n 0, 1) := by decide +kernel
theorem dX8_goes_181 : decode cX8_goes 181 = .ok (.getfield 116, 3) := by decide +kernel
theorem dX8_goes_184 : decode cX8_goes 184 = .ok (.aload_n 0, 1) := by decide +kernel
theorem dX8_goes_185 : decode cX8_goes 185 = .ok (.getfield 221, 3) := by decide +kernel
theorem dX8_goes_188 : decode cX8_goes 188 = .ok (.iaload, 1) := by decide +kernel
theorem dX8_goes_189 : decode cX8_goes 189 = .ok (.iload 4, 2) := by decide +kernel
theorem dX8_goes_191 : decode cX8_goes 191 = .ok (.iadd, 1) := by decide +kernel
theorem dX8_goes_192 : decode cX8_goes 192 = .ok (.iastore, 1) := by decide +kernel
theorem dX8_goes_193 : decode cX8_goes 193 = .ok (.aload_n 0, 1) := by decide +kernel
theorem dX8_goes_194 : decode cX8_goes 194 = .ok (.dup, 1) := by decide +kernel
theorem dX8_goes_195 : decode cX8_goes 195 = .ok (.getfield 221, 3) := by decide +kernel
theorem dX8_goes_198 : decode cX8_goes 198 = .ok (.iconst 1, 1) := by decide +kernel
theorem dX8_goes_199 : decode cX8_goes 199 = .ok (.iadd, 1) := by decide +kernel
theorem dX8_goes_200 : decode cX8_goes 200 = .ok (.putfield 221, 3) := by decide +kernel
theorem dX8_goes_203 : decode cX8_goes 203 = .ok (.iload_n 2, 1) := by decide +kernel
theorem dX8_goes_204 : decode cX8_goes 204 = .ok (.ireturn, 1) := by decide +kernel
theorem dX8_week_0 : decode cX8_week 0 = .ok (.aload_n 0, 1) := by decide +kernel
theorem dX8_week_1 : decode cX8_week 1 = .ok (.invokevirtual 224, 3) := by decide +kernel
theorem dX8_week_4 : decode cX8_week 4 = .ok (.istore_n 3, 1) := by decide +kernel
theorem dX8_week_5 : decode cX8_week 5 = .ok (.iload_n 3, 1) := by decide +kernel
theorem dX8_week_6 : decode cX8_week 6 = .ok (.ifCond .ge 5, 3) := by decide +kernel
theorem dX8_week_9 : decode cX8_week 9 = .ok (.iload_n 3, 1) := by decide +kernel
theorem dX8_week_10 : decode cX8_week 10 = .ok (.ireturn, 1) := by decide +kernel
theorem dX8_week_11 : decode cX8_week 11 = .ok (.aload_n 0, 1) := by decide +kernel
theorem dX8_week_12 : decode cX8_week 12 = .ok (.aload_n 0, 1) := by decide +kernel
theorem dX8_week_13 : decode cX8_week 13 = .ok (.getfield 101, 3) := by decide +kernel
theorem dX8_week_16 : decode cX8_week 16 = .ok (.aload_n 0, 1) := by decide +kernel
theorem dX8_week_17 : decode cX8_week 17 = .ok (.getfield 221, 3) := by decide +kernel
theorem dX8_week_20 : decode cX8_week 20 = .ok (.iaload, 1) := by decide +kernel
theorem dX8_week_21 : decode cX8_week 21 = .ok (.iload_n 2, 1) := by decide +kernel
theorem dX8_week_22 : decode cX8_week 22 = .ok (.invokevirtual 227, 3) := by decide +kernel
theorem dX8_week_25 : decode cX8_week 25 = .ok (.istore 4, 2) := by decide +kernel
theorem dX8_week_27 : decode cX8_week 27 = .ok (.iload 4, 2) := by decide +kernel
theorem dX8_week_29 : decode cX8_week 29 = .ok (.ifCond .lt 18, 3) := by decide +kernel
theorem dX8_week_32 : decode cX8_week 32 = .ok (.iload_n 1, 1) := by decide +kernel
theorem dX8_week_33 : decode cX8_week 33 = .ok (.ifCond .lt 14, 3) := by decide +kernel
theorem dX8_week_36 : decode cX8_week 36 = .ok (.iload_n 1, 1) := by decide +kernel
theorem dX8_week_37 : decode cX8_week 37 = .ok (.iconst 4, 1) := by decide +kernel
theorem dX8_week_38 : decode cX8_week 38 = .ok (.aload_n 0, 1) := by decide +kernel
theorem dX8_week_39 : decode cX8_week 39 = .ok (.getfield 119, 3) := by decide +kernel
theorem dX8_week_42 : decode cX8_week 42 = .ok (.imul, 1) := by decide +kernel
theorem dX8_week_43 : decode cX8_week 43 = .ok (.ishr, 1) := by decide +kernel
theorem dX8_week_44 : decode cX8_week 44 = .ok (.ifCond .eq 5, 3) := by decide +kernel
theorem dX8_week_47 : decode cX8_week 47 = .ok (.iconst (-1), 1) := by decide +kernel
theorem dX8_week_48 : decode cX8_week 48 = .ok (.ireturn, 1) := by decide +kernel
theorem dX8_week_49 : decode cX8_week 49 = .ok (.aload_n 0, 1) := by decide +kernel
theorem dX8_week_50 : decode cX8_week 50 = .ok (.aload_n 0, 1) := by decide +kernel
theorem dX8_week_51 : decode cX8_week 51 = .ok (.getfield 104, 3) := by decide +kernel
theorem dX8_week_54 : decode cX8_week 54 = .ok (.aload_n 0, 1) := by decide +kernel
theorem dX8_week_55 : decode cX8_week 55 = .ok (.getfield 221, 3) := by decide +kernel
theorem dX8_week_58 : decode cX8_week 58 = .ok (.iaload, 1) := by decide +kernel
theorem dX8_week_59 : decode cX8_week 59 = .ok (.invokevirtual 164, 3) := by decide +kernel
theorem dX8_week_62 : decode cX8_week 62 = .ok (.iconst 0, 1) := by decide +kernel
theorem dX8_week_63 : decode cX8_week 63 = .ok (.istore 5, 2) := by decide +kernel
theorem dX8_week_65 : decode cX8_week 65 = .ok (.iload 5, 2) := by decide +kernel
theorem dX8_week_67 : decode cX8_week 67 = .ok (.aload_n 0, 1) := by decide +kernel
theorem dX8_week_68 : decode cX8_week 68 = .ok (.getfield 119, 3) := by decide +kernel
theorem dX8_week_71 : decode cX8_week 71 = .ok (.if_icmp .ge 59, 3) := by decide +kernel
theorem dX8_week_74 : decode cX8_week 74 = .ok (.aload_n 0, 1) := by decide +kernel
theorem dX8_week_75 : decode cX8_week 75 = .ok (.getfield 59, 3) := by decide +kernel
theorem dX8_week_78 : decode cX8_week 78 = .ok (.iload 5, 2) := by decide +kernel
theorem dX8_week_80 : decode cX8_week 80 = .ok (.iload_n 1, 1) := by decide +kernel
theorem dX8_week_81 : decode cX8_week 81 = .ok (.iconst 4, 1) := by decide +kernel
theorem dX8_week_82 : decode cX8_week 82 = .ok (.aload_n 0, 1) := by decide +kernel
theorem dX8_week_83 : decode cX8_week 83 = .ok (.getfield 119, 3) := by decide +kernel
theorem dX8_week_86 : decode cX8_week 86 = .ok (.iconst 1, 1) := by decide +kernel
theorem dX8_week_87 : decode cX8_week 87 = .ok (.isub, 1) := by decide +kernel
theorem dX8_week_88 : decode cX8_week 88 = .ok (.iload 5, 2) := by decide +kernel
theorem dX8_week_90 : decode cX8_week 90 = .ok (.isub, 1) := by decide +kernel
theorem dX8_week_91 : decode cX8_week 91 = .ok (.imul, 1) := by decide +kernel
theorem dX8_week_92 : decode cX8_week 92 = .ok (.ishr, 1) := by decide +kernel
theorem dX8_week_93 : decode cX8_week 93 = .ok (.bipush 15, 2) := by decide +kernel
theorem dX8_week_95 : decode cX8_week 95 = .ok (.iand, 1) := by decide +kernel
theorem dX8_week_96 : decode cX8_week 96 = .ok (.iastore, 1) := by decide +kernel
theorem dX8_week_97 : decode cX8_week 97 = .ok (.aload_n 0, 1) := by decide +kernel
theorem dX8_week_98 : decode cX8_week 98 = .ok (.getfield 59, 3) := by decide +kernel
theorem dX8_week_101 : decode cX8_week 101 = .ok (.iload 5, 2) := by decide +kernel
theorem dX8_week_103 : decode cX8_week 103 = .ok (.iaload, 1) := by decide +kernel
theorem dX8_week_104 : decode cX8_week 104 = .ok (.aload_n 0, 1) := by decide +kernel
theorem dX8_week_105 : decode cX8_week 105 = .ok (.iload 5, 2) := by decide +kernel
theorem dX8_week_107 : decode cX8_week 107 = .ok (.invokevirtual 155, 3) := by decide +kernel
theorem dX8_week_110 : decode cX8_week 110 = .ok (.aload_n 0, 1) := by decide +kernel
theorem dX8_week_111 : decode cX8_week 111 = .ok (.iload 5, 2) := by decide +kernel
theorem dX8_week_113 : decode cX8_week 113 = .ok (.invokevirtual 161, 3) := by decide +kernel
theorem dX8_week_116 : decode cX8_week 116 = .ok (.invokestatic 122, 3) := by decide +kernel
theorem dX8_week_119 : decode cX8_week 119 = .ok (.ifCond .ne 5, 3) := by decide +kernel
theorem dX8_week_122 : decode cX8_week 122 = .ok (.iconst (-1), 1) := by decide +kernel
theorem dX8_week_123 : decode cX8_week 123 = .ok (.ireturn, 1) := by decide +kernel
theorem dX8_week_124 : decode cX8_week 124 = .ok (.iinc 5 1, 3) := by decide +kernel
theorem dX8_week_127 : decode cX8_week 127 = .ok (.goto (-62), 3) := by decide +kernel
theorem dX8_week_130 : decode cX8_week 130 = .ok (.aload_n 0, 1) := by decide +kernel
theorem dX8_week_131 : decode cX8_week 131 = .ok (.iload 4, 2) := by decide +kernel
theorem dX8_week_133 : decode cX8_week 133 = .ok (.invokevirtual 231, 3) := by decide +kernel
theorem dX8_week_136 : decode cX8_week 136 = .ok (.ireturn, 1) := by decide +kernel
theorem dX8_best_0 : decode cX8_best 0 = .ok (.aload_n 0, 1) := by decide +kernel
theorem dX8_best_1 : decode cX8_best 1 = .ok (.invokevirtual 224, 3) := by decide +kernel
theorem dX8_best_4 : decode cX8_best 4 = .ok (.istore_n 2, 1) := by decide +kernel
theorem dX8_best_5 : decode cX8_best 5 = .ok (.iload_n 2, 1) := by decide +kernel
theorem dX8_best_6 : decode cX8_best 6 = .ok (.ifCond .ge 5, 3) := by decide +kernel
theorem dX8_best_9 : decode cX8_best 9 = .ok (.iload_n 2, 1) := by decide +kernel
theorem dX8_best_10 : decode cX8_best 10 = .ok (.ireturn, 1) := by decide +kernel
theorem dX8_best_11 : decode cX8_best 11 = .ok (.aload_n 0, 1) := by decide +kernel
theorem dX8_best_12 : decode cX8_best 12 = .ok (.aload_n 0, 1) := by decide +kernel
theorem dX8_best_13 : decode cX8_best 13 = .ok (.getfield 101, 3) := by decide +kernel
theorem dX8_best_16 : decode cX8_best 16 = .ok (.aload_n 0, 1) := by decide +kernel
theorem dX8_best_17 : decode cX8_best 17 = .ok (.getfield 221, 3) := by decide +kernel
theorem dX8_best_20 : decode cX8_best 20 = .ok (.iaload, 1) := by decide +kernel
theorem dX8_best_21 : decode cX8_best 21 = .ok (.iload_n 1, 1) := by decide +kernel
theorem dX8_best_22 : decode cX8_best 22 = .ok (.invokevirtual 227, 3) := by decide +kernel
theorem dX8_best_25 : decode cX8_best 25 = .ok (.istore_n 3, 1) := by decide +kernel
theorem dX8_best_26 : decode cX8_best 26 = .ok (.iload_n 3, 1) := by decide +kernel
theorem dX8_best_27 : decode cX8_best 27 = .ok (.ifCond .ge 5, 3) := by decide +kernel
theorem dX8_best_30 : decode cX8_best 30 = .ok (.iconst (-1), 1) := by decide +kernel
theorem dX8_best_31 : decode cX8_best 31 = .ok (.ireturn, 1) := by decide +kernel
theorem dX8_best_32 : decode cX8_best 32 = .ok (.aload_n 0, 1) := by decide +kernel
theorem dX8_best_33 : decode cX8_best 33 = .ok (.aload_n 0, 1) := by decide +kernel
theorem dX8_best_34 : decode cX8_best 34 = .ok (.getfield 101, 3) := by decide +kernel
theorem dX8_best_37 : decode cX8_best 37 = .ok (.aload_n 0, 1) := by decide +kernel
theorem dX8_best_38 : decode cX8_best 38 = .ok (.getfield 221, 3) := by decide +kernel
theorem dX8_best_41 : decode cX8_best 41 = .ok (.iaload, 1) := by decide +kernel
theorem dX8_best_42 : decode cX8_best 42 = .ok (.aload_n 0, 1) := by decide +kernel
theorem dX8_best_43 : decode cX8_best 43 = .ok (.getfield 104, 3) := by decide +kernel
theorem dX8_best_46 : decode cX8_best 46 = .ok (.aload_n 0, 1) := by decide +kernel
theorem dX8_best_47 : decode cX8_best 47 = .ok (.getfield 221, 3) := by decide +kernel
theorem dX8_best_50 : decode cX8_best 50 = .ok (.iaload, 1) := by decide +kernel
theorem dX8_best_51 : decode cX8_best 51 = .ok (.invokevirtual 209, 3) := by decide +kernel
theorem dX8_best_54 : decode cX8_best 54 = .ok (.aload_n 0, 1) := by decide +kernel
theorem dX8_best_55 : decode cX8_best 55 = .ok (.iload_n 3, 1) := by decide +kernel
theorem dX8_best_56 : decode cX8_best 56 = .ok (.invokevirtual 231, 3) := by decide +kernel
theorem dX8_best_59 : decode cX8_best 59 = .ok (.ireturn, 1) := by decide +kernel
theorem dX8_ruled_0 : decode cX8_ruled 0 = .ok (.aload_n 0, 1) := by decide +kernel
theorem dX8_ruled_1 : decode cX8_ruled 1 = .ok (.invokevirtual 224, 3) := by decide +kernel
theorem dX8_ruled_4 : decode cX8_ruled 4 = .ok (.istore_n 2, 1) := by decide +kernel
theorem dX8_ruled_5 : decode cX8_ruled 5 = .ok (.iload_n 2, 1) := by decide +kernel
theorem dX8_ruled_6 : decode cX8_ruled 6 = .ok (.ifCond .ge 5, 3) := by decide +kernel
theorem dX8_ruled_9 : decode cX8_ruled 9 = .ok (.iload_n 2, 1) := by decide +kernel
theorem dX8_ruled_10 : decode cX8_ruled 10 = .ok (.ireturn, 1) := by decide +kernel
theorem dX8_ruled_11 : decode cX8_ruled 11 = .ok (.aload_n 0, 1) := by decide +kernel
theorem dX8_ruled_12 : decode cX8_ruled 12 = .ok (.aload_n 0, 1) := by decide +kernel
theorem dX8_ruled_13 : decode cX8_ruled 13 = .ok (.getfield 101, 3) := by decide +kernel
theorem dX8_ruled_16 : decode cX8_ruled 16 = .ok (.aload_n 0, 1) := by decide +kernel
theorem dX8_ruled_17 : decode cX8_ruled 17 = .ok (.getfield 221, 3) := by decide +kernel
theorem dX8_ruled_20 : decode cX8_ruled 20 = .ok (.iaload, 1) := by decide +kernel
theorem dX8_ruled_21 : decode cX8_ruled 21 = .ok (.iload_n 1, 1) := by decide +kernel
theorem dX8_ruled_22 : decode cX8_ruled 22 = .ok (.invokevirtual 227, 3) := by decide +kernel
theorem dX8_ruled_25 : decode cX8_ruled 25 = .ok (.istore_n 3, 1) := by decide +kernel
theorem dX8_ruled_26 : decode cX8_ruled 26 = .ok (.iload_n 3, 1) := by decide +kernel
theorem dX8_ruled_27 : decode cX8_ruled 27 = .ok (.ifCond .ge 5, 3) := by decide +kernel
theorem dX8_ruled_30 : decode cX8_ruled 30 = .ok (.iconst (-1), 1) := by decide +kernel
theorem dX8_ruled_31 : decode cX8_ruled 31 = .ok (.ireturn, 1) := by decide +kernel
theorem dX8_ruled_32 : decode cX8_ruled 32 = .ok (.aload_n 0, 1) := by decide +kernel
theorem dX8_ruled_33 : decode cX8_ruled 33 = .ok (.aload_n 0, 1) := by decide +kernel
theorem dX8_ruled_34 : decode cX8_ruled 34 = .ok (.getfield 104, 3) := by decide +kernel
theorem dX8_ruled_37 : decode cX8_ruled 37 = .ok (.aload_n 0, 1) := by decide +kernel
theorem dX8_ruled_38 : decode cX8_ruled 38 = .ok (.getfield 221, 3) := by decide +kernel
theorem dX8_ruled_41 : decode cX8_ruled 41 = .ok (.iaload, 1) := by decide +kernel
theorem dX8_ruled_42 : decode cX8_ruled 42 = .ok (.invokevirtual 164, 3) := by decide +kernel
theorem dX8_ruled_45 : decode cX8_ruled 45 = .ok (.aload_n 0, 1) := by decide +kernel
theorem dX8_ruled_46 : decode cX8_ruled 46 = .ok (.invokevirtual 215, 3) := by decide +kernel
theorem dX8_ruled_49 : decode cX8_ruled 49 = .ok (.aload_n 0, 1) := by decide +kernel
theorem dX8_ruled_50 : decode cX8_ruled 50 = .ok (.iload_n 3, 1) := by decide +kernel
theorem dX8_ruled_51 : decode cX8_ruled 51 = .ok (.invokevirtual 231, 3) := by decide +kernel
theorem dX8_ruled_54 : decode cX8_ruled 54 = .ok (.ireturn, 1) := by decide +kernel
theorem dX8_undo_0 : decode cX8_undo 0 = .ok (.aload_n 0, 1) := by decide +kernel
theorem dX8_undo_1 : decode cX8_undo 1 = .ok (.getfield 134, 3) := by decide +kernel
theorem dX8_undo_4 : decode cX8_undo 4 = .ok (.ifCond .eq 10, 3) := by decide +kernel
theorem dX8_undo_7 : decode cX8_undo 7 = .ok (.aload_n 0, 1) := by decide +kernel
theorem dX8_undo_8 : decode cX8_undo 8 = .ok (.getfield 221, 3) := by decide +kernel
theorem dX8_undo_11 : decode cX8_undo 11 = .ok (.ifCond .ne 6, 3) := by decide +kernel
theorem dX8_undo_14 : decode cX8_undo 14 = .ok (.bipush (-6), 2) := by decide +kernel
theorem dX8_undo_16 : decode cX8_undo 16 = .ok (.ireturn, 1) := by decide +kernel
theorem dX8_undo_17 : decode cX8_undo 17 = .ok (.aload_n 0, 1) := by decide +kernel
theorem dX8_undo_18 : decode cX8_undo 18 = .ok (.dup, 1) := by decide +kernel
theorem dX8_undo_19 : decode cX8_undo 19 = .ok (.getfield 221, 3) := by decide +kernel
theorem dX8_undo_22 : decode cX8_undo 22 = .ok (.iconst 1, 1) := by decide +kernel
theorem dX8_undo_23 : decode cX8_undo 23 = .ok (.isub, 1) := by decide +kernel
theorem dX8_undo_24 : decode cX8_undo 24 = .ok (.putfield 221, 3) := by decide +kernel
theorem dX8_undo_27 : decode cX8_undo 27 = .ok (.aload_n 0, 1) := by decide +kernel
theorem dX8_undo_28 : decode cX8_undo 28 = .ok (.getfield 50, 3) := by decide +kernel
theorem dX8_undo_31 : decode cX8_undo 31 = .ok (.aload_n 0, 1) := by decide +kernel
theorem dX8_undo_32 : decode cX8_undo 32 = .ok (.getfield 101, 3) := by decide +kernel
theorem dX8_undo_35 : decode cX8_undo 35 = .ok (.aload_n 0, 1) := by decide +kernel
theorem dX8_undo_36 : decode cX8_undo 36 = .ok (.getfield 221, 3) := by decide +kernel
theorem dX8_undo_39 : decode cX8_undo 39 = .ok (.iaload, 1) := by decide +kernel
theorem dX8_undo_40 : decode cX8_undo 40 = .ok (.iaload, 1) := by decide +kernel
theorem dX8_undo_41 : decode cX8_undo 41 = .ok (.ireturn, 1) := by decide +kernel
theorem dX8_stop_0 : decode cX8_stop 0 = .ok (.aload_n 0, 1) := by decide +kernel
theorem dX8_stop_1 : decode cX8_stop 1 = .ok (.getfield 134, 3) := by decide +kernel
theorem dX8_stop_4 : decode cX8_stop 4 = .ok (.ifCond .eq 7, 3) := by decide +kernel
theorem dX8_stop_7 : decode cX8_stop 7 = .ok (.iconst 1, 1) := by decide +kernel
theorem dX8_stop_8 : decode cX8_stop 8 = .ok (.goto 4, 3) := by decide +kernel
theorem dX8_stop_11 : decode cX8_stop 11 = .ok (.iconst 0, 1) := by decide +kernel
theorem dX8_stop_12 : decode cX8_stop 12 = .ok (.istore_n 1, 1) := by decide +kernel
theorem dX8_stop_13 : decode cX8_stop 13 = .ok (.aload_n 0, 1) := by decide +kernel
theorem dX8_stop_14 : decode cX8_stop 14 = .ok (.iconst 0, 1) := by decide +kernel
theorem dX8_stop_15 : decode cX8_stop 15 = .ok (.putfield 134, 3) := by decide +kernel
theorem dX8_stop_18 : decode cX8_stop 18 = .ok (.iload_n 1, 1) := by decide +kernel
theorem dX8_stop_19 : decode cX8_stop 19 = .ok (.ireturn, 1) := by decide +kernel
theorem dX8_now_0 : decode cX8_now 0 = .ok (.aload_n 0, 1) := by decide +kernel
theorem dX8_now_1 : decode cX8_now 1 = .ok (.getfield 134, 3) := by decide +kernel
theorem dX8_now_4 : decode cX8_now 4 = .ok (.ifCond .ne 6, 3) := by decide +kernel
theorem dX8_now_7 : decode cX8_now 7 = .ok (.bipush (-6), 2) := by decide +kernel
theorem dX8_now_9 : decode cX8_now 9 = .ok (.ireturn, 1) := by decide +kernel
theorem dX8_now_10 : decode cX8_now 10 = .ok (.iload_n 1, 1) := by decide +kernel
theorem dX8_now_11 : decode cX8_now 11 = .ok (.tableswitch 106 0 6 #[41, 51, 61, 71, 81, 91, 101], 41) := by decide +kernel
theorem dX8_now_52 : decode cX8_now 52 = .ok (.aload_n 0, 1) := by decide +kernel
theorem dX8_now_53 : decode cX8_now 53 = .ok (.getfield 101, 3) := by decide +kernel
theorem dX8_now_56 : decode cX8_now 56 = .ok (.aload_n 0, 1) := by decide +kernel
theorem dX8_now_57 : decode cX8_now 57 = .ok (.getfield 221, 3) := by decide +kernel
theorem dX8_now_60 : decode cX8_now 60 = .ok (.iaload, 1) := by decide +kernel
theorem dX8_now_61 : decode cX8_now 61 = .ok (.ireturn, 1) := by decide +kernel
theorem dX8_now_62 : decode cX8_now 62 = .ok (.aload_n 0, 1) := by decide +kernel
theorem dX8_now_63 : decode cX8_now 63 = .ok (.getfield 104, 3) := by decide +kernel
theorem dX8_now_66 : decode cX8_now 66 = .ok (.aload_n 0, 1) := by decide +kernel
theorem dX8_now_67 : decode cX8_now 67 = .ok (.getfield 221, 3) := by decide +kernel
theorem dX8_now_70 : decode cX8_now 70 = .ok (.iaload, 1) := by decide +kernel
theorem dX8_now_71 : decode cX8_now 71 = .ok (.ireturn, 1) := by decide +kernel
theorem dX8_now_72 : decode cX8_now 72 = .ok (.aload_n 0, 1) := by decide +kernel
theorem dX8_now_73 : decode cX8_now 73 = .ok (.getfield 107, 3) := by decide +kernel
theorem dX8_now_76 : decode cX8_now 76 = .ok (.aload_n 0, 1) := by decide +kernel
theorem dX8_now_77 : decode cX8_now 77 = .ok (.getfield 221, 3) := by decide +kernel
theorem dX8_now_80 : decode cX8_now 80 = .ok (.iaload, 1) := by decide +kernel
theorem dX8_now_81 : decode cX8_now 81 = .ok (.ireturn, 1) := by decide +kernel
theorem dX8_now_82 : decode cX8_now 82 = .ok (.aload_n 0, 1) := by decide +kernel
theorem dX8_now_83 : decode cX8_now 83 = .ok (.getfield 110, 3) := by decide +kernel
theorem dX8_now_86 : decode cX8_now 86 = .ok (.aload_n 0, 1) := by decide +kernel
theorem dX8_now_87 : decode cX8_now 87 = .ok (.getfield 221, 3) := by decide +kernel
theorem dX8_now_90 : decode cX8_now 90 = .ok (.iaload, 1) := by decide +kernel
theorem dX8_now_91 : decode cX8_now 91 = .ok (.ireturn, 1) := by decide +kernel
theorem dX8_now_92 : decode cX8_now 92 = .ok (.aload_n 0, 1) := by decide +kernel
theorem dX8_now_93 : decode cX8_now 93 = .ok (.getfield 113, 3) := by decide +kernel
theorem dX8_now_96 : decode cX8_now 96 = .ok (.aload_n 0, 1) := by decide +kernel
theorem dX8_now_97 : decode cX8_now 97 = .ok (.getfield 221, 3) := by decide +kernel
theorem dX8_now_100 : decode cX8_now 100 = .ok (.iaload, 1) := by decide +kernel
theorem dX8_now_101 : decode cX8_now 101 = .ok (.ireturn, 1) := by decide +kernel
theorem dX8_now_102 : decode cX8_now 102 = .ok (.aload_n 0, 1) := by decide +kernel
theorem dX8_now_103 : decode cX8_now 103 = .ok (.getfield 116, 3) := by decide +kernel
theorem dX8_now_106 : decode cX8_now 106 = .ok (.aload_n 0, 1) := by decide +kernel
theorem dX8_now_107 : decode cX8_now 107 = .ok (.getfield 221, 3) := by decide +kernel
theorem dX8_now_110 : decode cX8_now 110 = .ok (.iaload, 1) := by decide +kernel
theorem dX8_now_111 : decode cX8_now 111 = .ok (.ireturn, 1) := by decide +kernel
theorem dX8_now_112 : decode cX8_now 112 = .ok (.aload_n 0, 1) := by decide +kernel
theorem dX8_now_113 : decode cX8_now 113 = .ok (.getfield 221, 3) := by decide +kernel
theorem dX8_now_116 : decode cX8_now 116 = .ok (.ireturn, 1) := by decide +kernel
theorem dX8_now_117 : decode cX8_now 117 = .ok (.iconst (-1), 1) := by decide +kernel
theorem dX8_now_118 : decode cX8_now 118 = .ok (.ireturn, 1) := by decide +kernel
theorem dJ9_max_7cf53_0 : decode cJ9_max_7cf53 0 = .ok (.iload_n 0, 1) := by decide +kernel
theorem dJ9_max_7cf53_1 : decode cJ9_max_7cf53 1 = .ok (.iload_n 1, 1) := by decide +kernel
theorem dJ9_max_7cf53_2 : decode cJ9_max_7cf53 2 = .ok (.if_icmp .lt 7, 3) := by decide +kernel
theorem dJ9_max_7cf53_5 : decode cJ9_max_7cf53 5 = .ok (.iload_n 0, 1) := by decide +kernel
theorem dJ9_max_7cf53_6 : decode cJ9_max_7cf53 6 = .ok (.goto 4, 3) := by decide +kernel
theorem dJ9_max_7cf53_9 : decode cJ9_max_7cf53 9 = .ok (.iload_n 1, 1) := by decide +kernel
theorem dJ9_max_7cf53_10 : decode cJ9_max_7cf53 10 = .ok (.ireturn, 1) := by decide +kernel
theorem dJ9_min_7cf53_0 : decode cJ9_min_7cf53 0 = .ok (.iload_n 0, 1) := by decide +kernel
theorem dJ9_min_7cf53_1 : decode cJ9_min_7cf53 1 = .ok (.iload_n 1, 1) := by decide +kernel
theorem dJ9_min_7cf53_2 : decode cJ9_min_7cf53 2 = .ok (.if_icmp .gt 7, 3) := by decide +kernel
theorem dJ9_min_7cf53_5 : decode cJ9_min_7cf53 5 = .ok (.iload_n 0, 1) := by decide +kernel
theorem dJ9_min_7cf53_6 : decode cJ9_min_7cf53 6 = .ok (.goto 4, 3) := by decide +kernel
theorem dJ9_min_7cf53_9 : decode cJ9_min_7cf53 9 = .ok (.iload_n 1, 1) := by decide +kernel
theorem dJ9_min_7cf53_10 : decode cJ9_min_7cf53 10 = .ok (.ireturn, 1) := by decide +kernel
theorem dJ7_fill_d0a16_0 : decode cJ7_fill_d0a16 0 = .ok (.iconst 0, 1) := by decide +kernel
theorem dJ7_fill_d0a16_1 : decode cJ7_fill_d0a16 1 = .ok (.istore_n 3, 1) := by decide +kernel
theorem dJ7_fill_d0a16_2 : decode cJ7_fill_d0a16 2 = .ok (.aload_n 0, 1) := by decide +kernel
theorem dJ7_fill_d0a16_3 : decode cJ7_fill_d0a16 3 = .ok (.arraylength, 1) := by decide +kernel
theorem dJ7_fill_d0a16_4 : decode cJ7_fill_d0a16 4 = .ok (.istore 4, 2) := by decide +kernel
theorem dJ7_fill_d0a16_6 : decode cJ7_fill_d0a16 6 = .ok (.iload_n 3, 1) := by decide +kernel
theorem dJ7_fill_d0a16_7 : decode cJ7_fill_d0a16 7 = .ok (.iload 4, 2) := by decide +kernel
theorem dJ7_fill_d0a16_9 : decode cJ7_fill_d0a16 9 = .ok (.if_icmp .ge 13, 3) := by decide +kernel
theorem dJ7_fill_d0a16_12 : decode cJ7_fill_d0a16 12 = .ok (.aload_n 0, 1) := by decide +kernel
