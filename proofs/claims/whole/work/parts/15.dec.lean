theorem dX8_about_95 : decode cX8_about 95 = .ok (.iaload, 1) := by decide +kernel
theorem dX8_about_96 : decode cX8_about 96 = .ok (.ireturn, 1) := by decide +kernel
theorem dX8_about_97 : decode cX8_about 97 = .ok (.aload_n 0, 1) := by decide +kernel
theorem dX8_about_98 : decode cX8_about 98 = .ok (.getfield 50, 3) := by decide +kernel
theorem dX8_about_101 : decode cX8_about 101 = .ok (.iload_n 1, 1) := by decide +kernel
theorem dX8_about_102 : decode cX8_about 102 = .ok (.iaload, 1) := by decide +kernel
theorem dX8_about_103 : decode cX8_about 103 = .ok (.ireturn, 1) := by decide +kernel
theorem dX8_about_104 : decode cX8_about 104 = .ok (.iconst 1, 1) := by decide +kernel
theorem dX8_about_105 : decode cX8_about 105 = .ok (.istore 4, 2) := by decide +kernel
theorem dX8_about_107 : decode cX8_about 107 = .ok (.iload 4, 2) := by decide +kernel
theorem dX8_about_109 : decode cX8_about 109 = .ok (.aload_n 0, 1) := by decide +kernel
theorem dX8_about_110 : decode cX8_about 110 = .ok (.getfield 41, 3) := by decide +kernel
theorem dX8_about_113 : decode cX8_about 113 = .ok (.if_icmp .ge 28, 3) := by decide +kernel
theorem dX8_about_116 : decode cX8_about 116 = .ok (.iload_n 3, 1) := by decide +kernel
theorem dX8_about_117 : decode cX8_about 117 = .ok (.aload_n 0, 1) := by decide +kernel
theorem dX8_about_118 : decode cX8_about 118 = .ok (.getfield 44, 3) := by decide +kernel
theorem dX8_about_121 : decode cX8_about 121 = .ok (.iload 4, 2) := by decide +kernel
theorem dX8_about_123 : decode cX8_about 123 = .ok (.iaload, 1) := by decide +kernel
theorem dX8_about_124 : decode cX8_about 124 = .ok (.iload_n 1, 1) := by decide +kernel
theorem dX8_about_125 : decode cX8_about 125 = .ok (.if_icmp .ne 7, 3) := by decide +kernel
theorem dX8_about_128 : decode cX8_about 128 = .ok (.iconst 1, 1) := by decide +kernel
theorem dX8_about_129 : decode cX8_about 129 = .ok (.goto 4, 3) := by decide +kernel
theorem dX8_about_132 : decode cX8_about 132 = .ok (.iconst 0, 1) := by decide +kernel
theorem dX8_about_133 : decode cX8_about 133 = .ok (.iadd, 1) := by decide +kernel
theorem dX8_about_134 : decode cX8_about 134 = .ok (.istore_n 3, 1) := by decide +kernel
theorem dX8_about_135 : decode cX8_about 135 = .ok (.iinc 4 1, 3) := by decide +kernel
theorem dX8_about_138 : decode cX8_about 138 = .ok (.goto (-31), 3) := by decide +kernel
theorem dX8_about_141 : decode cX8_about 141 = .ok (.iload_n 3, 1) := by decide +kernel
theorem dX8_about_142 : decode cX8_about 142 = .ok (.ireturn, 1) := by decide +kernel
theorem dX8_about_143 : decode cX8_about 143 = .ok (.aload_n 0, 1) := by decide +kernel
theorem dX8_about_144 : decode cX8_about 144 = .ok (.iload_n 1, 1) := by decide +kernel
theorem dX8_about_145 : decode cX8_about 145 = .ok (.invokevirtual 147, 3) := by decide +kernel
theorem dX8_about_148 : decode cX8_about 148 = .ok (.ireturn, 1) := by decide +kernel
theorem dX8_about_149 : decode cX8_about 149 = .ok (.iload_n 1, 1) := by decide +kernel
theorem dX8_about_150 : decode cX8_about 150 = .ok (.ifCond .ne 7, 3) := by decide +kernel
theorem dX8_about_153 : decode cX8_about 153 = .ok (.iconst 0, 1) := by decide +kernel
theorem dX8_about_154 : decode cX8_about 154 = .ok (.goto 15, 3) := by decide +kernel
theorem dX8_about_157 : decode cX8_about 157 = .ok (.aload_n 0, 1) := by decide +kernel
theorem dX8_about_158 : decode cX8_about 158 = .ok (.getfield 53, 3) := by decide +kernel
theorem dX8_about_161 : decode cX8_about 161 = .ok (.iconst 3, 1) := by decide +kernel
theorem dX8_about_162 : decode cX8_about 162 = .ok (.iload_n 1, 1) := by decide +kernel
theorem dX8_about_163 : decode cX8_about 163 = .ok (.imul, 1) := by decide +kernel
theorem dX8_about_164 : decode cX8_about 164 = .ok (.iload_n 2, 1) := by decide +kernel
theorem dX8_about_165 : decode cX8_about 165 = .ok (.iadd, 1) := by decide +kernel
theorem dX8_about_166 : decode cX8_about 166 = .ok (.iconst 5, 1) := by decide +kernel
theorem dX8_about_167 : decode cX8_about 167 = .ok (.isub, 1) := by decide +kernel
theorem dX8_about_168 : decode cX8_about 168 = .ok (.iaload, 1) := by decide +kernel
theorem dX8_about_169 : decode cX8_about 169 = .ok (.ireturn, 1) := by decide +kernel
theorem dX8_isWhole_0 : decode cX8_isWhole 0 = .ok (.iconst 0, 1) := by decide +kernel
theorem dX8_isWhole_1 : decode cX8_isWhole 1 = .ok (.istore_n 1, 1) := by decide +kernel
theorem dX8_isWhole_2 : decode cX8_isWhole 2 = .ok (.iload_n 1, 1) := by decide +kernel
theorem dX8_isWhole_3 : decode cX8_isWhole 3 = .ok (.aload_n 0, 1) := by decide +kernel
theorem dX8_isWhole_4 : decode cX8_isWhole 4 = .ok (.getfield 41, 3) := by decide +kernel
theorem dX8_isWhole_7 : decode cX8_isWhole 7 = .ok (.if_icmp .ge 38, 3) := by decide +kernel
theorem dX8_isWhole_10 : decode cX8_isWhole 10 = .ok (.aload_n 0, 1) := by decide +kernel
theorem dX8_isWhole_11 : decode cX8_isWhole 11 = .ok (.getfield 50, 3) := by decide +kernel
theorem dX8_isWhole_14 : decode cX8_isWhole 14 = .ok (.iload_n 1, 1) := by decide +kernel
theorem dX8_isWhole_15 : decode cX8_isWhole 15 = .ok (.iaload, 1) := by decide +kernel
theorem dX8_isWhole_16 : decode cX8_isWhole 16 = .ok (.aload_n 0, 1) := by decide +kernel
theorem dX8_isWhole_17 : decode cX8_isWhole 17 = .ok (.getfield 32, 3) := by decide +kernel
theorem dX8_isWhole_20 : decode cX8_isWhole 20 = .ok (.iconst 1, 1) := by decide +kernel
theorem dX8_isWhole_21 : decode cX8_isWhole 21 = .ok (.isub, 1) := by decide +kernel
theorem dX8_isWhole_22 : decode cX8_isWhole 22 = .ok (.if_icmp .ge 17, 3) := by decide +kernel
theorem dX8_isWhole_25 : decode cX8_isWhole 25 = .ok (.aload_n 0, 1) := by decide +kernel
theorem dX8_isWhole_26 : decode cX8_isWhole 26 = .ok (.iload_n 1, 1) := by decide +kernel
theorem dX8_isWhole_27 : decode cX8_isWhole 27 = .ok (.invokevirtual 147, 3) := by decide +kernel
theorem dX8_isWhole_30 : decode cX8_isWhole 30 = .ok (.aload_n 0, 1) := by decide +kernel
theorem dX8_isWhole_31 : decode cX8_isWhole 31 = .ok (.getfield 35, 3) := by decide +kernel
theorem dX8_isWhole_34 : decode cX8_isWhole 34 = .ok (.if_icmp .eq 5, 3) := by decide +kernel
theorem dX8_isWhole_37 : decode cX8_isWhole 37 = .ok (.iconst 0, 1) := by decide +kernel
theorem dX8_isWhole_38 : decode cX8_isWhole 38 = .ok (.ireturn, 1) := by decide +kernel
theorem dX8_isWhole_39 : decode cX8_isWhole 39 = .ok (.iinc 1 1, 3) := by decide +kernel
theorem dX8_isWhole_42 : decode cX8_isWhole 42 = .ok (.goto (-40), 3) := by decide +kernel
theorem dX8_isWhole_45 : decode cX8_isWhole 45 = .ok (.aload_n 0, 1) := by decide +kernel
theorem dX8_isWhole_46 : decode cX8_isWhole 46 = .ok (.getfield 119, 3) := by decide +kernel
theorem dX8_isWhole_49 : decode cX8_isWhole 49 = .ok (.ifCond .le 7, 3) := by decide +kernel
theorem dX8_isWhole_52 : decode cX8_isWhole 52 = .ok (.iconst 1, 1) := by decide +kernel
theorem dX8_isWhole_53 : decode cX8_isWhole 53 = .ok (.goto 4, 3) := by decide +kernel
theorem dX8_isWhole_56 : decode cX8_isWhole 56 = .ok (.iconst 0, 1) := by decide +kernel
theorem dX8_isWhole_57 : decode cX8_isWhole 57 = .ok (.ireturn, 1) := by decide +kernel
theorem dX8_count_0 : decode cX8_count 0 = .ok (.iload_n 1, 1) := by decide +kernel
theorem dX8_count_1 : decode cX8_count 1 = .ok (.tableswitch 94 0 6 #[43, 48, 53, 58, 71, 76, 81], 43) := by decide +kernel
theorem dX8_count_44 : decode cX8_count 44 = .ok (.aload_n 0, 1) := by decide +kernel
theorem dX8_count_45 : decode cX8_count 45 = .ok (.getfield 119, 3) := by decide +kernel
theorem dX8_count_48 : decode cX8_count 48 = .ok (.ireturn, 1) := by decide +kernel
theorem dX8_count_49 : decode cX8_count 49 = .ok (.aload_n 0, 1) := by decide +kernel
theorem dX8_count_50 : decode cX8_count 50 = .ok (.getfield 41, 3) := by decide +kernel
theorem dX8_count_53 : decode cX8_count 53 = .ok (.ireturn, 1) := by decide +kernel
theorem dX8_count_54 : decode cX8_count 54 = .ok (.aload_n 0, 1) := by decide +kernel
theorem dX8_count_55 : decode cX8_count 55 = .ok (.invokevirtual 126, 3) := by decide +kernel
theorem dX8_count_58 : decode cX8_count 58 = .ok (.ireturn, 1) := by decide +kernel
theorem dX8_count_59 : decode cX8_count 59 = .ok (.aload_n 0, 1) := by decide +kernel
theorem dX8_count_60 : decode cX8_count 60 = .ok (.getfield 134, 3) := by decide +kernel
theorem dX8_count_63 : decode cX8_count 63 = .ok (.ifCond .eq 7, 3) := by decide +kernel
theorem dX8_count_66 : decode cX8_count 66 = .ok (.iconst 1, 1) := by decide +kernel
theorem dX8_count_67 : decode cX8_count 67 = .ok (.goto 4, 3) := by decide +kernel
theorem dX8_count_70 : decode cX8_count 70 = .ok (.iconst 0, 1) := by decide +kernel
theorem dX8_count_71 : decode cX8_count 71 = .ok (.ireturn, 1) := by decide +kernel
theorem dX8_count_72 : decode cX8_count 72 = .ok (.aload_n 0, 1) := by decide +kernel
theorem dX8_count_73 : decode cX8_count 73 = .ok (.getfield 32, 3) := by decide +kernel
theorem dX8_count_76 : decode cX8_count 76 = .ok (.ireturn, 1) := by decide +kernel
theorem dX8_count_77 : decode cX8_count 77 = .ok (.aload_n 0, 1) := by decide +kernel
theorem dX8_count_78 : decode cX8_count 78 = .ok (.getfield 35, 3) := by decide +kernel
theorem dX8_count_81 : decode cX8_count 81 = .ok (.ireturn, 1) := by decide +kernel
theorem dX8_count_82 : decode cX8_count 82 = .ok (.aload_n 0, 1) := by decide +kernel
theorem dX8_count_83 : decode cX8_count 83 = .ok (.invokevirtual 151, 3) := by decide +kernel
theorem dX8_count_86 : decode cX8_count 86 = .ok (.ifCond .eq 7, 3) := by decide +kernel
theorem dX8_count_89 : decode cX8_count 89 = .ok (.iconst 1, 1) := by decide +kernel
theorem dX8_count_90 : decode cX8_count 90 = .ok (.goto 4, 3) := by decide +kernel
theorem dX8_count_93 : decode cX8_count 93 = .ok (.iconst 0, 1) := by decide +kernel
theorem dX8_count_94 : decode cX8_count 94 = .ok (.ireturn, 1) := by decide +kernel
theorem dX8_count_95 : decode cX8_count 95 = .ok (.iconst (-1), 1) := by decide +kernel
theorem dX8_count_96 : decode cX8_count 96 = .ok (.ireturn, 1) := by decide +kernel
theorem dX8_unfold_0 : decode cX8_unfold 0 = .ok (.iload_n 1, 1) := by decide +kernel
theorem dX8_unfold_1 : decode cX8_unfold 1 = .ok (.istore_n 2, 1) := by decide +kernel
theorem dX8_unfold_2 : decode cX8_unfold 2 = .ok (.aload_n 0, 1) := by decide +kernel
theorem dX8_unfold_3 : decode cX8_unfold 3 = .ok (.getfield 119, 3) := by decide +kernel
theorem dX8_unfold_6 : decode cX8_unfold 6 = .ok (.iconst 1, 1) := by decide +kernel
theorem dX8_unfold_7 : decode cX8_unfold 7 = .ok (.isub, 1) := by decide +kernel
theorem dX8_unfold_8 : decode cX8_unfold 8 = .ok (.istore_n 3, 1) := by decide +kernel
theorem dX8_unfold_9 : decode cX8_unfold 9 = .ok (.iload_n 3, 1) := by decide +kernel
theorem dX8_unfold_10 : decode cX8_unfold 10 = .ok (.ifCond .lt 36, 3) := by decide +kernel
theorem dX8_unfold_13 : decode cX8_unfold 13 = .ok (.aload_n 0, 1) := by decide +kernel
theorem dX8_unfold_14 : decode cX8_unfold 14 = .ok (.getfield 56, 3) := by decide +kernel
theorem dX8_unfold_17 : decode cX8_unfold 17 = .ok (.iload_n 3, 1) := by decide +kernel
theorem dX8_unfold_18 : decode cX8_unfold 18 = .ok (.iload_n 2, 1) := by decide +kernel
theorem dX8_unfold_19 : decode cX8_unfold 19 = .ok (.aload_n 0, 1) := by decide +kernel
theorem dX8_unfold_20 : decode cX8_unfold 20 = .ok (.getfield 17, 3) := by decide +kernel
theorem dX8_unfold_23 : decode cX8_unfold 23 = .ok (.iload_n 3, 1) := by decide +kernel
theorem dX8_unfold_24 : decode cX8_unfold 24 = .ok (.iaload, 1) := by decide +kernel
theorem dX8_unfold_25 : decode cX8_unfold 25 = .ok (.iconst 1, 1) := by decide +kernel
theorem dX8_unfold_26 : decode cX8_unfold 26 = .ok (.iadd, 1) := by decide +kernel
theorem dX8_unfold_27 : decode cX8_unfold 27 = .ok (.irem, 1) := by decide +kernel
theorem dX8_unfold_28 : decode cX8_unfold 28 = .ok (.iastore, 1) := by decide +kernel
theorem dX8_unfold_29 : decode cX8_unfold 29 = .ok (.iload_n 2, 1) := by decide +kernel
theorem dX8_unfold_30 : decode cX8_unfold 30 = .ok (.aload_n 0, 1) := by decide +kernel
theorem dX8_unfold_31 : decode cX8_unfold 31 = .ok (.getfield 17, 3) := by decide +kernel
theorem dX8_unfold_34 : decode cX8_unfold 34 = .ok (.iload_n 3, 1) := by decide +kernel
theorem dX8_unfold_35 : decode cX8_unfold 35 = .ok (.iaload, 1) := by decide +kernel
theorem dX8_unfold_36 : decode cX8_unfold 36 = .ok (.iconst 1, 1) := by decide +kernel
theorem dX8_unfold_37 : decode cX8_unfold 37 = .ok (.iadd, 1) := by decide +kernel
theorem dX8_unfold_38 : decode cX8_unfold 38 = .ok (.idiv, 1) := by decide +kernel
theorem dX8_unfold_39 : decode cX8_unfold 39 = .ok (.istore_n 2, 1) := by decide +kernel
theorem dX8_unfold_40 : decode cX8_unfold 40 = .ok (.iinc 3 (-1), 3) := by decide +kernel
theorem dX8_unfold_43 : decode cX8_unfold 43 = .ok (.goto (-34), 3) := by decide +kernel
theorem dX8_unfold_46 : decode cX8_unfold 46 = .ok (.return_, 1) := by decide +kernel
theorem dX8_lowest_0 : decode cX8_lowest 0 = .ok (.aload_n 0, 1) := by decide +kernel
theorem dX8_lowest_1 : decode cX8_lowest 1 = .ok (.getfield 23, 3) := by decide +kernel
theorem dX8_lowest_4 : decode cX8_lowest 4 = .ok (.iload_n 1, 1) := by decide +kernel
theorem dX8_lowest_5 : decode cX8_lowest 5 = .ok (.iaload, 1) := by decide +kernel
theorem dX8_lowest_6 : decode cX8_lowest 6 = .ok (.aload_n 0, 1) := by decide +kernel
theorem dX8_lowest_7 : decode cX8_lowest 7 = .ok (.getfield 56, 3) := by decide +kernel
theorem dX8_lowest_10 : decode cX8_lowest 10 = .ok (.iload_n 1, 1) := by decide +kernel
theorem dX8_lowest_11 : decode cX8_lowest 11 = .ok (.iaload, 1) := by decide +kernel
theorem dX8_lowest_12 : decode cX8_lowest 12 = .ok (.if_icmp .ge 12, 3) := by decide +kernel
theorem dX8_lowest_15 : decode cX8_lowest 15 = .ok (.aload_n 0, 1) := by decide +kernel
theorem dX8_lowest_16 : decode cX8_lowest 16 = .ok (.getfield 23, 3) := by decide +kernel
theorem dX8_lowest_19 : decode cX8_lowest 19 = .ok (.iload_n 1, 1) := by decide +kernel
theorem dX8_lowest_20 : decode cX8_lowest 20 = .ok (.iaload, 1) := by decide +kernel
theorem dX8_lowest_21 : decode cX8_lowest 21 = .ok (.goto 9, 3) := by decide +kernel
theorem dX8_lowest_24 : decode cX8_lowest 24 = .ok (.aload_n 0, 1) := by decide +kernel
theorem dX8_lowest_25 : decode cX8_lowest 25 = .ok (.getfield 56, 3) := by decide +kernel
theorem dX8_lowest_28 : decode cX8_lowest 28 = .ok (.iload_n 1, 1) := by decide +kernel
theorem dX8_lowest_29 : decode cX8_lowest 29 = .ok (.iaload, 1) := by decide +kernel
theorem dX8_lowest_30 : decode cX8_lowest 30 = .ok (.ireturn, 1) := by decide +kernel
theorem dX8_highest_0 : decode cX8_highest 0 = .ok (.aload_n 0, 1) := by decide +kernel
theorem dX8_highest_1 : decode cX8_highest 1 = .ok (.getfield 56, 3) := by decide +kernel
theorem dX8_highest_4 : decode cX8_highest 4 = .ok (.iload_n 1, 1) := by decide +kernel
theorem dX8_highest_5 : decode cX8_highest 5 = .ok (.iaload, 1) := by decide +kernel
theorem dX8_highest_6 : decode cX8_highest 6 = .ok (.aload_n 0, 1) := by decide +kernel
theorem dX8_highest_7 : decode cX8_highest 7 = .ok (.getfield 13, 3) := by decide +kernel
theorem dX8_highest_10 : decode cX8_highest 10 = .ok (.iload_n 1, 1) := by decide +kernel
theorem dX8_highest_11 : decode cX8_highest 11 = .ok (.iaload, 1) := by decide +kernel
theorem dX8_highest_12 : decode cX8_highest 12 = .ok (.isub, 1) := by decide +kernel
theorem dX8_highest_13 : decode cX8_highest 13 = .ok (.istore_n 2, 1) := by decide +kernel
theorem dX8_highest_14 : decode cX8_highest 14 = .ok (.iload_n 2, 1) := by decide +kernel
theorem dX8_highest_15 : decode cX8_highest 15 = .ok (.ifCond .ge 7, 3) := by decide +kernel
theorem dX8_highest_18 : decode cX8_highest 18 = .ok (.iconst 0, 1) := by decide +kernel
theorem dX8_highest_19 : decode cX8_highest 19 = .ok (.goto 23, 3) := by decide +kernel
theorem dX8_highest_22 : decode cX8_highest 22 = .ok (.iload_n 2, 1) := by decide +kernel
theorem dX8_highest_23 : decode cX8_highest 23 = .ok (.aload_n 0, 1) := by decide +kernel
theorem dX8_highest_24 : decode cX8_highest 24 = .ok (.getfield 20, 3) := by decide +kernel
theorem dX8_highest_27 : decode cX8_highest 27 = .ok (.iload_n 1, 1) := by decide +kernel
theorem dX8_highest_28 : decode cX8_highest 28 = .ok (.iaload, 1) := by decide +kernel
theorem dX8_highest_29 : decode cX8_highest 29 = .ok (.if_icmp .ge 7, 3) := by decide +kernel
theorem dX8_highest_32 : decode cX8_highest 32 = .ok (.iload_n 2, 1) := by decide +kernel
theorem dX8_highest_33 : decode cX8_highest 33 = .ok (.goto 9, 3) := by decide +kernel
theorem dX8_highest_36 : decode cX8_highest 36 = .ok (.aload_n 0, 1) := by decide +kernel
theorem dX8_highest_37 : decode cX8_highest 37 = .ok (.getfield 20, 3) := by decide +kernel
theorem dX8_highest_40 : decode cX8_highest 40 = .ok (.iload_n 1, 1) := by decide +kernel
theorem dX8_highest_41 : decode cX8_highest 41 = .ok (.iaload, 1) := by decide +kernel
theorem dX8_highest_42 : decode cX8_highest 42 = .ok (.istore_n 3, 1) := by decide +kernel
theorem dX8_highest_43 : decode cX8_highest 43 = .ok (.iload_n 3, 1) := by decide +kernel
theorem dX8_highest_44 : decode cX8_highest 44 = .ok (.aload_n 0, 1) := by decide +kernel
theorem dX8_highest_45 : decode cX8_highest 45 = .ok (.iload_n 1, 1) := by decide +kernel
theorem dX8_highest_46 : decode cX8_highest 46 = .ok (.invokevirtual 155, 3) := by decide +kernel
theorem dX8_highest_49 : decode cX8_highest 49 = .ok (.if_icmp .ge 11, 3) := by decide +kernel
theorem dX8_highest_52 : decode cX8_highest 52 = .ok (.aload_n 0, 1) := by decide +kernel
theorem dX8_highest_53 : decode cX8_highest 53 = .ok (.iload_n 1, 1) := by decide +kernel
theorem dX8_highest_54 : decode cX8_highest 54 = .ok (.invokevirtual 155, 3) := by decide +kernel
theorem dX8_highest_57 : decode cX8_highest 57 = .ok (.goto 4, 3) := by decide +kernel
theorem dX8_highest_60 : decode cX8_highest 60 = .ok (.iload_n 3, 1) := by decide +kernel
theorem dX8_highest_61 : decode cX8_highest 61 = .ok (.ireturn, 1) := by decide +kernel
theorem dX8_earns_0 : decode cX8_earns 0 = .ok (.iconst 0, 1) := by decide +kernel
theorem dX8_earns_1 : decode cX8_earns 1 = .ok (.istore_n 2, 1) := by decide +kernel
theorem dX8_earns_2 : decode cX8_earns 2 = .ok (.iconst 0, 1) := by decide +kernel
theorem dX8_earns_3 : decode cX8_earns 3 = .ok (.istore_n 3, 1) := by decide +kernel
theorem dX8_earns_4 : decode cX8_earns 4 = .ok (.iload_n 3, 1) := by decide +kernel
theorem dX8_earns_5 : decode cX8_earns 5 = .ok (.aload_n 0, 1) := by decide +kernel
theorem dX8_earns_6 : decode cX8_earns 6 = .ok (.getfield 119, 3) := by decide +kernel
theorem dX8_earns_9 : decode cX8_earns 9 = .ok (.if_icmp .ge 42, 3) := by decide +kernel
theorem dX8_earns_12 : decode cX8_earns 12 = .ok (.iload_n 2, 1) := by decide +kernel
theorem dX8_earns_13 : decode cX8_earns 13 = .ok (.aload_n 0, 1) := by decide +kernel
theorem dX8_earns_14 : decode cX8_earns 14 = .ok (.getfield 38, 3) := by decide +kernel
theorem dX8_earns_17 : decode cX8_earns 17 = .ok (.iload_n 1, 1) := by decide +kernel
theorem dX8_earns_18 : decode cX8_earns 18 = .ok (.iaload, 1) := by decide +kernel
theorem dX8_earns_19 : decode cX8_earns 19 = .ok (.aload_n 0, 1) := by decide +kernel
theorem dX8_earns_20 : decode cX8_earns 20 = .ok (.getfield 26, 3) := by decide +kernel
theorem dX8_earns_23 : decode cX8_earns 23 = .ok (.bipush 31, 2) := by decide +kernel
theorem dX8_earns_25 : decode cX8_earns 25 = .ok (.iload_n 3, 1) := by decide +kernel
theorem dX8_earns_26 : decode cX8_earns 26 = .ok (.imul, 1) := by decide +kernel
theorem dX8_earns_27 : decode cX8_earns 27 = .ok (.aload_n 0, 1) := by decide +kernel
theorem dX8_earns_28 : decode cX8_earns 28 = .ok (.getfield 56, 3) := by decide +kernel
theorem dX8_earns_31 : decode cX8_earns 31 = .ok (.iload_n 3, 1) := by decide +kernel
theorem dX8_earns_32 : decode cX8_earns 32 = .ok (.iaload, 1) := by decide +kernel
theorem dX8_earns_33 : decode cX8_earns 33 = .ok (.iadd, 1) := by decide +kernel
theorem dX8_earns_34 : decode cX8_earns 34 = .ok (.iaload, 1) := by decide +kernel
theorem dX8_earns_35 : decode cX8_earns 35 = .ok (.imul, 1) := by decide +kernel
theorem dX8_earns_36 : decode cX8_earns 36 = .ok (.aload_n 0, 1) := by decide +kernel
theorem dX8_earns_37 : decode cX8_earns 37 = .ok (.getfield 59, 3) := by decide +kernel
theorem dX8_earns_40 : decode cX8_earns 40 = .ok (.iload_n 3, 1) := by decide +kernel
theorem dX8_earns_41 : decode cX8_earns 41 = .ok (.iaload, 1) := by decide +kernel
theorem dX8_earns_42 : decode cX8_earns 42 = .ok (.imul, 1) := by decide +kernel
theorem dX8_earns_43 : decode cX8_earns 43 = .ok (.iadd, 1) := by decide +kernel
theorem dX8_earns_44 : decode cX8_earns 44 = .ok (.istore_n 2, 1) := by decide +kernel
theorem dX8_earns_45 : decode cX8_earns 45 = .ok (.iinc 3 1, 3) := by decide +kernel
theorem dX8_earns_48 : decode cX8_earns 48 = .ok (.goto (-44), 3) := by decide +kernel
theorem dX8_earns_51 : decode cX8_earns 51 = .ok (.iload_n 2, 1) := by decide +kernel
theorem dX8_earns_52 : decode cX8_earns 52 = .ok (.ireturn, 1) := by decide +kernel
theorem dX8_comes_0 : decode cX8_comes 0 = .ok (.iconst 0, 1) := by decide +kernel
theorem dX8_comes_1 : decode cX8_comes 1 = .ok (.istore_n 2, 1) := by decide +kernel
theorem dX8_comes_2 : decode cX8_comes 2 = .ok (.iconst 0, 1) := by decide +kernel
theorem dX8_comes_3 : decode cX8_comes 3 = .ok (.istore_n 3, 1) := by decide +kernel
theorem dX8_comes_4 : decode cX8_comes 4 = .ok (.aload_n 0, 1) := by decide +kernel
theorem dX8_comes_5 : decode cX8_comes 5 = .ok (.iconst 0, 1) := by decide +kernel
theorem dX8_comes_6 : decode cX8_comes 6 = .ok (.putfield 158, 3) := by decide +kernel
theorem dX8_comes_9 : decode cX8_comes 9 = .ok (.iconst 0, 1) := by decide +kernel
theorem dX8_comes_10 : decode cX8_comes 10 = .ok (.istore 4, 2) := by decide +kernel
theorem dX8_comes_12 : decode cX8_comes 12 = .ok (.iload 4, 2) := by decide +kernel
theorem dX8_comes_14 : decode cX8_comes 14 = .ok (.aload_n 0, 1) := by decide +kernel
theorem dX8_comes_15 : decode cX8_comes 15 = .ok (.getfield 119, 3) := by decide +kernel
theorem dX8_comes_18 : decode cX8_comes 18 = .ok (.if_icmp .ge 113, 3) := by decide +kernel
theorem dX8_comes_21 : decode cX8_comes 21 = .ok (.aload_n 0, 1) := by decide +kernel
theorem dX8_comes_22 : decode cX8_comes 22 = .ok (.getfield 56, 3) := by decide +kernel
theorem dX8_comes_25 : decode cX8_comes 25 = .ok (.iload 4, 2) := by decide +kernel
theorem dX8_comes_27 : decode cX8_comes 27 = .ok (.iaload, 1) := by decide +kernel
theorem dX8_comes_28 : decode cX8_comes 28 = .ok (.aload_n 0, 1) := by decide +kernel
theorem dX8_comes_29 : decode cX8_comes 29 = .ok (.getfield 59, 3) := by decide +kernel
theorem dX8_comes_32 : decode cX8_comes 32 = .ok (.iload 4, 2) := by decide +kernel
theorem dX8_comes_34 : decode cX8_comes 34 = .ok (.iaload, 1) := by decide +kernel
theorem dX8_comes_35 : decode cX8_comes 35 = .ok (.isub, 1) := by decide +kernel
theorem dX8_comes_36 : decode cX8_comes 36 = .ok (.iload 4, 2) := by decide +kernel
theorem dX8_comes_38 : decode cX8_comes 38 = .ok (.ifCond .le 15, 3) := by decide +kernel
theorem dX8_comes_41 : decode cX8_comes 41 = .ok (.aload_n 0, 1) := by decide +kernel
theorem dX8_comes_42 : decode cX8_comes 42 = .ok (.getfield 59, 3) := by decide +kernel
theorem dX8_comes_45 : decode cX8_comes 45 = .ok (.iload 4, 2) := by decide +kernel
theorem dX8_comes_47 : decode cX8_comes 47 = .ok (.iconst 1, 1) := by decide +kernel
theorem dX8_comes_48 : decode cX8_comes 48 = .ok (.isub, 1) := by decide +kernel
theorem dX8_comes_49 : decode cX8_comes 49 = .ok (.iaload, 1) := by decide +kernel
theorem dX8_comes_50 : decode cX8_comes 50 = .ok (.goto 4, 3) := by decide +kernel
theorem dX8_comes_53 : decode cX8_comes 53 = .ok (.iconst 0, 1) := by decide +kernel
theorem dX8_comes_54 : decode cX8_comes 54 = .ok (.iadd, 1) := by decide +kernel
theorem dX8_comes_55 : decode cX8_comes 55 = .ok (.aload_n 0, 1) := by decide +kernel
theorem dX8_comes_56 : decode cX8_comes 56 = .ok (.getfield 53, 3) := by decide +kernel
theorem dX8_comes_59 : decode cX8_comes 59 = .ok (.iconst 3, 1) := by decide +kernel
theorem dX8_comes_60 : decode cX8_comes 60 = .ok (.iload_n 1, 1) := by decide +kernel
theorem dX8_comes_61 : decode cX8_comes 61 = .ok (.imul, 1) := by decide +kernel
theorem dX8_comes_62 : decode cX8_comes 62 = .ok (.iload 4, 2) := by decide +kernel
theorem dX8_comes_64 : decode cX8_comes 64 = .ok (.iadd, 1) := by decide +kernel
theorem dX8_comes_65 : decode cX8_comes 65 = .ok (.iaload, 1) := by decide +kernel
theorem dX8_comes_66 : decode cX8_comes 66 = .ok (.iadd, 1) := by decide +kernel
theorem dX8_comes_67 : decode cX8_comes 67 = .ok (.iload_n 3, 1) := by decide +kernel
theorem dX8_comes_68 : decode cX8_comes 68 = .ok (.iadd, 1) := by decide +kernel
theorem dX8_comes_69 : decode cX8_comes 69 = .ok (.istore 5, 2) := by decide +kernel
theorem dX8_comes_71 : decode cX8_comes 71 = .ok (.iload 5, 2) := by decide +kernel
theorem dX8_comes_73 : decode cX8_comes 73 = .ok (.aload_n 0, 1) := by decide +kernel
theorem dX8_comes_74 : decode cX8_comes 74 = .ok (.getfield 17, 3) := by decide +kernel
theorem dX8_comes_77 : decode cX8_comes 77 = .ok (.iload 4, 2) := by decide +kernel
theorem dX8_comes_79 : decode cX8_comes 79 = .ok (.iaload, 1) := by decide +kernel
theorem dX8_comes_80 : decode cX8_comes 80 = .ok (.if_icmp .le 16, 3) := by decide +kernel
theorem dX8_comes_83 : decode cX8_comes 83 = .ok (.iload 5, 2) := by decide +kernel
theorem dX8_comes_85 : decode cX8_comes 85 = .ok (.aload_n 0, 1) := by decide +kernel
theorem dX8_comes_86 : decode cX8_comes 86 = .ok (.getfield 17, 3) := by decide +kernel
theorem dX8_comes_89 : decode cX8_comes 89 = .ok (.iload 4, 2) := by decide +kernel
theorem dX8_comes_91 : decode cX8_comes 91 = .ok (.iaload, 1) := by decide +kernel
theorem dX8_comes_92 : decode cX8_comes 92 = .ok (.isub, 1) := by decide +kernel
theorem dX8_comes_93 : decode cX8_comes 93 = .ok (.goto 4, 3) := by decide +kernel
theorem dX8_comes_96 : decode cX8_comes 96 = .ok (.iconst 0, 1) := by decide +kernel
theorem dX8_comes_97 : decode cX8_comes 97 = .ok (.istore_n 3, 1) := by decide +kernel
theorem dX8_comes_98 : decode cX8_comes 98 = .ok (.aload_n 0, 1) := by decide +kernel
theorem dX8_comes_99 : decode cX8_comes 99 = .ok (.dup, 1) := by decide +kernel
theorem dX8_comes_100 : decode cX8_comes 100 = .ok (.getfield 158, 3) := by decide +kernel
theorem dX8_comes_103 : decode cX8_comes 103 = .ok (.iload_n 3, 1) := by decide +kernel
theorem dX8_comes_104 : decode cX8_comes 104 = .ok (.iadd, 1) := by decide +kernel
theorem dX8_comes_105 : decode cX8_comes 105 = .ok (.putfield 158, 3) := by decide +kernel
theorem dX8_comes_108 : decode cX8_comes 108 = .ok (.iload_n 2, 1) := by decide +kernel
theorem dX8_comes_109 : decode cX8_comes 109 = .ok (.aload_n 0, 1) := by decide +kernel
theorem dX8_comes_110 : decode cX8_comes 110 = .ok (.getfield 17, 3) := by decide +kernel
theorem dX8_comes_113 : decode cX8_comes 113 = .ok (.iload 4, 2) := by decide +kernel
theorem dX8_comes_115 : decode cX8_comes 115 = .ok (.iaload, 1) := by decide +kernel
theorem dX8_comes_116 : decode cX8_comes 116 = .ok (.iconst 1, 1) := by decide +kernel
theorem dX8_comes_117 : decode cX8_comes 117 = .ok (.iadd, 1) := by decide +kernel
theorem dX8_comes_118 : decode cX8_comes 118 = .ok (.imul, 1) := by decide +kernel
theorem dX8_comes_119 : decode cX8_comes 119 = .ok (.iload 5, 2) := by decide +kernel
theorem dX8_comes_121 : decode cX8_comes 121 = .ok (.iadd, 1) := by decide +kernel
theorem dX8_comes_122 : decode cX8_comes 122 = .ok (.iload_n 3, 1) := by decide +kernel
theorem dX8_comes_123 : decode cX8_comes 123 = .ok (.isub, 1) := by decide +kernel
theorem dX8_comes_124 : decode cX8_comes 124 = .ok (.istore_n 2, 1) := by decide +kernel
theorem dX8_comes_125 : decode cX8_comes 125 = .ok (.iinc 4 1, 3) := by decide +kernel
theorem dX8_comes_128 : decode cX8_comes 128 = .ok (.goto (-116), 3) := by decide +kernel
theorem dX8_comes_131 : decode cX8_comes 131 = .ok (.iload_n 2, 1) := by decide +kernel
theorem dX8_comes_132 : decode cX8_comes 132 = .ok (.ireturn, 1) := by decide +kernel
theorem dX8_firstLets_0 : decode cX8_firstLets 0 = .ok (.iconst 0, 1) := by decide +kernel
theorem dX8_firstLets_1 : decode cX8_firstLets 1 = .ok (.istore_n 1, 1) := by decide +kernel
theorem dX8_firstLets_2 : decode cX8_firstLets 2 = .ok (.iload_n 1, 1) := by decide +kernel
theorem dX8_firstLets_3 : decode cX8_firstLets 3 = .ok (.aload_n 0, 1) := by decide +kernel
theorem dX8_firstLets_4 : decode cX8_firstLets 4 = .ok (.getfield 119, 3) := by decide +kernel
theorem dX8_firstLets_7 : decode cX8_firstLets 7 = .ok (.if_icmp .ge 20, 3) := by decide +kernel
theorem dX8_firstLets_10 : decode cX8_firstLets 10 = .ok (.aload_n 0, 1) := by decide +kernel
theorem dX8_firstLets_11 : decode cX8_firstLets 11 = .ok (.getfield 59, 3) := by decide +kernel
theorem dX8_firstLets_14 : decode cX8_firstLets 14 = .ok (.iload_n 1, 1) := by decide +kernel
theorem dX8_firstLets_15 : decode cX8_firstLets 15 = .ok (.aload_n 0, 1) := by decide +kernel
theorem dX8_firstLets_16 : decode cX8_firstLets 16 = .ok (.iload_n 1, 1) := by decide +kernel
theorem dX8_firstLets_17 : decode cX8_firstLets 17 = .ok (.invokevirtual 155, 3) := by decide +kernel
theorem dX8_firstLets_20 : decode cX8_firstLets 20 = .ok (.iastore, 1) := by decide +kernel
theorem dX8_firstLets_21 : decode cX8_firstLets 21 = .ok (.iinc 1 1, 3) := by decide +kernel
theorem dX8_firstLets_24 : decode cX8_firstLets 24 = .ok (.goto (-22), 3) := by decide +kernel
theorem dX8_firstLets_27 : decode cX8_firstLets 27 = .ok (.return_, 1) := by decide +kernel
theorem dX8_nextLets_0 : decode cX8_nextLets 0 = .ok (.aload_n 0, 1) := by decide +kernel
theorem dX8_nextLets_1 : decode cX8_nextLets 1 = .ok (.getfield 119, 3) := by decide +kernel
theorem dX8_nextLets_4 : decode cX8_nextLets 4 = .ok (.iconst 1, 1) := by decide +kernel
theorem dX8_nextLets_5 : decode cX8_nextLets 5 = .ok (.isub, 1) := by decide +kernel
theorem dX8_nextLets_6 : decode cX8_nextLets 6 = .ok (.istore_n 1, 1) := by decide +kernel
theorem dX8_nextLets_7 : decode cX8_nextLets 7 = .ok (.iload_n 1, 1) := by decide +kernel
theorem dX8_nextLets_8 : decode cX8_nextLets 8 = .ok (.ifCond .lt 34, 3) := by decide +kernel
theorem dX8_nextLets_11 : decode cX8_nextLets 11 = .ok (.aload_n 0, 1) := by decide +kernel
theorem dX8_nextLets_12 : decode cX8_nextLets 12 = .ok (.getfield 59, 3) := by decide +kernel
theorem dX8_nextLets_15 : decode cX8_nextLets 15 = .ok (.iload_n 1, 1) := by decide +kernel
theorem dX8_nextLets_16 : decode cX8_nextLets 16 = .ok (.iaload, 1) := by decide +kernel
theorem dX8_nextLets_17 : decode cX8_nextLets 17 = .ok (.aload_n 0, 1) := by decide +kernel
theorem dX8_nextLets_18 : decode cX8_nextLets 18 = .ok (.iload_n 1, 1) := by decide +kernel
theorem dX8_nextLets_19 : decode cX8_nextLets 19 = .ok (.invokevirtual 161, 3) := by decide +kernel
theorem dX8_nextLets_22 : decode cX8_nextLets 22 = .ok (.if_icmp .ne 20, 3) := by decide +kernel
theorem dX8_nextLets_25 : decode cX8_nextLets 25 = .ok (.aload_n 0, 1) := by decide +kernel
theorem dX8_nextLets_26 : decode cX8_nextLets 26 = .ok (.getfield 59, 3) := by decide +kernel
theorem dX8_nextLets_29 : decode cX8_nextLets 29 = .ok (.iload_n 1, 1) := by decide +kernel
theorem dX8_nextLets_30 : decode cX8_nextLets 30 = .ok (.aload_n 0, 1) := by decide +kernel
theorem dX8_nextLets_31 : decode cX8_nextLets 31 = .ok (.iload_n 1, 1) := by decide +kernel
theorem dX8_nextLets_32 : decode cX8_nextLets 32 = .ok (.invokevirtual 155, 3) := by decide +kernel
theorem dX8_nextLets_35 : decode cX8_nextLets 35 = .ok (.iastore, 1) := by decide +kernel
theorem dX8_nextLets_36 : decode cX8_nextLets 36 = .ok (.iinc 1 (-1), 3) := by decide +kernel
theorem dX8_nextLets_39 : decode cX8_nextLets 39 = .ok (.goto (-32), 3) := by decide +kernel
theorem dX8_nextLets_42 : decode cX8_nextLets 42 = .ok (.iload_n 1, 1) := by decide +kernel
theorem dX8_nextLets_43 : decode cX8_nextLets 43 = .ok (.ifCond .ge 5, 3) := by decide +kernel
theorem dX8_nextLets_46 : decode cX8_nextLets 46 = .ok (.iconst 0, 1) := by decide +kernel
theorem dX8_nextLets_47 : decode cX8_nextLets 47 = .ok (.ireturn, 1) := by decide +kernel
theorem dX8_nextLets_48 : decode cX8_nextLets 48 = .ok (.aload_n 0, 1) := by decide +kernel
theorem dX8_nextLets_49 : decode cX8_nextLets 49 = .ok (.getfield 59, 3) := by decide +kernel
theorem dX8_nextLets_52 : decode cX8_nextLets 52 = .ok (.iload_n 1, 1) := by decide +kernel
theorem dX8_nextLets_53 : decode cX8_nextLets 53 = .ok (.dup2, 1) := by decide +kernel
theorem dX8_nextLets_54 : decode cX8_nextLets 54 = .ok (.iaload, 1) := by decide +kernel
theorem dX8_nextLets_55 : decode cX8_nextLets 55 = .ok (.iconst 1, 1) := by decide +kernel
theorem dX8_nextLets_56 : decode cX8_nextLets 56 = .ok (.iadd, 1) := by decide +kernel
theorem dX8_nextLets_57 : decode cX8_nextLets 57 = .ok (.iastore, 1) := by decide +kernel
theorem dX8_nextLets_58 : decode cX8_nextLets 58 = .ok (.iconst 1, 1) := by decide +kernel
theorem dX8_nextLets_59 : decode cX8_nextLets 59 = .ok (.ireturn, 1) := by decide +kernel
theorem dX8_endOf_0 : decode cX8_endOf 0 = .ok (.aload_n 0, 1) := by decide +kernel
theorem dX8_endOf_1 : decode cX8_endOf 1 = .ok (.iload_n 1, 1) := by decide +kernel
theorem dX8_endOf_2 : decode cX8_endOf 2 = .ok (.invokevirtual 164, 3) := by decide +kernel
theorem dX8_endOf_5 : decode cX8_endOf 5 = .ok (.iconst 0, 1) := by decide +kernel
theorem dX8_endOf_6 : decode cX8_endOf 6 = .ok (.istore_n 2, 1) := by decide +kernel
theorem dX8_endOf_7 : decode cX8_endOf 7 = .ok (.iconst 0, 1) := by decide +kernel
theorem dX8_endOf_8 : decode cX8_endOf 8 = .ok (.istore_n 3, 1) := by decide +kernel
theorem dX8_endOf_9 : decode cX8_endOf 9 = .ok (.iload_n 3, 1) := by decide +kernel
theorem dX8_endOf_10 : decode cX8_endOf 10 = .ok (.aload_n 0, 1) := by decide +kernel
theorem dX8_endOf_11 : decode cX8_endOf 11 = .ok (.getfield 119, 3) := by decide +kernel
theorem dX8_endOf_14 : decode cX8_endOf 14 = .ok (.if_icmp .ge 25, 3) := by decide +kernel
theorem dX8_endOf_17 : decode cX8_endOf 17 = .ok (.iload_n 2, 1) := by decide +kernel
theorem dX8_endOf_18 : decode cX8_endOf 18 = .ok (.aload_n 0, 1) := by decide +kernel
theorem dX8_endOf_19 : decode cX8_endOf 19 = .ok (.getfield 29, 3) := by decide +kernel
theorem dX8_endOf_22 : decode cX8_endOf 22 = .ok (.iload_n 3, 1) := by decide +kernel
theorem dX8_endOf_23 : decode cX8_endOf 23 = .ok (.iaload, 1) := by decide +kernel
theorem dX8_endOf_24 : decode cX8_endOf 24 = .ok (.aload_n 0, 1) := by decide +kernel
theorem dX8_endOf_25 : decode cX8_endOf 25 = .ok (.getfield 56, 3) := by decide +kernel
theorem dX8_endOf_28 : decode cX8_endOf 28 = .ok (.iload_n 3, 1) := by decide +kernel
theorem dX8_endOf_29 : decode cX8_endOf 29 = .ok (.iaload, 1) := by decide +kernel
theorem dX8_endOf_30 : decode cX8_endOf 30 = .ok (.imul, 1) := by decide +kernel
theorem dX8_endOf_31 : decode cX8_endOf 31 = .ok (.iadd, 1) := by decide +kernel
theorem dX8_endOf_32 : decode cX8_endOf 32 = .ok (.istore_n 2, 1) := by decide +kernel
theorem dX8_endOf_33 : decode cX8_endOf 33 = .ok (.iinc 3 1, 3) := by decide +kernel
theorem dX8_endOf_36 : decode cX8_endOf 36 = .ok (.goto (-27), 3) := by decide +kernel
theorem dX8_endOf_39 : decode cX8_endOf 39 = .ok (.iload_n 2, 1) := by decide +kernel
theorem dX8_endOf_40 : decode cX8_endOf 40 = .ok (.ireturn, 1) := by decide +kernel
theorem dX8_prepare_0 : decode cX8_prepare 0 = .ok (.iconst 0, 1) := by decide +kernel
theorem dX8_prepare_1 : decode cX8_prepare 1 = .ok (.istore_n 1, 1) := by decide +kernel
theorem dX8_prepare_2 : decode cX8_prepare 2 = .ok (.iload_n 1, 1) := by decide +kernel
theorem dX8_prepare_3 : decode cX8_prepare 3 = .ok (.ldc 62, 2) := by decide +kernel
theorem dX8_prepare_5 : decode cX8_prepare 5 = .ok (.if_icmp .ge 16, 3) := by decide +kernel
theorem dX8_prepare_8 : decode cX8_prepare 8 = .ok (.aload_n 0, 1) := by decide +kernel
theorem dX8_prepare_9 : decode cX8_prepare 9 = .ok (.getfield 67, 3) := by decide +kernel
theorem dX8_prepare_12 : decode cX8_prepare 12 = .ok (.iload_n 1, 1) := by decide +kernel
theorem dX8_prepare_13 : decode cX8_prepare 13 = .ok (.iconst 0, 1) := by decide +kernel
theorem dX8_prepare_14 : decode cX8_prepare 14 = .ok (.bastore, 1) := by decide +kernel
theorem dX8_prepare_15 : decode cX8_prepare 15 = .ok (.iinc 1 1, 3) := by decide +kernel
theorem dX8_prepare_18 : decode cX8_prepare 18 = .ok (.goto (-16), 3) := by decide +kernel
theorem dX8_prepare_21 : decode cX8_prepare 21 = .ok (.aload_n 0, 1) := by decide +kernel
theorem dX8_prepare_22 : decode cX8_prepare 22 = .ok (.getfield 130, 3) := by decide +kernel
theorem dX8_prepare_25 : decode cX8_prepare 25 = .ok (.ifCond .eq 4, 3) := by decide +kernel
theorem dX8_prepare_28 : decode cX8_prepare 28 = .ok (.return_, 1) := by decide +kernel
theorem dX8_prepare_29 : decode cX8_prepare 29 = .ok (.aload_n 0, 1) := by decide +kernel
theorem dX8_prepare_30 : decode cX8_prepare 30 = .ok (.iconst 1, 1) := by decide +kernel
theorem dX8_prepare_31 : decode cX8_prepare 31 = .ok (.putfield 130, 3) := by decide +kernel
theorem dX8_prepare_34 : decode cX8_prepare 34 = .ok (.iconst 0, 1) := by decide +kernel
theorem dX8_prepare_35 : decode cX8_prepare 35 = .ok (.istore_n 1, 1) := by decide +kernel
theorem dX8_prepare_36 : decode cX8_prepare 36 = .ok (.iload_n 1, 1) := by decide +kernel
theorem dX8_prepare_37 : decode cX8_prepare 37 = .ok (.ldc 62, 2) := by decide +kernel
theorem dX8_prepare_39 : decode cX8_prepare 39 = .ok (.if_icmp .ge 16, 3) := by decide +kernel
theorem dX8_prepare_42 : decode cX8_prepare 42 = .ok (.aload_n 0, 1) := by decide +kernel
theorem dX8_prepare_43 : decode cX8_prepare 43 = .ok (.getfield 63, 3) := by decide +kernel
theorem dX8_prepare_46 : decode cX8_prepare 46 = .ok (.iload_n 1, 1) := by decide +kernel
theorem dX8_prepare_47 : decode cX8_prepare 47 = .ok (.iconst 0, 1) := by decide +kernel
theorem dX8_prepare_48 : decode cX8_prepare 48 = .ok (.bastore, 1) := by decide +kernel
theorem dX8_prepare_49 : decode cX8_prepare 49 = .ok (.iinc 1 1, 3) := by decide +kernel
theorem dX8_prepare_52 : decode cX8_prepare 52 = .ok (.goto (-16), 3) := by decide +kernel
theorem dX8_prepare_55 : decode cX8_prepare 55 = .ok (.return_, 1) := by decide +kernel
theorem dX8_work_0 : decode cX8_work 0 = .ok (.iload_n 1, 1) := by decide +kernel
theorem dX8_work_1 : decode cX8_work 1 = .ok (.istore_n 2, 1) := by decide +kernel
theorem dX8_work_2 : decode cX8_work 2 = .ok (.iload_n 2, 1) := by decide +kernel
theorem dX8_work_3 : decode cX8_work 3 = .ok (.aload_n 0, 1) := by decide +kernel
theorem dX8_work_4 : decode cX8_work 4 = .ok (.getfield 41, 3) := by decide +kernel
theorem dX8_work_7 : decode cX8_work 7 = .ok (.if_icmp .ge 76, 3) := by decide +kernel
theorem dX8_work_10 : decode cX8_work 10 = .ok (.iconst 0, 1) := by decide +kernel
theorem dX8_work_11 : decode cX8_work 11 = .ok (.istore_n 3, 1) := by decide +kernel
theorem dX8_work_12 : decode cX8_work 12 = .ok (.iload_n 3, 1) := by decide +kernel
theorem dX8_work_13 : decode cX8_work 13 = .ok (.aload_n 0, 1) := by decide +kernel
theorem dX8_work_14 : decode cX8_work 14 = .ok (.invokevirtual 126, 3) := by decide +kernel
theorem dX8_work_17 : decode cX8_work 17 = .ok (.if_icmp .ge 60, 3) := by decide +kernel
theorem dX8_work_20 : decode cX8_work 20 = .ok (.aload_n 0, 1) := by decide +kernel
theorem dX8_work_21 : decode cX8_work 21 = .ok (.getfield 67, 3) := by decide +kernel
theorem dX8_work_24 : decode cX8_work 24 = .ok (.sipush 1000, 3) := by decide +kernel
theorem dX8_work_27 : decode cX8_work 27 = .ok (.iload_n 2, 1) := by decide +kernel
theorem dX8_work_28 : decode cX8_work 28 = .ok (.imul, 1) := by decide +kernel
theorem dX8_work_29 : decode cX8_work 29 = .ok (.iload_n 3, 1) := by decide +kernel
theorem dX8_work_30 : decode cX8_work 30 = .ok (.iadd, 1) := by decide +kernel
theorem dX8_work_31 : decode cX8_work 31 = .ok (.baload, 1) := by decide +kernel
theorem dX8_work_32 : decode cX8_work 32 = .ok (.ifCond .eq 39, 3) := by decide +kernel
theorem dX8_work_35 : decode cX8_work 35 = .ok (.aload_n 0, 1) := by decide +kernel
theorem dX8_work_36 : decode cX8_work 36 = .ok (.getfield 63, 3) := by decide +kernel
theorem dX8_work_39 : decode cX8_work 39 = .ok (.sipush 1000, 3) := by decide +kernel
theorem dX8_work_42 : decode cX8_work 42 = .ok (.iload_n 2, 1) := by decide +kernel
theorem dX8_work_43 : decode cX8_work 43 = .ok (.imul, 1) := by decide +kernel
theorem dX8_work_44 : decode cX8_work 44 = .ok (.iload_n 3, 1) := by decide +kernel
theorem dX8_work_45 : decode cX8_work 45 = .ok (.iadd, 1) := by decide +kernel
theorem dX8_work_46 : decode cX8_work 46 = .ok (.baload, 1) := by decide +kernel
theorem dX8_work_47 : decode cX8_work 47 = .ok (.ifCond .ne 24, 3) := by decide +kernel
theorem dX8_work_50 : decode cX8_work 50 = .ok (.aload_n 0, 1) := by decide +kernel
theorem dX8_work_51 : decode cX8_work 51 = .ok (.getfield 50, 3) := by decide +kernel
theorem dX8_work_54 : decode cX8_work 54 = .ok (.iload_n 2, 1) := by decide +kernel
theorem dX8_work_55 : decode cX8_work 55 = .ok (.iaload, 1) := by decide +kernel
theorem dX8_work_56 : decode cX8_work 56 = .ok (.aload_n 0, 1) := by decide +kernel
theorem dX8_work_57 : decode cX8_work 57 = .ok (.getfield 32, 3) := by decide +kernel
theorem dX8_work_60 : decode cX8_work 60 = .ok (.iconst 1, 1) := by decide +kernel
theorem dX8_work_61 : decode cX8_work 61 = .ok (.isub, 1) := by decide +kernel
theorem dX8_work_62 : decode cX8_work 62 = .ok (.if_icmp .ge 9, 3) := by decide +kernel
theorem dX8_work_65 : decode cX8_work 65 = .ok (.aload_n 0, 1) := by decide +kernel
theorem dX8_work_66 : decode cX8_work 66 = .ok (.iload_n 2, 1) := by decide +kernel
theorem dX8_work_67 : decode cX8_work 67 = .ok (.iload_n 3, 1) := by decide +kernel
theorem dX8_work_68 : decode cX8_work 68 = .ok (.invokevirtual 168, 3) := by decide +kernel
theorem dX8_work_71 : decode cX8_work 71 = .ok (.iinc 3 1, 3) := by decide +kernel
theorem dX8_work_74 : decode cX8_work 74 = .ok (.goto (-62), 3) := by decide +kernel
theorem dX8_work_77 : decode cX8_work 77 = .ok (.iinc 2 1, 3) := by decide +kernel
theorem dX8_work_80 : decode cX8_work 80 = .ok (.goto (-78), 3) := by decide +kernel
theorem dX8_work_83 : decode cX8_work 83 = .ok (.aload_n 0, 1) := by decide +kernel
theorem dX8_work_84 : decode cX8_work 84 = .ok (.getfield 41, 3) := by decide +kernel
theorem dX8_work_87 : decode cX8_work 87 = .ok (.iconst 1, 1) := by decide +kernel
theorem dX8_work_88 : decode cX8_work 88 = .ok (.isub, 1) := by decide +kernel
theorem dX8_work_89 : decode cX8_work 89 = .ok (.istore_n 2, 1) := by decide +kernel
theorem dX8_work_90 : decode cX8_work 90 = .ok (.iload_n 2, 1) := by decide +kernel
theorem dX8_work_91 : decode cX8_work 91 = .ok (.iload_n 1, 1) := by decide +kernel
theorem dX8_work_92 : decode cX8_work 92 = .ok (.if_icmp .lt 61, 3) := by decide +kernel
theorem dX8_work_95 : decode cX8_work 95 = .ok (.iconst 0, 1) := by decide +kernel
theorem dX8_work_96 : decode cX8_work 96 = .ok (.istore_n 3, 1) := by decide +kernel
theorem dX8_work_97 : decode cX8_work 97 = .ok (.iload_n 3, 1) := by decide +kernel
theorem dX8_work_98 : decode cX8_work 98 = .ok (.aload_n 0, 1) := by decide +kernel
theorem dX8_work_99 : decode cX8_work 99 = .ok (.invokevirtual 126, 3) := by decide +kernel
theorem dX8_work_102 : decode cX8_work 102 = .ok (.if_icmp .ge 45, 3) := by decide +kernel
theorem dX8_work_105 : decode cX8_work 105 = .ok (.aload_n 0, 1) := by decide +kernel
theorem dX8_work_106 : decode cX8_work 106 = .ok (.getfield 67, 3) := by decide +kernel
theorem dX8_work_109 : decode cX8_work 109 = .ok (.sipush 1000, 3) := by decide +kernel
theorem dX8_work_112 : decode cX8_work 112 = .ok (.iload_n 2, 1) := by decide +kernel
theorem dX8_work_113 : decode cX8_work 113 = .ok (.imul, 1) := by decide +kernel
theorem dX8_work_114 : decode cX8_work 114 = .ok (.iload_n 3, 1) := by decide +kernel
theorem dX8_work_115 : decode cX8_work 115 = .ok (.iadd, 1) := by decide +kernel
theorem dX8_work_116 : decode cX8_work 116 = .ok (.baload, 1) := by decide +kernel
theorem dX8_work_117 : decode cX8_work 117 = .ok (.ifCond .eq 24, 3) := by decide +kernel
theorem dX8_work_120 : decode cX8_work 120 = .ok (.aload_n 0, 1) := by decide +kernel
theorem dX8_work_121 : decode cX8_work 121 = .ok (.getfield 63, 3) := by decide +kernel
theorem dX8_work_124 : decode cX8_work 124 = .ok (.sipush 1000, 3) := by decide +kernel
theorem dX8_work_127 : decode cX8_work 127 = .ok (.iload_n 2, 1) := by decide +kernel
theorem dX8_work_128 : decode cX8_work 128 = .ok (.imul, 1) := by decide +kernel
theorem dX8_work_129 : decode cX8_work 129 = .ok (.iload_n 3, 1) := by decide +kernel
theorem dX8_work_130 : decode cX8_work 130 = .ok (.iadd, 1) := by decide +kernel
theorem dX8_work_131 : decode cX8_work 131 = .ok (.baload, 1) := by decide +kernel
theorem dX8_work_132 : decode cX8_work 132 = .ok (.ifCond .ne 9, 3) := by decide +kernel
theorem dX8_work_135 : decode cX8_work 135 = .ok (.aload_n 0, 1) := by decide +kernel
theorem dX8_work_136 : decode cX8_work 136 = .ok (.iload_n 2, 1) := by decide +kernel
theorem dX8_work_137 : decode cX8_work 137 = .ok (.iload_n 3, 1) := by decide +kernel
theorem dX8_work_138 : decode cX8_work 138 = .ok (.invokevirtual 172, 3) := by decide +kernel
theorem dX8_work_141 : decode cX8_work 141 = .ok (.iinc 3 1, 3) := by decide +kernel
theorem dX8_work_144 : decode cX8_work 144 = .ok (.goto (-47), 3) := by decide +kernel
theorem dX8_work_147 : decode cX8_work 147 = .ok (.iinc 2 (-1), 3) := by decide +kernel
theorem dX8_work_150 : decode cX8_work 150 = .ok (.goto (-60), 3) := by decide +kernel
theorem dX8_work_153 : decode cX8_work 153 = .ok (.return_, 1) := by decide +kernel
theorem dX8_spread_0 : decode cX8_spread 0 = .ok (.aload_n 0, 1) := by decide +kernel
theorem dX8_spread_1 : decode cX8_spread 1 = .ok (.iload_n 2, 1) := by decide +kernel
theorem dX8_spread_2 : decode cX8_spread 2 = .ok (.invokevirtual 164, 3) := by decide +kernel
theorem dX8_spread_5 : decode cX8_spread 5 = .ok (.aload_n 0, 1) := by decide +kernel
theorem dX8_spread_6 : decode cX8_spread 6 = .ok (.invokevirtual 175, 3) := by decide +kernel
theorem dX8_spread_9 : decode cX8_spread 9 = .ok (.iconst 1, 1) := by decide +kernel
theorem dX8_spread_10 : decode cX8_spread 10 = .ok (.istore_n 3, 1) := by decide +kernel
theorem dX8_spread_11 : decode cX8_spread 11 = .ok (.iload_n 3, 1) := by decide +kernel
theorem dX8_spread_12 : decode cX8_spread 12 = .ok (.ifCond .eq 61, 3) := by decide +kernel
theorem dX8_spread_15 : decode cX8_spread 15 = .ok (.iload_n 1, 1) := by decide +kernel
theorem dX8_spread_16 : decode cX8_spread 16 = .ok (.iconst 1, 1) := by decide +kernel
theorem dX8_spread_17 : decode cX8_spread 17 = .ok (.iadd, 1) := by decide +kernel
theorem dX8_spread_18 : decode cX8_spread 18 = .ok (.istore 4, 2) := by decide +kernel
theorem dX8_spread_20 : decode cX8_spread 20 = .ok (.iload 4, 2) := by decide +kernel
theorem dX8_spread_22 : decode cX8_spread 22 = .ok (.aload_n 0, 1) := by decide +kernel
theorem dX8_spread_23 : decode cX8_spread 23 = .ok (.getfield 41, 3) := by decide +kernel
theorem dX8_spread_26 : decode cX8_spread 26 = .ok (.if_icmp .ge 39, 3) := by decide +kernel
theorem dX8_spread_29 : decode cX8_spread 29 = .ok (.aload_n 0, 1) := by decide +kernel
theorem dX8_spread_30 : decode cX8_spread 30 = .ok (.getfield 44, 3) := by decide +kernel
theorem dX8_spread_33 : decode cX8_spread 33 = .ok (.iload 4, 2) := by decide +kernel
theorem dX8_spread_35 : decode cX8_spread 35 = .ok (.iaload, 1) := by decide +kernel
theorem dX8_spread_36 : decode cX8_spread 36 = .ok (.iload_n 1, 1) := by decide +kernel
theorem dX8_spread_37 : decode cX8_spread 37 = .ok (.if_icmp .ne 22, 3) := by decide +kernel
theorem dX8_spread_40 : decode cX8_spread 40 = .ok (.aload_n 0, 1) := by decide +kernel
theorem dX8_spread_41 : decode cX8_spread 41 = .ok (.getfield 67, 3) := by decide +kernel
theorem dX8_spread_44 : decode cX8_spread 44 = .ok (.sipush 1000, 3) := by decide +kernel
theorem dX8_spread_47 : decode cX8_spread 47 = .ok (.iload 4, 2) := by decide +kernel
theorem dX8_spread_49 : decode cX8_spread 49 = .ok (.imul, 1) := by decide +kernel
theorem dX8_spread_50 : decode cX8_spread 50 = .ok (.aload_n 0, 1) := by decide +kernel
theorem dX8_spread_51 : decode cX8_spread 51 = .ok (.iload 4, 2) := by decide +kernel
theorem dX8_spread_53 : decode cX8_spread 53 = .ok (.invokevirtual 178, 3) := by decide +kernel
theorem dX8_spread_56 : decode cX8_spread 56 = .ok (.iadd, 1) := by decide +kernel
theorem dX8_spread_57 : decode cX8_spread 57 = .ok (.iconst 1, 1) := by decide +kernel
theorem dX8_spread_58 : decode cX8_spread 58 = .ok (.bastore, 1) := by decide +kernel
theorem dX8_spread_59 : decode cX8_spread 59 = .ok (.iinc 4 1, 3) := by decide +kernel
theorem dX8_spread_62 : decode cX8_spread 62 = .ok (.goto (-42), 3) := by decide +kernel
theorem dX8_spread_65 : decode cX8_spread 65 = .ok (.aload_n 0, 1) := by decide +kernel
theorem dX8_spread_66 : decode cX8_spread 66 = .ok (.invokevirtual 181, 3) := by decide +kernel
theorem dX8_spread_69 : decode cX8_spread 69 = .ok (.istore_n 3, 1) := by decide +kernel
theorem dX8_spread_70 : decode cX8_spread 70 = .ok (.goto (-59), 3) := by decide +kernel
theorem dX8_spread_73 : decode cX8_spread 73 = .ok (.return_, 1) := by decide +kernel
theorem dX8_scale_0 : decode cX8_scale 0 = .ok (.lconst 1, 1) := by decide +kernel
theorem dX8_scale_1 : decode cX8_scale 1 = .ok (.lstore_n 2, 1) := by decide +kernel
theorem dX8_scale_2 : decode cX8_scale 2 = .ok (.aload_n 0, 1) := by decide +kernel
theorem dX8_scale_3 : decode cX8_scale 3 = .ok (.getfield 50, 3) := by decide +kernel
theorem dX8_scale_6 : decode cX8_scale 6 = .ok (.iload_n 1, 1) := by decide +kernel
theorem dX8_scale_7 : decode cX8_scale 7 = .ok (.iaload, 1) := by decide +kernel
theorem dX8_scale_8 : decode cX8_scale 8 = .ok (.istore 4, 2) := by decide +kernel
theorem dX8_scale_10 : decode cX8_scale 10 = .ok (.iload 4, 2) := by decide +kernel
theorem dX8_scale_12 : decode cX8_scale 12 = .ok (.aload_n 0, 1) := by decide +kernel
theorem dX8_scale_13 : decode cX8_scale 13 = .ok (.getfield 32, 3) := by decide +kernel
theorem dX8_scale_16 : decode cX8_scale 16 = .ok (.iconst 1, 1) := by decide +kernel
theorem dX8_scale_17 : decode cX8_scale 17 = .ok (.isub, 1) := by decide +kernel
theorem dX8_scale_18 : decode cX8_scale 18 = .ok (.if_icmp .ge 17, 3) := by decide +kernel
theorem dX8_scale_21 : decode cX8_scale 21 = .ok (.lload_n 2, 1) := by decide +kernel
theorem dX8_scale_22 : decode cX8_scale 22 = .ok (.aload_n 0, 1) := by decide +kernel
theorem dX8_scale_23 : decode cX8_scale 23 = .ok (.getfield 35, 3) := by decide +kernel
theorem dX8_scale_26 : decode cX8_scale 26 = .ok (.i2l, 1) := by decide +kernel
theorem dX8_scale_27 : decode cX8_scale 27 = .ok (.lmul, 1) := by decide +kernel
theorem dX8_scale_28 : decode cX8_scale 28 = .ok (.lstore_n 2, 1) := by decide +kernel
theorem dX8_scale_29 : decode cX8_scale 29 = .ok (.iinc 4 1, 3) := by decide +kernel
theorem dX8_scale_32 : decode cX8_scale 32 = .ok (.goto (-22), 3) := by decide +kernel
theorem dX8_scale_35 : decode cX8_scale 35 = .ok (.lload_n 2, 1) := by decide +kernel
theorem dX8_scale_36 : decode cX8_scale 36 = .ok (.lreturn, 1) := by decide +kernel
theorem dX8_settle_0 : decode cX8_settle 0 = .ok (.sipush 1000, 3) := by decide +kernel
theorem dX8_settle_3 : decode cX8_settle 3 = .ok (.iload_n 1, 1) := by decide +kernel
theorem dX8_settle_4 : decode cX8_settle 4 = .ok (.imul, 1) := by decide +kernel
theorem dX8_settle_5 : decode cX8_settle 5 = .ok (.iload_n 2, 1) := by decide +kernel
theorem dX8_settle_6 : decode cX8_settle 6 = .ok (.iadd, 1) := by decide +kernel
theorem dX8_settle_7 : decode cX8_settle 7 = .ok (.istore_n 3, 1) := by decide +kernel
theorem dX8_settle_8 : decode cX8_settle 8 = .ok (.aload_n 0, 1) := by decide +kernel
theorem dX8_settle_9 : decode cX8_settle 9 = .ok (.getfield 63, 3) := by decide +kernel
theorem dX8_settle_12 : decode cX8_settle 12 = .ok (.iload_n 3, 1) := by decide +kernel
theorem dX8_settle_13 : decode cX8_settle 13 = .ok (.iconst 1, 1) := by decide +kernel
theorem dX8_settle_14 : decode cX8_settle 14 = .ok (.bastore, 1) := by decide +kernel
theorem dX8_settle_15 : decode cX8_settle 15 = .ok (.aload_n 0, 1) := by decide +kernel
theorem dX8_settle_16 : decode cX8_settle 16 = .ok (.getfield 50, 3) := by decide +kernel
theorem dX8_settle_19 : decode cX8_settle 19 = .ok (.iload_n 1, 1) := by decide +kernel
theorem dX8_settle_20 : decode cX8_settle 20 = .ok (.iaload, 1) := by decide +kernel
theorem dX8_settle_21 : decode cX8_settle 21 = .ok (.aload_n 0, 1) := by decide +kernel
theorem dX8_settle_22 : decode cX8_settle 22 = .ok (.getfield 32, 3) := by decide +kernel
theorem dX8_settle_25 : decode cX8_settle 25 = .ok (.iconst 1, 1) := by decide +kernel
theorem dX8_settle_26 : decode cX8_settle 26 = .ok (.isub, 1) := by decide +kernel
theorem dX8_settle_27 : decode cX8_settle 27 = .ok (.if_icmp .ne 16, 3) := by decide +kernel
theorem dX8_settle_30 : decode cX8_settle 30 = .ok (.aload_n 0, 1) := by decide +kernel
theorem dX8_settle_31 : decode cX8_settle 31 = .ok (.getfield 70, 3) := by decide +kernel
theorem dX8_settle_34 : decode cX8_settle 34 = .ok (.iload_n 3, 1) := by decide +kernel
theorem dX8_settle_35 : decode cX8_settle 35 = .ok (.aload_n 0, 1) := by decide +kernel
theorem dX8_settle_36 : decode cX8_settle 36 = .ok (.iload_n 2, 1) := by decide +kernel
theorem dX8_settle_37 : decode cX8_settle 37 = .ok (.invokevirtual 184, 3) := by decide +kernel
theorem dX8_settle_40 : decode cX8_settle 40 = .ok (.i2l, 1) := by decide +kernel
theorem dX8_settle_41 : decode cX8_settle 41 = .ok (.lastore, 1) := by decide +kernel
theorem dX8_settle_42 : decode cX8_settle 42 = .ok (.return_, 1) := by decide +kernel
theorem dX8_settle_43 : decode cX8_settle 43 = .ok (.aload_n 0, 1) := by decide +kernel
theorem dX8_settle_44 : decode cX8_settle 44 = .ok (.iload_n 2, 1) := by decide +kernel
theorem dX8_settle_45 : decode cX8_settle 45 = .ok (.invokevirtual 164, 3) := by decide +kernel
theorem dX8_settle_48 : decode cX8_settle 48 = .ok (.aload_n 0, 1) := by decide +kernel
theorem dX8_settle_49 : decode cX8_settle 49 = .ok (.invokevirtual 175, 3) := by decide +kernel
theorem dX8_settle_52 : decode cX8_settle 52 = .ok (.aload_n 0, 1) := by decide +kernel
theorem dX8_settle_53 : decode cX8_settle 53 = .ok (.iload_n 1, 1) := by decide +kernel
theorem dX8_settle_54 : decode cX8_settle 54 = .ok (.invokevirtual 187, 3) := by decide +kernel
theorem dX8_settle_57 : decode cX8_settle 57 = .ok (.lstore 4, 2) := by decide +kernel
theorem dX8_settle_59 : decode cX8_settle 59 = .ok (.iconst 1, 1) := by decide +kernel
theorem dX8_settle_60 : decode cX8_settle 60 = .ok (.istore 6, 2) := by decide +kernel
theorem dX8_settle_62 : decode cX8_settle 62 = .ok (.iconst 1, 1) := by decide +kernel
theorem dX8_settle_63 : decode cX8_settle 63 = .ok (.istore 7, 2) := by decide +kernel
theorem dX8_settle_65 : decode cX8_settle 65 = .ok (.iload 7, 2) := by decide +kernel
theorem dX8_settle_67 : decode cX8_settle 67 = .ok (.ifCond .eq 153, 3) := by decide +kernel
theorem dX8_settle_70 : decode cX8_settle 70 = .ok (.lload 4, 2) := by decide +kernel
theorem dX8_settle_72 : decode cX8_settle 72 = .ok (.aload_n 0, 1) := by decide +kernel
theorem dX8_settle_73 : decode cX8_settle 73 = .ok (.aload_n 0, 1) := by decide +kernel
theorem dX8_settle_74 : decode cX8_settle 74 = .ok (.getfield 50, 3) := by decide +kernel
theorem dX8_settle_77 : decode cX8_settle 77 = .ok (.iload_n 1, 1) := by decide +kernel
theorem dX8_settle_78 : decode cX8_settle 78 = .ok (.iaload, 1) := by decide +kernel
theorem dX8_settle_79 : decode cX8_settle 79 = .ok (.iconst 1, 1) := by decide +kernel
theorem dX8_settle_80 : decode cX8_settle 80 = .ok (.iadd, 1) := by decide +kernel
theorem dX8_settle_81 : decode cX8_settle 81 = .ok (.invokevirtual 191, 3) := by decide +kernel
theorem dX8_settle_84 : decode cX8_settle 84 = .ok (.i2l, 1) := by decide +kernel
theorem dX8_settle_85 : decode cX8_settle 85 = .ok (.lmul, 1) := by decide +kernel
theorem dX8_settle_86 : decode cX8_settle 86 = .ok (.lstore 8, 2) := by decide +kernel
theorem dX8_settle_88 : decode cX8_settle 88 = .ok (.iload_n 1, 1) := by decide +kernel
theorem dX8_settle_89 : decode cX8_settle 89 = .ok (.iconst 1, 1) := by decide +kernel
theorem dX8_settle_90 : decode cX8_settle 90 = .ok (.iadd, 1) := by decide +kernel
theorem dX8_settle_91 : decode cX8_settle 91 = .ok (.istore 10, 2) := by decide +kernel
theorem dX8_settle_93 : decode cX8_settle 93 = .ok (.iload 10, 2) := by decide +kernel
theorem dX8_settle_95 : decode cX8_settle 95 = .ok (.aload_n 0, 1) := by decide +kernel
theorem dX8_settle_96 : decode cX8_settle 96 = .ok (.getfield 41, 3) := by decide +kernel
theorem dX8_settle_99 : decode cX8_settle 99 = .ok (.if_icmp .ge 52, 3) := by decide +kernel
theorem dX8_settle_102 : decode cX8_settle 102 = .ok (.aload_n 0, 1) := by decide +kernel
theorem dX8_settle_103 : decode cX8_settle 103 = .ok (.getfield 44, 3) := by decide +kernel
theorem dX8_settle_106 : decode cX8_settle 106 = .ok (.iload 10, 2) := by decide +kernel
theorem dX8_settle_108 : decode cX8_settle 108 = .ok (.iaload, 1) := by decide +kernel
theorem dX8_settle_109 : decode cX8_settle 109 = .ok (.iload_n 1, 1) := by decide +kernel
theorem dX8_settle_110 : decode cX8_settle 110 = .ok (.if_icmp .ne 35, 3) := by decide +kernel
theorem dX8_settle_113 : decode cX8_settle 113 = .ok (.lload 8, 2) := by decide +kernel
theorem dX8_settle_115 : decode cX8_settle 115 = .ok (.aload_n 0, 1) := by decide +kernel
theorem dX8_settle_116 : decode cX8_settle 116 = .ok (.getfield 47, 3) := by decide +kernel
theorem dX8_settle_119 : decode cX8_settle 119 = .ok (.iload 10, 2) := by decide +kernel
theorem dX8_settle_121 : decode cX8_settle 121 = .ok (.iaload, 1) := by decide +kernel
theorem dX8_settle_122 : decode cX8_settle 122 = .ok (.i2l, 1) := by decide +kernel
theorem dX8_settle_123 : decode cX8_settle 123 = .ok (.aload_n 0, 1) := by decide +kernel
theorem dX8_settle_124 : decode cX8_settle 124 = .ok (.getfield 70, 3) := by decide +kernel
theorem dX8_settle_127 : decode cX8_settle 127 = .ok (.sipush 1000, 3) := by decide +kernel
theorem dX8_settle_130 : decode cX8_settle 130 = .ok (.iload 10, 2) := by decide +kernel
theorem dX8_settle_132 : decode cX8_settle 132 = .ok (.imul, 1) := by decide +kernel
theorem dX8_settle_133 : decode cX8_settle 133 = .ok (.aload_n 0, 1) := by decide +kernel
theorem dX8_settle_134 : decode cX8_settle 134 = .ok (.iload 10, 2) := by decide +kernel
theorem dX8_settle_136 : decode cX8_settle 136 = .ok (.invokevirtual 178, 3) := by decide +kernel
theorem dX8_settle_139 : decode cX8_settle 139 = .ok (.iadd, 1) := by decide +kernel
theorem dX8_settle_140 : decode cX8_settle 140 = .ok (.laload, 1) := by decide +kernel
theorem dX8_settle_141 : decode cX8_settle 141 = .ok (.lmul, 1) := by decide +kernel
theorem dX8_settle_142 : decode cX8_settle 142 = .ok (.ladd, 1) := by decide +kernel
theorem dX8_settle_143 : decode cX8_settle 143 = .ok (.lstore 8, 2) := by decide +kernel
theorem dX8_settle_145 : decode cX8_settle 145 = .ok (.iinc 10 1, 3) := by decide +kernel
theorem dX8_settle_148 : decode cX8_settle 148 = .ok (.goto (-55), 3) := by decide +kernel
theorem dX8_settle_151 : decode cX8_settle 151 = .ok (.iload 6, 2) := by decide +kernel
theorem dX8_settle_153 : decode cX8_settle 153 = .ok (.ifCond .ne 15, 3) := by decide +kernel
theorem dX8_settle_156 : decode cX8_settle 156 = .ok (.lload 8, 2) := by decide +kernel
theorem dX8_settle_158 : decode cX8_settle 158 = .ok (.aload_n 0, 1) := by decide +kernel
theorem dX8_settle_159 : decode cX8_settle 159 = .ok (.getfield 70, 3) := by decide +kernel
theorem dX8_settle_162 : decode cX8_settle 162 = .ok (.iload_n 3, 1) := by decide +kernel
theorem dX8_settle_163 : decode cX8_settle 163 = .ok (.laload, 1) := by decide +kernel
theorem dX8_settle_164 : decode cX8_settle 164 = .ok (.lcmp, 1) := by decide +kernel
theorem dX8_settle_165 : decode cX8_settle 165 = .ok (.ifCond .le 43, 3) := by decide +kernel
theorem dX8_settle_168 : decode cX8_settle 168 = .ok (.aload_n 0, 1) := by decide +kernel
theorem dX8_settle_169 : decode cX8_settle 169 = .ok (.getfield 70, 3) := by decide +kernel
theorem dX8_settle_172 : decode cX8_settle 172 = .ok (.iload_n 3, 1) := by decide +kernel
theorem dX8_settle_173 : decode cX8_settle 173 = .ok (.lload 8, 2) := by decide +kernel
theorem dX8_settle_175 : decode cX8_settle 175 = .ok (.lastore, 1) := by decide +kernel
theorem dX8_settle_176 : decode cX8_settle 176 = .ok (.aload_n 0, 1) := by decide +kernel
theorem dX8_settle_177 : decode cX8_settle 177 = .ok (.getfield 74, 3) := by decide +kernel
theorem dX8_settle_180 : decode cX8_settle 180 = .ok (.iload_n 3, 1) := by decide +kernel
theorem dX8_settle_181 : decode cX8_settle 181 = .ok (.aload_n 0, 1) := by decide +kernel
theorem dX8_settle_182 : decode cX8_settle 182 = .ok (.getfield 59, 3) := by decide +kernel
theorem dX8_settle_185 : decode cX8_settle 185 = .ok (.iconst 0, 1) := by decide +kernel
theorem dX8_settle_186 : decode cX8_settle 186 = .ok (.iaload, 1) := by decide +kernel
theorem dX8_settle_187 : decode cX8_settle 187 = .ok (.bipush 16, 2) := by decide +kernel
