theorem dX7_count_51 : decode cX7_count 51 = .ok (.ireturn, 1) := by decide +kernel
theorem dX7_count_52 : decode cX7_count 52 = .ok (.aload_n 0, 1) := by decide +kernel
theorem dX7_count_53 : decode cX7_count 53 = .ok (.getfield 19, 3) := by decide +kernel
theorem dX7_count_56 : decode cX7_count 56 = .ok (.getfield 61, 3) := by decide +kernel
theorem dX7_count_59 : decode cX7_count 59 = .ok (.ireturn, 1) := by decide +kernel
theorem dX7_count_60 : decode cX7_count 60 = .ok (.aload_n 0, 1) := by decide +kernel
theorem dX7_count_61 : decode cX7_count 61 = .ok (.getfield 10, 3) := by decide +kernel
theorem dX7_count_64 : decode cX7_count 64 = .ok (.getfield 54, 3) := by decide +kernel
theorem dX7_count_67 : decode cX7_count 67 = .ok (.ireturn, 1) := by decide +kernel
theorem dX7_count_68 : decode cX7_count 68 = .ok (.aload_n 0, 1) := by decide +kernel
theorem dX7_count_69 : decode cX7_count 69 = .ok (.getfield 42, 3) := by decide +kernel
theorem dX7_count_72 : decode cX7_count 72 = .ok (.getfield 57, 3) := by decide +kernel
theorem dX7_count_75 : decode cX7_count 75 = .ok (.ifCond .eq 7, 3) := by decide +kernel
theorem dX7_count_78 : decode cX7_count 78 = .ok (.iconst 1, 1) := by decide +kernel
theorem dX7_count_79 : decode cX7_count 79 = .ok (.goto 4, 3) := by decide +kernel
theorem dX7_count_82 : decode cX7_count 82 = .ok (.iconst 0, 1) := by decide +kernel
theorem dX7_count_83 : decode cX7_count 83 = .ok (.ireturn, 1) := by decide +kernel
theorem dX7_count_84 : decode cX7_count 84 = .ok (.aload_n 0, 1) := by decide +kernel
theorem dX7_count_85 : decode cX7_count 85 = .ok (.getfield 19, 3) := by decide +kernel
theorem dX7_count_88 : decode cX7_count 88 = .ok (.getfield 146, 3) := by decide +kernel
theorem dX7_count_91 : decode cX7_count 91 = .ok (.ireturn, 1) := by decide +kernel
theorem dX7_count_92 : decode cX7_count 92 = .ok (.aload_n 0, 1) := by decide +kernel
theorem dX7_count_93 : decode cX7_count 93 = .ok (.getfield 19, 3) := by decide +kernel
theorem dX7_count_96 : decode cX7_count 96 = .ok (.getfield 107, 3) := by decide +kernel
theorem dX7_count_99 : decode cX7_count 99 = .ok (.ireturn, 1) := by decide +kernel
theorem dX7_count_100 : decode cX7_count 100 = .ok (.aload_n 0, 1) := by decide +kernel
theorem dX7_count_101 : decode cX7_count 101 = .ok (.invokevirtual 149, 3) := by decide +kernel
theorem dX7_count_104 : decode cX7_count 104 = .ok (.ifCond .eq 7, 3) := by decide +kernel
theorem dX7_count_107 : decode cX7_count 107 = .ok (.iconst 1, 1) := by decide +kernel
theorem dX7_count_108 : decode cX7_count 108 = .ok (.goto 4, 3) := by decide +kernel
theorem dX7_count_111 : decode cX7_count 111 = .ok (.iconst 0, 1) := by decide +kernel
theorem dX7_count_112 : decode cX7_count 112 = .ok (.ireturn, 1) := by decide +kernel
theorem dX7_count_113 : decode cX7_count 113 = .ok (.iconst (-1), 1) := by decide +kernel
theorem dX7_count_114 : decode cX7_count 114 = .ok (.ireturn, 1) := by decide +kernel
theorem dX7_worth_0 : decode cX7_worth 0 = .ok (.aload_n 0, 1) := by decide +kernel
theorem dX7_worth_1 : decode cX7_worth 1 = .ok (.getfield 19, 3) := by decide +kernel
theorem dX7_worth_4 : decode cX7_worth 4 = .ok (.iload_n 1, 1) := by decide +kernel
theorem dX7_worth_5 : decode cX7_worth 5 = .ok (.invokevirtual 99, 3) := by decide +kernel
theorem dX7_worth_8 : decode cX7_worth 8 = .ok (.astore_n 3, 1) := by decide +kernel
theorem dX7_worth_9 : decode cX7_worth 9 = .ok (.aload_n 3, 1) := by decide +kernel
theorem dX7_worth_10 : decode cX7_worth 10 = .ok (.ifnull 21, 3) := by decide +kernel
theorem dX7_worth_13 : decode cX7_worth 13 = .ok (.aload_n 0, 1) := by decide +kernel
theorem dX7_worth_14 : decode cX7_worth 14 = .ok (.getfield 10, 3) := by decide +kernel
theorem dX7_worth_17 : decode cX7_worth 17 = .ok (.iload_n 2, 1) := by decide +kernel
theorem dX7_worth_18 : decode cX7_worth 18 = .ok (.invokevirtual 153, 3) := by decide +kernel
theorem dX7_worth_21 : decode cX7_worth 21 = .ok (.ifCond .eq 10, 3) := by decide +kernel
theorem dX7_worth_24 : decode cX7_worth 24 = .ok (.aload_n 0, 1) := by decide +kernel
theorem dX7_worth_25 : decode cX7_worth 25 = .ok (.invokevirtual 149, 3) := by decide +kernel
theorem dX7_worth_28 : decode cX7_worth 28 = .ok (.ifCond .ne 7, 3) := by decide +kernel
theorem dX7_worth_31 : decode cX7_worth 31 = .ok (.ldc2_w 157, 3) := by decide +kernel
theorem dX7_worth_34 : decode cX7_worth 34 = .ok (.lreturn, 1) := by decide +kernel
theorem dX7_worth_35 : decode cX7_worth 35 = .ok (.aload_n 0, 1) := by decide +kernel
theorem dX7_worth_36 : decode cX7_worth 36 = .ok (.getfield 28, 3) := by decide +kernel
theorem dX7_worth_39 : decode cX7_worth 39 = .ok (.aload_n 3, 1) := by decide +kernel
theorem dX7_worth_40 : decode cX7_worth 40 = .ok (.iload_n 2, 1) := by decide +kernel
theorem dX7_worth_41 : decode cX7_worth 41 = .ok (.invokevirtual 159, 3) := by decide +kernel
theorem dX7_worth_44 : decode cX7_worth 44 = .ok (.lreturn, 1) := by decide +kernel
theorem dX7_policy_0 : decode cX7_policy 0 = .ok (.aload_n 0, 1) := by decide +kernel
theorem dX7_policy_1 : decode cX7_policy 1 = .ok (.getfield 19, 3) := by decide +kernel
theorem dX7_policy_4 : decode cX7_policy 4 = .ok (.iload_n 1, 1) := by decide +kernel
theorem dX7_policy_5 : decode cX7_policy 5 = .ok (.invokevirtual 99, 3) := by decide +kernel
theorem dX7_policy_8 : decode cX7_policy 8 = .ok (.astore 4, 2) := by decide +kernel
theorem dX7_policy_10 : decode cX7_policy 10 = .ok (.aload 4, 2) := by decide +kernel
theorem dX7_policy_12 : decode cX7_policy 12 = .ok (.ifnull 25, 3) := by decide +kernel
theorem dX7_policy_15 : decode cX7_policy 15 = .ok (.aload_n 0, 1) := by decide +kernel
theorem dX7_policy_16 : decode cX7_policy 16 = .ok (.getfield 10, 3) := by decide +kernel
theorem dX7_policy_19 : decode cX7_policy 19 = .ok (.iload_n 2, 1) := by decide +kernel
theorem dX7_policy_20 : decode cX7_policy 20 = .ok (.invokevirtual 153, 3) := by decide +kernel
theorem dX7_policy_23 : decode cX7_policy 23 = .ok (.ifCond .eq 14, 3) := by decide +kernel
theorem dX7_policy_26 : decode cX7_policy 26 = .ok (.aload_n 0, 1) := by decide +kernel
theorem dX7_policy_27 : decode cX7_policy 27 = .ok (.getfield 10, 3) := by decide +kernel
theorem dX7_policy_30 : decode cX7_policy 30 = .ok (.iload_n 3, 1) := by decide +kernel
theorem dX7_policy_31 : decode cX7_policy 31 = .ok (.invokevirtual 69, 3) := by decide +kernel
theorem dX7_policy_34 : decode cX7_policy 34 = .ok (.ifnonnull 5, 3) := by decide +kernel
theorem dX7_policy_37 : decode cX7_policy 37 = .ok (.iconst (-1), 1) := by decide +kernel
theorem dX7_policy_38 : decode cX7_policy 38 = .ok (.ireturn, 1) := by decide +kernel
theorem dX7_policy_39 : decode cX7_policy 39 = .ok (.aload_n 0, 1) := by decide +kernel
theorem dX7_policy_40 : decode cX7_policy 40 = .ok (.invokevirtual 149, 3) := by decide +kernel
theorem dX7_policy_43 : decode cX7_policy 43 = .ok (.ifCond .ne 6, 3) := by decide +kernel
theorem dX7_policy_46 : decode cX7_policy 46 = .ok (.bipush (-3), 2) := by decide +kernel
theorem dX7_policy_48 : decode cX7_policy 48 = .ok (.ireturn, 1) := by decide +kernel
theorem dX7_policy_49 : decode cX7_policy 49 = .ok (.aload_n 0, 1) := by decide +kernel
theorem dX7_policy_50 : decode cX7_policy 50 = .ok (.getfield 19, 3) := by decide +kernel
theorem dX7_policy_53 : decode cX7_policy 53 = .ok (.aload 4, 2) := by decide +kernel
theorem dX7_policy_55 : decode cX7_policy 55 = .ok (.invokevirtual 103, 3) := by decide +kernel
theorem dX7_policy_58 : decode cX7_policy 58 = .ok (.ifCond .eq 6, 3) := by decide +kernel
theorem dX7_policy_61 : decode cX7_policy 61 = .ok (.bipush (-4), 2) := by decide +kernel
theorem dX7_policy_63 : decode cX7_policy 63 = .ok (.ireturn, 1) := by decide +kernel
theorem dX7_policy_64 : decode cX7_policy 64 = .ok (.aload_n 0, 1) := by decide +kernel
theorem dX7_policy_65 : decode cX7_policy 65 = .ok (.getfield 28, 3) := by decide +kernel
theorem dX7_policy_68 : decode cX7_policy 68 = .ok (.aload 4, 2) := by decide +kernel
theorem dX7_policy_70 : decode cX7_policy 70 = .ok (.iload_n 2, 1) := by decide +kernel
theorem dX7_policy_71 : decode cX7_policy 71 = .ok (.invokevirtual 163, 3) := by decide +kernel
theorem dX7_policy_74 : decode cX7_policy 74 = .ok (.iload_n 3, 1) := by decide +kernel
theorem dX7_policy_75 : decode cX7_policy 75 = .ok (.invokestatic 167, 3) := by decide +kernel
theorem dX7_policy_78 : decode cX7_policy 78 = .ok (.ireturn, 1) := by decide +kernel
theorem dX7_water_0 : decode cX7_water 0 = .ok (.aload_n 0, 1) := by decide +kernel
theorem dX7_water_1 : decode cX7_water 1 = .ok (.getfield 19, 3) := by decide +kernel
theorem dX7_water_4 : decode cX7_water 4 = .ok (.iload_n 1, 1) := by decide +kernel
theorem dX7_water_5 : decode cX7_water 5 = .ok (.invokevirtual 99, 3) := by decide +kernel
theorem dX7_water_8 : decode cX7_water 8 = .ok (.astore 4, 2) := by decide +kernel
theorem dX7_water_10 : decode cX7_water 10 = .ok (.aload_n 0, 1) := by decide +kernel
theorem dX7_water_11 : decode cX7_water 11 = .ok (.getfield 10, 3) := by decide +kernel
theorem dX7_water_14 : decode cX7_water 14 = .ok (.iload_n 3, 1) := by decide +kernel
theorem dX7_water_15 : decode cX7_water 15 = .ok (.invokevirtual 69, 3) := by decide +kernel
theorem dX7_water_18 : decode cX7_water 18 = .ok (.astore 5, 2) := by decide +kernel
theorem dX7_water_20 : decode cX7_water 20 = .ok (.aload 4, 2) := by decide +kernel
theorem dX7_water_22 : decode cX7_water 22 = .ok (.ifnull 26, 3) := by decide +kernel
theorem dX7_water_25 : decode cX7_water 25 = .ok (.aload 5, 2) := by decide +kernel
theorem dX7_water_27 : decode cX7_water 27 = .ok (.ifnull 21, 3) := by decide +kernel
theorem dX7_water_30 : decode cX7_water 30 = .ok (.aload_n 0, 1) := by decide +kernel
theorem dX7_water_31 : decode cX7_water 31 = .ok (.getfield 10, 3) := by decide +kernel
theorem dX7_water_34 : decode cX7_water 34 = .ok (.iload_n 2, 1) := by decide +kernel
theorem dX7_water_35 : decode cX7_water 35 = .ok (.invokevirtual 153, 3) := by decide +kernel
theorem dX7_water_38 : decode cX7_water 38 = .ok (.ifCond .eq 10, 3) := by decide +kernel
theorem dX7_water_41 : decode cX7_water 41 = .ok (.aload_n 0, 1) := by decide +kernel
theorem dX7_water_42 : decode cX7_water 42 = .ok (.invokevirtual 149, 3) := by decide +kernel
theorem dX7_water_45 : decode cX7_water 45 = .ok (.ifCond .ne 7, 3) := by decide +kernel
theorem dX7_water_48 : decode cX7_water 48 = .ok (.ldc2_w 157, 3) := by decide +kernel
theorem dX7_water_51 : decode cX7_water 51 = .ok (.lreturn, 1) := by decide +kernel
theorem dX7_water_52 : decode cX7_water 52 = .ok (.aload_n 0, 1) := by decide +kernel
theorem dX7_water_53 : decode cX7_water 53 = .ok (.getfield 10, 3) := by decide +kernel
theorem dX7_water_56 : decode cX7_water 56 = .ok (.iload_n 2, 1) := by decide +kernel
theorem dX7_water_57 : decode cX7_water 57 = .ok (.iload_n 3, 1) := by decide +kernel
theorem dX7_water_58 : decode cX7_water 58 = .ok (.invokevirtual 171, 3) := by decide +kernel
theorem dX7_water_61 : decode cX7_water 61 = .ok (.aload 5, 2) := by decide +kernel
theorem dX7_water_63 : decode cX7_water 63 = .ok (.getfield 73, 3) := by decide +kernel
theorem dX7_water_66 : decode cX7_water 66 = .ok (.if_icmp .lt 7, 3) := by decide +kernel
theorem dX7_water_69 : decode cX7_water 69 = .ok (.ldc2_w 157, 3) := by decide +kernel
theorem dX7_water_72 : decode cX7_water 72 = .ok (.lreturn, 1) := by decide +kernel
theorem dX7_water_73 : decode cX7_water 73 = .ok (.aload_n 0, 1) := by decide +kernel
theorem dX7_water_74 : decode cX7_water 74 = .ok (.getfield 28, 3) := by decide +kernel
theorem dX7_water_77 : decode cX7_water 77 = .ok (.aload 4, 2) := by decide +kernel
theorem dX7_water_79 : decode cX7_water 79 = .ok (.iload_n 2, 1) := by decide +kernel
theorem dX7_water_80 : decode cX7_water 80 = .ok (.aload 5, 2) := by decide +kernel
theorem dX7_water_82 : decode cX7_water 82 = .ok (.getfield 174, 3) := by decide +kernel
theorem dX7_water_85 : decode cX7_water 85 = .ok (.iadd, 1) := by decide +kernel
theorem dX7_water_86 : decode cX7_water 86 = .ok (.invokevirtual 159, 3) := by decide +kernel
theorem dX7_water_89 : decode cX7_water 89 = .ok (.aload_n 0, 1) := by decide +kernel
theorem dX7_water_90 : decode cX7_water 90 = .ok (.getfield 28, 3) := by decide +kernel
theorem dX7_water_93 : decode cX7_water 93 = .ok (.aload 4, 2) := by decide +kernel
theorem dX7_water_95 : decode cX7_water 95 = .ok (.iload_n 2, 1) := by decide +kernel
theorem dX7_water_96 : decode cX7_water 96 = .ok (.invokevirtual 159, 3) := by decide +kernel
theorem dX7_water_99 : decode cX7_water 99 = .ok (.lsub, 1) := by decide +kernel
theorem dX7_water_100 : decode cX7_water 100 = .ok (.lreturn, 1) := by decide +kernel
theorem dX7_needs_0 : decode cX7_needs 0 = .ok (.aload_n 0, 1) := by decide +kernel
theorem dX7_needs_1 : decode cX7_needs 1 = .ok (.getfield 19, 3) := by decide +kernel
theorem dX7_needs_4 : decode cX7_needs 4 = .ok (.iload_n 1, 1) := by decide +kernel
theorem dX7_needs_5 : decode cX7_needs 5 = .ok (.invokevirtual 99, 3) := by decide +kernel
theorem dX7_needs_8 : decode cX7_needs 8 = .ok (.astore 4, 2) := by decide +kernel
theorem dX7_needs_10 : decode cX7_needs 10 = .ok (.aload 4, 2) := by decide +kernel
theorem dX7_needs_12 : decode cX7_needs 12 = .ok (.ifnonnull 5, 3) := by decide +kernel
theorem dX7_needs_15 : decode cX7_needs 15 = .ok (.iconst (-1), 1) := by decide +kernel
theorem dX7_needs_16 : decode cX7_needs 16 = .ok (.ireturn, 1) := by decide +kernel
theorem dX7_needs_17 : decode cX7_needs 17 = .ok (.aload_n 0, 1) := by decide +kernel
theorem dX7_needs_18 : decode cX7_needs 18 = .ok (.invokevirtual 149, 3) := by decide +kernel
theorem dX7_needs_21 : decode cX7_needs 21 = .ok (.ifCond .ne 6, 3) := by decide +kernel
theorem dX7_needs_24 : decode cX7_needs 24 = .ok (.bipush (-3), 2) := by decide +kernel
theorem dX7_needs_26 : decode cX7_needs 26 = .ok (.ireturn, 1) := by decide +kernel
theorem dX7_needs_27 : decode cX7_needs 27 = .ok (.bipush (-6), 2) := by decide +kernel
theorem dX7_needs_29 : decode cX7_needs 29 = .ok (.istore 5, 2) := by decide +kernel
theorem dX7_needs_31 : decode cX7_needs 31 = .ok (.bipush 91, 2) := by decide +kernel
theorem dX7_needs_33 : decode cX7_needs 33 = .ok (.istore 6, 2) := by decide +kernel
theorem dX7_needs_35 : decode cX7_needs 35 = .ok (.iconst 0, 1) := by decide +kernel
theorem dX7_needs_36 : decode cX7_needs 36 = .ok (.istore 7, 2) := by decide +kernel
theorem dX7_needs_38 : decode cX7_needs 38 = .ok (.iload 7, 2) := by decide +kernel
theorem dX7_needs_40 : decode cX7_needs 40 = .ok (.aload_n 0, 1) := by decide +kernel
theorem dX7_needs_41 : decode cX7_needs 41 = .ok (.getfield 10, 3) := by decide +kernel
theorem dX7_needs_44 : decode cX7_needs 44 = .ok (.getfield 54, 3) := by decide +kernel
theorem dX7_needs_47 : decode cX7_needs 47 = .ok (.if_icmp .ge 51, 3) := by decide +kernel
theorem dX7_needs_50 : decode cX7_needs 50 = .ok (.aload_n 0, 1) := by decide +kernel
theorem dX7_needs_51 : decode cX7_needs 51 = .ok (.getfield 10, 3) := by decide +kernel
theorem dX7_needs_54 : decode cX7_needs 54 = .ok (.iload 7, 2) := by decide +kernel
theorem dX7_needs_56 : decode cX7_needs 56 = .ok (.invokevirtual 177, 3) := by decide +kernel
theorem dX7_needs_59 : decode cX7_needs 59 = .ok (.istore 8, 2) := by decide +kernel
theorem dX7_needs_61 : decode cX7_needs 61 = .ok (.iload 8, 2) := by decide +kernel
theorem dX7_needs_63 : decode cX7_needs 63 = .ok (.iload 6, 2) := by decide +kernel
theorem dX7_needs_65 : decode cX7_needs 65 = .ok (.if_icmp .ge 27, 3) := by decide +kernel
theorem dX7_needs_68 : decode cX7_needs 68 = .ok (.aload_n 0, 1) := by decide +kernel
theorem dX7_needs_69 : decode cX7_needs 69 = .ok (.getfield 28, 3) := by decide +kernel
theorem dX7_needs_72 : decode cX7_needs 72 = .ok (.aload 4, 2) := by decide +kernel
theorem dX7_needs_74 : decode cX7_needs 74 = .ok (.iload 7, 2) := by decide +kernel
theorem dX7_needs_76 : decode cX7_needs 76 = .ok (.invokevirtual 159, 3) := by decide +kernel
theorem dX7_needs_79 : decode cX7_needs 79 = .ok (.lload_n 2, 1) := by decide +kernel
theorem dX7_needs_80 : decode cX7_needs 80 = .ok (.lcmp, 1) := by decide +kernel
theorem dX7_needs_81 : decode cX7_needs 81 = .ok (.ifCond .lt 11, 3) := by decide +kernel
theorem dX7_needs_84 : decode cX7_needs 84 = .ok (.iload 8, 2) := by decide +kernel
theorem dX7_needs_86 : decode cX7_needs 86 = .ok (.istore 6, 2) := by decide +kernel
theorem dX7_needs_88 : decode cX7_needs 88 = .ok (.iload 7, 2) := by decide +kernel
theorem dX7_needs_90 : decode cX7_needs 90 = .ok (.istore 5, 2) := by decide +kernel
theorem dX7_needs_92 : decode cX7_needs 92 = .ok (.iinc 7 1, 3) := by decide +kernel
theorem dX7_needs_95 : decode cX7_needs 95 = .ok (.goto (-57), 3) := by decide +kernel
theorem dX7_needs_98 : decode cX7_needs 98 = .ok (.iload 5, 2) := by decide +kernel
theorem dX7_needs_100 : decode cX7_needs 100 = .ok (.ireturn, 1) := by decide +kernel
theorem dX7_rule_0 : decode cX7_rule 0 = .ok (.aload_n 0, 1) := by decide +kernel
theorem dX7_rule_1 : decode cX7_rule 1 = .ok (.getfield 10, 3) := by decide +kernel
theorem dX7_rule_4 : decode cX7_rule 4 = .ok (.iload_n 1, 1) := by decide +kernel
theorem dX7_rule_5 : decode cX7_rule 5 = .ok (.invokevirtual 69, 3) := by decide +kernel
theorem dX7_rule_8 : decode cX7_rule 8 = .ok (.astore 4, 2) := by decide +kernel
theorem dX7_rule_10 : decode cX7_rule 10 = .ok (.aload 4, 2) := by decide +kernel
theorem dX7_rule_12 : decode cX7_rule 12 = .ok (.ifnull 21, 3) := by decide +kernel
theorem dX7_rule_15 : decode cX7_rule 15 = .ok (.iload_n 2, 1) := by decide +kernel
theorem dX7_rule_16 : decode cX7_rule 16 = .ok (.bipush 30, 2) := by decide +kernel
theorem dX7_rule_18 : decode cX7_rule 18 = .ok (.invokestatic 46, 3) := by decide +kernel
theorem dX7_rule_21 : decode cX7_rule 21 = .ok (.ifCond .eq 12, 3) := by decide +kernel
theorem dX7_rule_24 : decode cX7_rule 24 = .ok (.iload_n 3, 1) := by decide +kernel
theorem dX7_rule_25 : decode cX7_rule 25 = .ok (.bipush 30, 2) := by decide +kernel
theorem dX7_rule_27 : decode cX7_rule 27 = .ok (.invokestatic 46, 3) := by decide +kernel
theorem dX7_rule_30 : decode cX7_rule 30 = .ok (.ifCond .ne 5, 3) := by decide +kernel
theorem dX7_rule_33 : decode cX7_rule 33 = .ok (.iconst (-1), 1) := by decide +kernel
theorem dX7_rule_34 : decode cX7_rule 34 = .ok (.ireturn, 1) := by decide +kernel
theorem dX7_rule_35 : decode cX7_rule 35 = .ok (.aload 4, 2) := by decide +kernel
theorem dX7_rule_37 : decode cX7_rule 37 = .ok (.iload_n 2, 1) := by decide +kernel
theorem dX7_rule_38 : decode cX7_rule 38 = .ok (.putfield 180, 3) := by decide +kernel
theorem dX7_rule_41 : decode cX7_rule 41 = .ok (.aload 4, 2) := by decide +kernel
theorem dX7_rule_43 : decode cX7_rule 43 = .ok (.iload_n 3, 1) := by decide +kernel
theorem dX7_rule_44 : decode cX7_rule 44 = .ok (.putfield 183, 3) := by decide +kernel
theorem dX7_rule_47 : decode cX7_rule 47 = .ok (.iconst 1, 1) := by decide +kernel
theorem dX7_rule_48 : decode cX7_rule 48 = .ok (.ireturn, 1) := by decide +kernel
theorem dX7_mean_0 : decode cX7_mean 0 = .ok (.aload_n 0, 1) := by decide +kernel
theorem dX7_mean_1 : decode cX7_mean 1 = .ok (.getfield 19, 3) := by decide +kernel
theorem dX7_mean_4 : decode cX7_mean 4 = .ok (.iload_n 1, 1) := by decide +kernel
theorem dX7_mean_5 : decode cX7_mean 5 = .ok (.invokevirtual 99, 3) := by decide +kernel
theorem dX7_mean_8 : decode cX7_mean 8 = .ok (.astore_n 3, 1) := by decide +kernel
theorem dX7_mean_9 : decode cX7_mean 9 = .ok (.aload_n 3, 1) := by decide +kernel
theorem dX7_mean_10 : decode cX7_mean 10 = .ok (.ifnull 21, 3) := by decide +kernel
theorem dX7_mean_13 : decode cX7_mean 13 = .ok (.aload_n 0, 1) := by decide +kernel
theorem dX7_mean_14 : decode cX7_mean 14 = .ok (.getfield 10, 3) := by decide +kernel
theorem dX7_mean_17 : decode cX7_mean 17 = .ok (.iload_n 2, 1) := by decide +kernel
theorem dX7_mean_18 : decode cX7_mean 18 = .ok (.invokevirtual 153, 3) := by decide +kernel
theorem dX7_mean_21 : decode cX7_mean 21 = .ok (.ifCond .eq 10, 3) := by decide +kernel
theorem dX7_mean_24 : decode cX7_mean 24 = .ok (.aload_n 0, 1) := by decide +kernel
theorem dX7_mean_25 : decode cX7_mean 25 = .ok (.invokevirtual 149, 3) := by decide +kernel
theorem dX7_mean_28 : decode cX7_mean 28 = .ok (.ifCond .ne 7, 3) := by decide +kernel
theorem dX7_mean_31 : decode cX7_mean 31 = .ok (.ldc2_w 157, 3) := by decide +kernel
theorem dX7_mean_34 : decode cX7_mean 34 = .ok (.lreturn, 1) := by decide +kernel
theorem dX7_mean_35 : decode cX7_mean 35 = .ok (.aload_n 0, 1) := by decide +kernel
theorem dX7_mean_36 : decode cX7_mean 36 = .ok (.getfield 35, 3) := by decide +kernel
theorem dX7_mean_39 : decode cX7_mean 39 = .ok (.aload_n 3, 1) := by decide +kernel
theorem dX7_mean_40 : decode cX7_mean 40 = .ok (.iload_n 2, 1) := by decide +kernel
theorem dX7_mean_41 : decode cX7_mean 41 = .ok (.invokevirtual 186, 3) := by decide +kernel
theorem dX7_mean_44 : decode cX7_mean 44 = .ok (.aload_n 0, 1) := by decide +kernel
theorem dX7_mean_45 : decode cX7_mean 45 = .ok (.getfield 35, 3) := by decide +kernel
theorem dX7_mean_48 : decode cX7_mean 48 = .ok (.invokevirtual 190, 3) := by decide +kernel
theorem dX7_mean_51 : decode cX7_mean 51 = .ok (.lreturn, 1) := by decide +kernel
theorem dX7_worst_0 : decode cX7_worst 0 = .ok (.aload_n 0, 1) := by decide +kernel
theorem dX7_worst_1 : decode cX7_worst 1 = .ok (.getfield 19, 3) := by decide +kernel
theorem dX7_worst_4 : decode cX7_worst 4 = .ok (.iload_n 1, 1) := by decide +kernel
theorem dX7_worst_5 : decode cX7_worst 5 = .ok (.invokevirtual 99, 3) := by decide +kernel
theorem dX7_worst_8 : decode cX7_worst 8 = .ok (.astore_n 3, 1) := by decide +kernel
theorem dX7_worst_9 : decode cX7_worst 9 = .ok (.aload_n 3, 1) := by decide +kernel
theorem dX7_worst_10 : decode cX7_worst 10 = .ok (.ifnull 21, 3) := by decide +kernel
theorem dX7_worst_13 : decode cX7_worst 13 = .ok (.aload_n 0, 1) := by decide +kernel
theorem dX7_worst_14 : decode cX7_worst 14 = .ok (.getfield 10, 3) := by decide +kernel
theorem dX7_worst_17 : decode cX7_worst 17 = .ok (.iload_n 2, 1) := by decide +kernel
theorem dX7_worst_18 : decode cX7_worst 18 = .ok (.invokevirtual 153, 3) := by decide +kernel
theorem dX7_worst_21 : decode cX7_worst 21 = .ok (.ifCond .eq 10, 3) := by decide +kernel
theorem dX7_worst_24 : decode cX7_worst 24 = .ok (.aload_n 0, 1) := by decide +kernel
theorem dX7_worst_25 : decode cX7_worst 25 = .ok (.invokevirtual 149, 3) := by decide +kernel
theorem dX7_worst_28 : decode cX7_worst 28 = .ok (.ifCond .ne 7, 3) := by decide +kernel
theorem dX7_worst_31 : decode cX7_worst 31 = .ok (.ldc2_w 157, 3) := by decide +kernel
theorem dX7_worst_34 : decode cX7_worst 34 = .ok (.lreturn, 1) := by decide +kernel
theorem dX7_worst_35 : decode cX7_worst 35 = .ok (.aload_n 0, 1) := by decide +kernel
theorem dX7_worst_36 : decode cX7_worst 36 = .ok (.getfield 35, 3) := by decide +kernel
theorem dX7_worst_39 : decode cX7_worst 39 = .ok (.aload_n 3, 1) := by decide +kernel
theorem dX7_worst_40 : decode cX7_worst 40 = .ok (.iload_n 2, 1) := by decide +kernel
theorem dX7_worst_41 : decode cX7_worst 41 = .ok (.invokevirtual 186, 3) := by decide +kernel
theorem dX7_worst_44 : decode cX7_worst 44 = .ok (.aload_n 0, 1) := by decide +kernel
theorem dX7_worst_45 : decode cX7_worst 45 = .ok (.getfield 35, 3) := by decide +kernel
theorem dX7_worst_48 : decode cX7_worst 48 = .ok (.invokevirtual 194, 3) := by decide +kernel
theorem dX7_worst_51 : decode cX7_worst 51 = .ok (.lreturn, 1) := by decide +kernel
theorem dX7_lack_0 : decode cX7_lack 0 = .ok (.aload_n 0, 1) := by decide +kernel
theorem dX7_lack_1 : decode cX7_lack 1 = .ok (.getfield 19, 3) := by decide +kernel
theorem dX7_lack_4 : decode cX7_lack 4 = .ok (.iload_n 1, 1) := by decide +kernel
theorem dX7_lack_5 : decode cX7_lack 5 = .ok (.invokevirtual 99, 3) := by decide +kernel
theorem dX7_lack_8 : decode cX7_lack 8 = .ok (.astore_n 3, 1) := by decide +kernel
theorem dX7_lack_9 : decode cX7_lack 9 = .ok (.aload_n 3, 1) := by decide +kernel
theorem dX7_lack_10 : decode cX7_lack 10 = .ok (.ifnull 14, 3) := by decide +kernel
theorem dX7_lack_13 : decode cX7_lack 13 = .ok (.aload_n 0, 1) := by decide +kernel
theorem dX7_lack_14 : decode cX7_lack 14 = .ok (.getfield 10, 3) := by decide +kernel
theorem dX7_lack_17 : decode cX7_lack 17 = .ok (.iload_n 2, 1) := by decide +kernel
theorem dX7_lack_18 : decode cX7_lack 18 = .ok (.invokevirtual 153, 3) := by decide +kernel
theorem dX7_lack_21 : decode cX7_lack 21 = .ok (.ifCond .ne 5, 3) := by decide +kernel
theorem dX7_lack_24 : decode cX7_lack 24 = .ok (.iconst (-1), 1) := by decide +kernel
theorem dX7_lack_25 : decode cX7_lack 25 = .ok (.ireturn, 1) := by decide +kernel
theorem dX7_lack_26 : decode cX7_lack 26 = .ok (.aload_n 0, 1) := by decide +kernel
theorem dX7_lack_27 : decode cX7_lack 27 = .ok (.invokevirtual 149, 3) := by decide +kernel
theorem dX7_lack_30 : decode cX7_lack 30 = .ok (.ifCond .ne 6, 3) := by decide +kernel
theorem dX7_lack_33 : decode cX7_lack 33 = .ok (.bipush (-3), 2) := by decide +kernel
theorem dX7_lack_35 : decode cX7_lack 35 = .ok (.ireturn, 1) := by decide +kernel
theorem dX7_lack_36 : decode cX7_lack 36 = .ok (.aload_n 0, 1) := by decide +kernel
theorem dX7_lack_37 : decode cX7_lack 37 = .ok (.getfield 35, 3) := by decide +kernel
theorem dX7_lack_40 : decode cX7_lack 40 = .ok (.aload_n 3, 1) := by decide +kernel
theorem dX7_lack_41 : decode cX7_lack 41 = .ok (.iload_n 2, 1) := by decide +kernel
theorem dX7_lack_42 : decode cX7_lack 42 = .ok (.invokevirtual 186, 3) := by decide +kernel
theorem dX7_lack_45 : decode cX7_lack 45 = .ok (.aload_n 0, 1) := by decide +kernel
theorem dX7_lack_46 : decode cX7_lack 46 = .ok (.getfield 35, 3) := by decide +kernel
theorem dX7_lack_49 : decode cX7_lack 49 = .ok (.invokevirtual 197, 3) := by decide +kernel
theorem dX7_lack_52 : decode cX7_lack 52 = .ok (.ireturn, 1) := by decide +kernel
theorem dX7_flood_0 : decode cX7_flood 0 = .ok (.aload_n 0, 1) := by decide +kernel
theorem dX7_flood_1 : decode cX7_flood 1 = .ok (.getfield 10, 3) := by decide +kernel
theorem dX7_flood_4 : decode cX7_flood 4 = .ok (.iload_n 2, 1) := by decide +kernel
theorem dX7_flood_5 : decode cX7_flood 5 = .ok (.invokevirtual 69, 3) := by decide +kernel
theorem dX7_flood_8 : decode cX7_flood 8 = .ok (.astore 5, 2) := by decide +kernel
theorem dX7_flood_10 : decode cX7_flood 10 = .ok (.aload 5, 2) := by decide +kernel
theorem dX7_flood_12 : decode cX7_flood 12 = .ok (.ifnull 14, 3) := by decide +kernel
theorem dX7_flood_15 : decode cX7_flood 15 = .ok (.aload_n 0, 1) := by decide +kernel
theorem dX7_flood_16 : decode cX7_flood 16 = .ok (.getfield 10, 3) := by decide +kernel
theorem dX7_flood_19 : decode cX7_flood 19 = .ok (.iload_n 1, 1) := by decide +kernel
theorem dX7_flood_20 : decode cX7_flood 20 = .ok (.invokevirtual 153, 3) := by decide +kernel
theorem dX7_flood_23 : decode cX7_flood 23 = .ok (.ifCond .ne 5, 3) := by decide +kernel
theorem dX7_flood_26 : decode cX7_flood 26 = .ok (.iconst (-1), 1) := by decide +kernel
theorem dX7_flood_27 : decode cX7_flood 27 = .ok (.ireturn, 1) := by decide +kernel
theorem dX7_flood_28 : decode cX7_flood 28 = .ok (.iload_n 3, 1) := by decide +kernel
theorem dX7_flood_29 : decode cX7_flood 29 = .ok (.aload 5, 2) := by decide +kernel
theorem dX7_flood_31 : decode cX7_flood 31 = .ok (.getfield 73, 3) := by decide +kernel
theorem dX7_flood_34 : decode cX7_flood 34 = .ok (.invokestatic 46, 3) := by decide +kernel
theorem dX7_flood_37 : decode cX7_flood 37 = .ok (.ifCond .eq 20, 3) := by decide +kernel
theorem dX7_flood_40 : decode cX7_flood 40 = .ok (.iload 4, 2) := by decide +kernel
theorem dX7_flood_42 : decode cX7_flood 42 = .ok (.aload_n 0, 1) := by decide +kernel
theorem dX7_flood_43 : decode cX7_flood 43 = .ok (.getfield 19, 3) := by decide +kernel
theorem dX7_flood_46 : decode cX7_flood 46 = .ok (.getfield 146, 3) := by decide +kernel
theorem dX7_flood_49 : decode cX7_flood 49 = .ok (.iconst 1, 1) := by decide +kernel
theorem dX7_flood_50 : decode cX7_flood 50 = .ok (.isub, 1) := by decide +kernel
theorem dX7_flood_51 : decode cX7_flood 51 = .ok (.invokestatic 46, 3) := by decide +kernel
theorem dX7_flood_54 : decode cX7_flood 54 = .ok (.ifCond .ne 5, 3) := by decide +kernel
theorem dX7_flood_57 : decode cX7_flood 57 = .ok (.iconst (-1), 1) := by decide +kernel
theorem dX7_flood_58 : decode cX7_flood 58 = .ok (.ireturn, 1) := by decide +kernel
theorem dX7_flood_59 : decode cX7_flood 59 = .ok (.aload_n 0, 1) := by decide +kernel
theorem dX7_flood_60 : decode cX7_flood 60 = .ok (.invokevirtual 149, 3) := by decide +kernel
theorem dX7_flood_63 : decode cX7_flood 63 = .ok (.ifCond .ne 6, 3) := by decide +kernel
theorem dX7_flood_66 : decode cX7_flood 66 = .ok (.bipush (-3), 2) := by decide +kernel
theorem dX7_flood_68 : decode cX7_flood 68 = .ok (.ireturn, 1) := by decide +kernel
theorem dX7_flood_69 : decode cX7_flood 69 = .ok (.aload_n 0, 1) := by decide +kernel
theorem dX7_flood_70 : decode cX7_flood 70 = .ok (.getfield 35, 3) := by decide +kernel
theorem dX7_flood_73 : decode cX7_flood 73 = .ok (.aload_n 0, 1) := by decide +kernel
theorem dX7_flood_74 : decode cX7_flood 74 = .ok (.getfield 19, 3) := by decide +kernel
theorem dX7_flood_77 : decode cX7_flood 77 = .ok (.iconst 0, 1) := by decide +kernel
theorem dX7_flood_78 : decode cX7_flood 78 = .ok (.invokevirtual 99, 3) := by decide +kernel
theorem dX7_flood_81 : decode cX7_flood 81 = .ok (.iload_n 1, 1) := by decide +kernel
theorem dX7_flood_82 : decode cX7_flood 82 = .ok (.invokevirtual 186, 3) := by decide +kernel
theorem dX7_flood_85 : decode cX7_flood 85 = .ok (.aload_n 0, 1) := by decide +kernel
theorem dX7_flood_86 : decode cX7_flood 86 = .ok (.getfield 35, 3) := by decide +kernel
theorem dX7_flood_89 : decode cX7_flood 89 = .ok (.iload_n 2, 1) := by decide +kernel
theorem dX7_flood_90 : decode cX7_flood 90 = .ok (.iload_n 3, 1) := by decide +kernel
theorem dX7_flood_91 : decode cX7_flood 91 = .ok (.iload 4, 2) := by decide +kernel
theorem dX7_flood_93 : decode cX7_flood 93 = .ok (.invokevirtual 200, 3) := by decide +kernel
theorem dX7_flood_96 : decode cX7_flood 96 = .ok (.ireturn, 1) := by decide +kernel
theorem dX7_cases_0 : decode cX7_cases 0 = .ok (.aload_n 0, 1) := by decide +kernel
theorem dX7_cases_1 : decode cX7_cases 1 = .ok (.getfield 19, 3) := by decide +kernel
theorem dX7_cases_4 : decode cX7_cases 4 = .ok (.iload_n 1, 1) := by decide +kernel
theorem dX7_cases_5 : decode cX7_cases 5 = .ok (.invokevirtual 99, 3) := by decide +kernel
theorem dX7_cases_8 : decode cX7_cases 8 = .ok (.astore_n 2, 1) := by decide +kernel
theorem dX7_cases_9 : decode cX7_cases 9 = .ok (.aload_n 2, 1) := by decide +kernel
theorem dX7_cases_10 : decode cX7_cases 10 = .ok (.ifnonnull 5, 3) := by decide +kernel
theorem dX7_cases_13 : decode cX7_cases 13 = .ok (.iconst (-1), 1) := by decide +kernel
theorem dX7_cases_14 : decode cX7_cases 14 = .ok (.ireturn, 1) := by decide +kernel
theorem dX7_cases_15 : decode cX7_cases 15 = .ok (.aload_n 0, 1) := by decide +kernel
theorem dX7_cases_16 : decode cX7_cases 16 = .ok (.invokevirtual 149, 3) := by decide +kernel
theorem dX7_cases_19 : decode cX7_cases 19 = .ok (.ifCond .ne 6, 3) := by decide +kernel
theorem dX7_cases_22 : decode cX7_cases 22 = .ok (.bipush (-3), 2) := by decide +kernel
theorem dX7_cases_24 : decode cX7_cases 24 = .ok (.ireturn, 1) := by decide +kernel
theorem dX7_cases_25 : decode cX7_cases 25 = .ok (.aload_n 0, 1) := by decide +kernel
theorem dX7_cases_26 : decode cX7_cases 26 = .ok (.getfield 35, 3) := by decide +kernel
theorem dX7_cases_29 : decode cX7_cases 29 = .ok (.aload_n 2, 1) := by decide +kernel
theorem dX7_cases_30 : decode cX7_cases 30 = .ok (.iconst 0, 1) := by decide +kernel
theorem dX7_cases_31 : decode cX7_cases 31 = .ok (.invokevirtual 186, 3) := by decide +kernel
theorem dX7_cases_34 : decode cX7_cases 34 = .ok (.aload_n 0, 1) := by decide +kernel
theorem dX7_cases_35 : decode cX7_cases 35 = .ok (.getfield 35, 3) := by decide +kernel
theorem dX7_cases_38 : decode cX7_cases 38 = .ok (.invokevirtual 204, 3) := by decide +kernel
theorem dX7_cases_41 : decode cX7_cases 41 = .ok (.ireturn, 1) := by decide +kernel
theorem dX7_begin_0 : decode cX7_begin 0 = .ok (.aload_n 0, 1) := by decide +kernel
theorem dX7_begin_1 : decode cX7_begin 1 = .ok (.getfield 10, 3) := by decide +kernel
theorem dX7_begin_4 : decode cX7_begin 4 = .ok (.iload_n 1, 1) := by decide +kernel
theorem dX7_begin_5 : decode cX7_begin 5 = .ok (.invokevirtual 153, 3) := by decide +kernel
theorem dX7_begin_8 : decode cX7_begin 8 = .ok (.ifCond .ne 5, 3) := by decide +kernel
theorem dX7_begin_11 : decode cX7_begin 11 = .ok (.iconst (-1), 1) := by decide +kernel
theorem dX7_begin_12 : decode cX7_begin 12 = .ok (.ireturn, 1) := by decide +kernel
theorem dX7_begin_13 : decode cX7_begin 13 = .ok (.aload_n 0, 1) := by decide +kernel
theorem dX7_begin_14 : decode cX7_begin 14 = .ok (.invokevirtual 149, 3) := by decide +kernel
theorem dX7_begin_17 : decode cX7_begin 17 = .ok (.ifCond .ne 6, 3) := by decide +kernel
theorem dX7_begin_20 : decode cX7_begin 20 = .ok (.bipush (-3), 2) := by decide +kernel
theorem dX7_begin_22 : decode cX7_begin 22 = .ok (.ireturn, 1) := by decide +kernel
theorem dX7_begin_23 : decode cX7_begin 23 = .ok (.aload_n 0, 1) := by decide +kernel
theorem dX7_begin_24 : decode cX7_begin 24 = .ok (.getfield 42, 3) := by decide +kernel
theorem dX7_begin_27 : decode cX7_begin 27 = .ok (.aload_n 0, 1) := by decide +kernel
theorem dX7_begin_28 : decode cX7_begin 28 = .ok (.getfield 19, 3) := by decide +kernel
theorem dX7_begin_31 : decode cX7_begin 31 = .ok (.iconst 0, 1) := by decide +kernel
theorem dX7_begin_32 : decode cX7_begin 32 = .ok (.invokevirtual 99, 3) := by decide +kernel
theorem dX7_begin_35 : decode cX7_begin 35 = .ok (.iload_n 1, 1) := by decide +kernel
theorem dX7_begin_36 : decode cX7_begin 36 = .ok (.invokevirtual 207, 3) := by decide +kernel
theorem dX7_begin_39 : decode cX7_begin 39 = .ok (.iconst 1, 1) := by decide +kernel
theorem dX7_begin_40 : decode cX7_begin 40 = .ok (.ireturn, 1) := by decide +kernel
theorem dX7_week_0 : decode cX7_week 0 = .ok (.aload_n 0, 1) := by decide +kernel
theorem dX7_week_1 : decode cX7_week 1 = .ok (.iload_n 2, 1) := by decide +kernel
theorem dX7_week_2 : decode cX7_week 2 = .ok (.invokevirtual 210, 3) := by decide +kernel
theorem dX7_week_5 : decode cX7_week 5 = .ok (.istore_n 3, 1) := by decide +kernel
theorem dX7_week_6 : decode cX7_week 6 = .ok (.iload_n 3, 1) := by decide +kernel
theorem dX7_week_7 : decode cX7_week 7 = .ok (.ifCond .eq 5, 3) := by decide +kernel
theorem dX7_week_10 : decode cX7_week 10 = .ok (.iload_n 3, 1) := by decide +kernel
theorem dX7_week_11 : decode cX7_week 11 = .ok (.ireturn, 1) := by decide +kernel
theorem dX7_week_12 : decode cX7_week 12 = .ok (.iload_n 1, 1) := by decide +kernel
theorem dX7_week_13 : decode cX7_week 13 = .ok (.aload_n 0, 1) := by decide +kernel
theorem dX7_week_14 : decode cX7_week 14 = .ok (.getfield 10, 3) := by decide +kernel
theorem dX7_week_17 : decode cX7_week 17 = .ok (.invokevirtual 213, 3) := by decide +kernel
theorem dX7_week_20 : decode cX7_week 20 = .ok (.invokestatic 46, 3) := by decide +kernel
theorem dX7_week_23 : decode cX7_week 23 = .ok (.ifCond .ne 5, 3) := by decide +kernel
theorem dX7_week_26 : decode cX7_week 26 = .ok (.iconst (-1), 1) := by decide +kernel
theorem dX7_week_27 : decode cX7_week 27 = .ok (.ireturn, 1) := by decide +kernel
theorem dX7_week_28 : decode cX7_week 28 = .ok (.aload_n 0, 1) := by decide +kernel
theorem dX7_week_29 : decode cX7_week 29 = .ok (.getfield 10, 3) := by decide +kernel
theorem dX7_week_32 : decode cX7_week 32 = .ok (.iload_n 1, 1) := by decide +kernel
theorem dX7_week_33 : decode cX7_week 33 = .ok (.invokevirtual 216, 3) := by decide +kernel
theorem dX7_week_36 : decode cX7_week 36 = .ok (.istore 4, 2) := by decide +kernel
theorem dX7_week_38 : decode cX7_week 38 = .ok (.aload_n 0, 1) := by decide +kernel
theorem dX7_week_39 : decode cX7_week 39 = .ok (.getfield 10, 3) := by decide +kernel
theorem dX7_week_42 : decode cX7_week 42 = .ok (.aload_n 0, 1) := by decide +kernel
theorem dX7_week_43 : decode cX7_week 43 = .ok (.getfield 42, 3) := by decide +kernel
theorem dX7_week_46 : decode cX7_week 46 = .ok (.invokevirtual 219, 3) := by decide +kernel
theorem dX7_week_49 : decode cX7_week 49 = .ok (.iload 4, 2) := by decide +kernel
theorem dX7_week_51 : decode cX7_week 51 = .ok (.invokevirtual 222, 3) := by decide +kernel
theorem dX7_week_54 : decode cX7_week 54 = .ok (.ifCond .ne 5, 3) := by decide +kernel
theorem dX7_week_57 : decode cX7_week 57 = .ok (.iconst (-1), 1) := by decide +kernel
theorem dX7_week_58 : decode cX7_week 58 = .ok (.ireturn, 1) := by decide +kernel
theorem dX7_week_59 : decode cX7_week 59 = .ok (.aload_n 0, 1) := by decide +kernel
theorem dX7_week_60 : decode cX7_week 60 = .ok (.iload 4, 2) := by decide +kernel
theorem dX7_week_62 : decode cX7_week 62 = .ok (.iload_n 2, 1) := by decide +kernel
theorem dX7_week_63 : decode cX7_week 63 = .ok (.invokevirtual 225, 3) := by decide +kernel
theorem dX7_week_66 : decode cX7_week 66 = .ok (.ireturn, 1) := by decide +kernel
theorem dX7_best_0 : decode cX7_best 0 = .ok (.aload_n 0, 1) := by decide +kernel
theorem dX7_best_1 : decode cX7_best 1 = .ok (.iload_n 1, 1) := by decide +kernel
theorem dX7_best_2 : decode cX7_best 2 = .ok (.invokevirtual 210, 3) := by decide +kernel
theorem dX7_best_5 : decode cX7_best 5 = .ok (.istore_n 2, 1) := by decide +kernel
theorem dX7_best_6 : decode cX7_best 6 = .ok (.iload_n 2, 1) := by decide +kernel
theorem dX7_best_7 : decode cX7_best 7 = .ok (.ifCond .eq 5, 3) := by decide +kernel
theorem dX7_best_10 : decode cX7_best 10 = .ok (.iload_n 2, 1) := by decide +kernel
theorem dX7_best_11 : decode cX7_best 11 = .ok (.ireturn, 1) := by decide +kernel
theorem dX7_best_12 : decode cX7_best 12 = .ok (.aload_n 0, 1) := by decide +kernel
theorem dX7_best_13 : decode cX7_best 13 = .ok (.aload_n 0, 1) := by decide +kernel
theorem dX7_best_14 : decode cX7_best 14 = .ok (.getfield 28, 3) := by decide +kernel
theorem dX7_best_17 : decode cX7_best 17 = .ok (.aload_n 0, 1) := by decide +kernel
theorem dX7_best_18 : decode cX7_best 18 = .ok (.getfield 42, 3) := by decide +kernel
theorem dX7_best_21 : decode cX7_best 21 = .ok (.getfield 228, 3) := by decide +kernel
theorem dX7_best_24 : decode cX7_best 24 = .ok (.aload_n 0, 1) := by decide +kernel
theorem dX7_best_25 : decode cX7_best 25 = .ok (.getfield 42, 3) := by decide +kernel
theorem dX7_best_28 : decode cX7_best 28 = .ok (.invokevirtual 219, 3) := by decide +kernel
theorem dX7_best_31 : decode cX7_best 31 = .ok (.invokevirtual 163, 3) := by decide +kernel
theorem dX7_best_34 : decode cX7_best 34 = .ok (.iload_n 1, 1) := by decide +kernel
theorem dX7_best_35 : decode cX7_best 35 = .ok (.invokevirtual 225, 3) := by decide +kernel
theorem dX7_best_38 : decode cX7_best 38 = .ok (.ireturn, 1) := by decide +kernel
theorem dX7_ruled_0 : decode cX7_ruled 0 = .ok (.aload_n 0, 1) := by decide +kernel
theorem dX7_ruled_1 : decode cX7_ruled 1 = .ok (.iload_n 1, 1) := by decide +kernel
theorem dX7_ruled_2 : decode cX7_ruled 2 = .ok (.invokevirtual 210, 3) := by decide +kernel
theorem dX7_ruled_5 : decode cX7_ruled 5 = .ok (.istore_n 2, 1) := by decide +kernel
theorem dX7_ruled_6 : decode cX7_ruled 6 = .ok (.iload_n 2, 1) := by decide +kernel
theorem dX7_ruled_7 : decode cX7_ruled 7 = .ok (.ifCond .eq 5, 3) := by decide +kernel
theorem dX7_ruled_10 : decode cX7_ruled 10 = .ok (.iload_n 2, 1) := by decide +kernel
theorem dX7_ruled_11 : decode cX7_ruled 11 = .ok (.ireturn, 1) := by decide +kernel
theorem dX7_ruled_12 : decode cX7_ruled 12 = .ok (.aload_n 0, 1) := by decide +kernel
theorem dX7_ruled_13 : decode cX7_ruled 13 = .ok (.aload_n 0, 1) := by decide +kernel
theorem dX7_ruled_14 : decode cX7_ruled 14 = .ok (.getfield 10, 3) := by decide +kernel
theorem dX7_ruled_17 : decode cX7_ruled 17 = .ok (.aload_n 0, 1) := by decide +kernel
theorem dX7_ruled_18 : decode cX7_ruled 18 = .ok (.getfield 42, 3) := by decide +kernel
theorem dX7_ruled_21 : decode cX7_ruled 21 = .ok (.invokevirtual 219, 3) := by decide +kernel
theorem dX7_ruled_24 : decode cX7_ruled 24 = .ok (.invokevirtual 231, 3) := by decide +kernel
theorem dX7_ruled_27 : decode cX7_ruled 27 = .ok (.iload_n 1, 1) := by decide +kernel
theorem dX7_ruled_28 : decode cX7_ruled 28 = .ok (.invokevirtual 225, 3) := by decide +kernel
theorem dX7_ruled_31 : decode cX7_ruled 31 = .ok (.ireturn, 1) := by decide +kernel
theorem dX7_undo_0 : decode cX7_undo 0 = .ok (.aload_n 0, 1) := by decide +kernel
theorem dX7_undo_1 : decode cX7_undo 1 = .ok (.getfield 42, 3) := by decide +kernel
theorem dX7_undo_4 : decode cX7_undo 4 = .ok (.getfield 57, 3) := by decide +kernel
theorem dX7_undo_7 : decode cX7_undo 7 = .ok (.ifCond .eq 37, 3) := by decide +kernel
theorem dX7_undo_10 : decode cX7_undo 10 = .ok (.aload_n 0, 1) := by decide +kernel
theorem dX7_undo_11 : decode cX7_undo 11 = .ok (.getfield 42, 3) := by decide +kernel
theorem dX7_undo_14 : decode cX7_undo 14 = .ok (.getfield 234, 3) := by decide +kernel
theorem dX7_undo_17 : decode cX7_undo 17 = .ok (.iconst 1, 1) := by decide +kernel
theorem dX7_undo_18 : decode cX7_undo 18 = .ok (.if_icmp .lt 26, 3) := by decide +kernel
theorem dX7_undo_21 : decode cX7_undo 21 = .ok (.aload_n 0, 1) := by decide +kernel
theorem dX7_undo_22 : decode cX7_undo 22 = .ok (.getfield 42, 3) := by decide +kernel
theorem dX7_undo_25 : decode cX7_undo 25 = .ok (.getfield 228, 3) := by decide +kernel
theorem dX7_undo_28 : decode cX7_undo 28 = .ok (.ifnull 16, 3) := by decide +kernel
theorem dX7_undo_31 : decode cX7_undo 31 = .ok (.aload_n 0, 1) := by decide +kernel
theorem dX7_undo_32 : decode cX7_undo 32 = .ok (.getfield 42, 3) := by decide +kernel
theorem dX7_undo_35 : decode cX7_undo 35 = .ok (.getfield 228, 3) := by decide +kernel
theorem dX7_undo_38 : decode cX7_undo 38 = .ok (.getfield 133, 3) := by decide +kernel
theorem dX7_undo_41 : decode cX7_undo 41 = .ok (.ifnonnull 6, 3) := by decide +kernel
theorem dX7_undo_44 : decode cX7_undo 44 = .ok (.bipush (-6), 2) := by decide +kernel
theorem dX7_undo_46 : decode cX7_undo 46 = .ok (.ireturn, 1) := by decide +kernel
theorem dX7_undo_47 : decode cX7_undo 47 = .ok (.aload_n 0, 1) := by decide +kernel
theorem dX7_undo_48 : decode cX7_undo 48 = .ok (.getfield 42, 3) := by decide +kernel
theorem dX7_undo_51 : decode cX7_undo 51 = .ok (.dup, 1) := by decide +kernel
theorem dX7_undo_52 : decode cX7_undo 52 = .ok (.getfield 234, 3) := by decide +kernel
theorem dX7_undo_55 : decode cX7_undo 55 = .ok (.iconst 1, 1) := by decide +kernel
theorem dX7_undo_56 : decode cX7_undo 56 = .ok (.isub, 1) := by decide +kernel
theorem dX7_undo_57 : decode cX7_undo 57 = .ok (.putfield 234, 3) := by decide +kernel
theorem dX7_undo_60 : decode cX7_undo 60 = .ok (.aload_n 0, 1) := by decide +kernel
theorem dX7_undo_61 : decode cX7_undo 61 = .ok (.getfield 42, 3) := by decide +kernel
theorem dX7_undo_64 : decode cX7_undo 64 = .ok (.aload_n 0, 1) := by decide +kernel
theorem dX7_undo_65 : decode cX7_undo 65 = .ok (.getfield 42, 3) := by decide +kernel
theorem dX7_undo_68 : decode cX7_undo 68 = .ok (.getfield 228, 3) := by decide +kernel
theorem dX7_undo_71 : decode cX7_undo 71 = .ok (.getfield 133, 3) := by decide +kernel
theorem dX7_undo_74 : decode cX7_undo 74 = .ok (.putfield 228, 3) := by decide +kernel
theorem dX7_undo_77 : decode cX7_undo 77 = .ok (.aload_n 0, 1) := by decide +kernel
theorem dX7_undo_78 : decode cX7_undo 78 = .ok (.getfield 42, 3) := by decide +kernel
theorem dX7_undo_81 : decode cX7_undo 81 = .ok (.getfield 228, 3) := by decide +kernel
theorem dX7_undo_84 : decode cX7_undo 84 = .ok (.getfield 140, 3) := by decide +kernel
theorem dX7_undo_87 : decode cX7_undo 87 = .ok (.ireturn, 1) := by decide +kernel
theorem dX7_stop_0 : decode cX7_stop 0 = .ok (.aload_n 0, 1) := by decide +kernel
theorem dX7_stop_1 : decode cX7_stop 1 = .ok (.getfield 42, 3) := by decide +kernel
theorem dX7_stop_4 : decode cX7_stop 4 = .ok (.getfield 57, 3) := by decide +kernel
theorem dX7_stop_7 : decode cX7_stop 7 = .ok (.ifCond .ne 5, 3) := by decide +kernel
theorem dX7_stop_10 : decode cX7_stop 10 = .ok (.iconst 0, 1) := by decide +kernel
theorem dX7_stop_11 : decode cX7_stop 11 = .ok (.ireturn, 1) := by decide +kernel
theorem dX7_stop_12 : decode cX7_stop 12 = .ok (.aload_n 0, 1) := by decide +kernel
theorem dX7_stop_13 : decode cX7_stop 13 = .ok (.getfield 42, 3) := by decide +kernel
theorem dX7_stop_16 : decode cX7_stop 16 = .ok (.iconst 0, 1) := by decide +kernel
theorem dX7_stop_17 : decode cX7_stop 17 = .ok (.putfield 57, 3) := by decide +kernel
theorem dX7_stop_20 : decode cX7_stop 20 = .ok (.iconst 1, 1) := by decide +kernel
theorem dX7_stop_21 : decode cX7_stop 21 = .ok (.ireturn, 1) := by decide +kernel
theorem dX7_now_0 : decode cX7_now 0 = .ok (.aload_n 0, 1) := by decide +kernel
theorem dX7_now_1 : decode cX7_now 1 = .ok (.getfield 42, 3) := by decide +kernel
theorem dX7_now_4 : decode cX7_now 4 = .ok (.getfield 57, 3) := by decide +kernel
theorem dX7_now_7 : decode cX7_now 7 = .ok (.ifCond .eq 13, 3) := by decide +kernel
theorem dX7_now_10 : decode cX7_now 10 = .ok (.aload_n 0, 1) := by decide +kernel
theorem dX7_now_11 : decode cX7_now 11 = .ok (.getfield 42, 3) := by decide +kernel
theorem dX7_now_14 : decode cX7_now 14 = .ok (.getfield 228, 3) := by decide +kernel
theorem dX7_now_17 : decode cX7_now 17 = .ok (.ifnonnull 6, 3) := by decide +kernel
theorem dX7_now_20 : decode cX7_now 20 = .ok (.bipush (-6), 2) := by decide +kernel
theorem dX7_now_22 : decode cX7_now 22 = .ok (.ireturn, 1) := by decide +kernel
theorem dX7_now_23 : decode cX7_now 23 = .ok (.iload_n 1, 1) := by decide +kernel
theorem dX7_now_24 : decode cX7_now 24 = .ok (.tableswitch 131 0 6 #[44, 55, 63, 78, 93, 108, 123], 44) := by decide +kernel
theorem dX7_now_68 : decode cX7_now 68 = .ok (.aload_n 0, 1) := by decide +kernel
theorem dX7_now_69 : decode cX7_now 69 = .ok (.getfield 42, 3) := by decide +kernel
theorem dX7_now_72 : decode cX7_now 72 = .ok (.getfield 228, 3) := by decide +kernel
theorem dX7_now_75 : decode cX7_now 75 = .ok (.getfield 130, 3) := by decide +kernel
theorem dX7_now_78 : decode cX7_now 78 = .ok (.ireturn, 1) := by decide +kernel
theorem dX7_now_79 : decode cX7_now 79 = .ok (.aload_n 0, 1) := by decide +kernel
theorem dX7_now_80 : decode cX7_now 80 = .ok (.getfield 42, 3) := by decide +kernel
theorem dX7_now_83 : decode cX7_now 83 = .ok (.invokevirtual 219, 3) := by decide +kernel
theorem dX7_now_86 : decode cX7_now 86 = .ok (.ireturn, 1) := by decide +kernel
theorem dX7_now_87 : decode cX7_now 87 = .ok (.aload_n 0, 1) := by decide +kernel
theorem dX7_now_88 : decode cX7_now 88 = .ok (.getfield 42, 3) := by decide +kernel
theorem dX7_now_91 : decode cX7_now 91 = .ok (.aload_n 0, 1) := by decide +kernel
theorem dX7_now_92 : decode cX7_now 92 = .ok (.getfield 42, 3) := by decide +kernel
theorem dX7_now_95 : decode cX7_now 95 = .ok (.getfield 237, 3) := by decide +kernel
theorem dX7_now_98 : decode cX7_now 98 = .ok (.invokevirtual 240, 3) := by decide +kernel
theorem dX7_now_101 : decode cX7_now 101 = .ok (.ireturn, 1) := by decide +kernel
theorem dX7_now_102 : decode cX7_now 102 = .ok (.aload_n 0, 1) := by decide +kernel
theorem dX7_now_103 : decode cX7_now 103 = .ok (.getfield 42, 3) := by decide +kernel
theorem dX7_now_106 : decode cX7_now 106 = .ok (.aload_n 0, 1) := by decide +kernel
theorem dX7_now_107 : decode cX7_now 107 = .ok (.getfield 42, 3) := by decide +kernel
theorem dX7_now_110 : decode cX7_now 110 = .ok (.getfield 244, 3) := by decide +kernel
theorem dX7_now_113 : decode cX7_now 113 = .ok (.invokevirtual 240, 3) := by decide +kernel
theorem dX7_now_116 : decode cX7_now 116 = .ok (.ireturn, 1) := by decide +kernel
theorem dX7_now_117 : decode cX7_now 117 = .ok (.aload_n 0, 1) := by decide +kernel
theorem dX7_now_118 : decode cX7_now 118 = .ok (.getfield 42, 3) := by decide +kernel
theorem dX7_now_121 : decode cX7_now 121 = .ok (.aload_n 0, 1) := by decide +kernel
theorem dX7_now_122 : decode cX7_now 122 = .ok (.getfield 42, 3) := by decide +kernel
theorem dX7_now_125 : decode cX7_now 125 = .ok (.getfield 247, 3) := by decide +kernel
theorem dX7_now_128 : decode cX7_now 128 = .ok (.invokevirtual 240, 3) := by decide +kernel
theorem dX7_now_131 : decode cX7_now 131 = .ok (.ireturn, 1) := by decide +kernel
theorem dX7_now_132 : decode cX7_now 132 = .ok (.aload_n 0, 1) := by decide +kernel
theorem dX7_now_133 : decode cX7_now 133 = .ok (.getfield 42, 3) := by decide +kernel
theorem dX7_now_136 : decode cX7_now 136 = .ok (.aload_n 0, 1) := by decide +kernel
theorem dX7_now_137 : decode cX7_now 137 = .ok (.getfield 42, 3) := by decide +kernel
theorem dX7_now_140 : decode cX7_now 140 = .ok (.getfield 250, 3) := by decide +kernel
theorem dX7_now_143 : decode cX7_now 143 = .ok (.invokevirtual 240, 3) := by decide +kernel
theorem dX7_now_146 : decode cX7_now 146 = .ok (.ireturn, 1) := by decide +kernel
theorem dX7_now_147 : decode cX7_now 147 = .ok (.aload_n 0, 1) := by decide +kernel
theorem dX7_now_148 : decode cX7_now 148 = .ok (.getfield 42, 3) := by decide +kernel
theorem dX7_now_151 : decode cX7_now 151 = .ok (.getfield 234, 3) := by decide +kernel
theorem dX7_now_154 : decode cX7_now 154 = .ok (.ireturn, 1) := by decide +kernel
theorem dX7_now_155 : decode cX7_now 155 = .ok (.iconst (-1), 1) := by decide +kernel
theorem dX7_now_156 : decode cX7_now 156 = .ok (.ireturn, 1) := by decide +kernel
theorem dX7_isWithin_0 : decode cX7_isWithin 0 = .ok (.iload_n 0, 1) := by decide +kernel
theorem dX7_isWithin_1 : decode cX7_isWithin 1 = .ok (.ifCond .lt 12, 3) := by decide +kernel
theorem dX7_isWithin_4 : decode cX7_isWithin 4 = .ok (.iload_n 0, 1) := by decide +kernel
theorem dX7_isWithin_5 : decode cX7_isWithin 5 = .ok (.iload_n 1, 1) := by decide +kernel
theorem dX7_isWithin_6 : decode cX7_isWithin 6 = .ok (.if_icmp .gt 7, 3) := by decide +kernel
theorem dX7_isWithin_9 : decode cX7_isWithin 9 = .ok (.iconst 1, 1) := by decide +kernel
theorem dX7_isWithin_10 : decode cX7_isWithin 10 = .ok (.goto 4, 3) := by decide +kernel
theorem dX7_isWithin_13 : decode cX7_isWithin 13 = .ok (.iconst 0, 1) := by decide +kernel
theorem dX7_isWithin_14 : decode cX7_isWithin 14 = .ok (.ireturn, 1) := by decide +kernel
theorem dX7_isWhole_0 : decode cX7_isWhole 0 = .ok (.aload_n 0, 1) := by decide +kernel
theorem dX7_isWhole_1 : decode cX7_isWhole 1 = .ok (.getfield 10, 3) := by decide +kernel
theorem dX7_isWhole_4 : decode cX7_isWhole 4 = .ok (.getfield 50, 3) := by decide +kernel
theorem dX7_isWhole_7 : decode cX7_isWhole 7 = .ok (.ifCond .le 17, 3) := by decide +kernel
theorem dX7_isWhole_10 : decode cX7_isWhole 10 = .ok (.aload_n 0, 1) := by decide +kernel
theorem dX7_isWhole_11 : decode cX7_isWhole 11 = .ok (.getfield 19, 3) := by decide +kernel
theorem dX7_isWhole_14 : decode cX7_isWhole 14 = .ok (.invokevirtual 253, 3) := by decide +kernel
theorem dX7_isWhole_17 : decode cX7_isWhole 17 = .ok (.ifCond .eq 7, 3) := by decide +kernel
theorem dX7_isWhole_20 : decode cX7_isWhole 20 = .ok (.iconst 1, 1) := by decide +kernel
theorem dX7_isWhole_21 : decode cX7_isWhole 21 = .ok (.goto 4, 3) := by decide +kernel
theorem dX7_isWhole_24 : decode cX7_isWhole 24 = .ok (.iconst 0, 1) := by decide +kernel
theorem dX7_isWhole_25 : decode cX7_isWhole 25 = .ok (.ireturn, 1) := by decide +kernel
theorem dX7_refusalOfWeek_0 : decode cX7_refusalOfWeek 0 = .ok (.aload_n 0, 1) := by decide +kernel
theorem dX7_refusalOfWeek_1 : decode cX7_refusalOfWeek 1 = .ok (.getfield 42, 3) := by decide +kernel
theorem dX7_refusalOfWeek_4 : decode cX7_refusalOfWeek 4 = .ok (.getfield 57, 3) := by decide +kernel
theorem dX7_refusalOfWeek_7 : decode cX7_refusalOfWeek 7 = .ok (.ifCond .eq 13, 3) := by decide +kernel
theorem dX7_refusalOfWeek_10 : decode cX7_refusalOfWeek 10 = .ok (.aload_n 0, 1) := by decide +kernel
theorem dX7_refusalOfWeek_11 : decode cX7_refusalOfWeek 11 = .ok (.getfield 42, 3) := by decide +kernel
theorem dX7_refusalOfWeek_14 : decode cX7_refusalOfWeek 14 = .ok (.getfield 228, 3) := by decide +kernel
theorem dX7_refusalOfWeek_17 : decode cX7_refusalOfWeek 17 = .ok (.ifnonnull 6, 3) := by decide +kernel
theorem dX7_refusalOfWeek_20 : decode cX7_refusalOfWeek 20 = .ok (.bipush (-6), 2) := by decide +kernel
theorem dX7_refusalOfWeek_22 : decode cX7_refusalOfWeek 22 = .ok (.ireturn, 1) := by decide +kernel
theorem dX7_refusalOfWeek_23 : decode cX7_refusalOfWeek 23 = .ok (.aload_n 0, 1) := by decide +kernel
theorem dX7_refusalOfWeek_24 : decode cX7_refusalOfWeek 24 = .ok (.getfield 19, 3) := by decide +kernel
theorem dX7_refusalOfWeek_27 : decode cX7_refusalOfWeek 27 = .ok (.aload_n 0, 1) := by decide +kernel
theorem dX7_refusalOfWeek_28 : decode cX7_refusalOfWeek 28 = .ok (.getfield 42, 3) := by decide +kernel
theorem dX7_refusalOfWeek_31 : decode cX7_refusalOfWeek 31 = .ok (.getfield 228, 3) := by decide +kernel
theorem dX7_refusalOfWeek_34 : decode cX7_refusalOfWeek 34 = .ok (.invokevirtual 103, 3) := by decide +kernel
theorem dX7_refusalOfWeek_37 : decode cX7_refusalOfWeek 37 = .ok (.ifCond .eq 6, 3) := by decide +kernel
theorem dX7_refusalOfWeek_40 : decode cX7_refusalOfWeek 40 = .ok (.bipush (-4), 2) := by decide +kernel
theorem dX7_refusalOfWeek_42 : decode cX7_refusalOfWeek 42 = .ok (.ireturn, 1) := by decide +kernel
theorem dX7_refusalOfWeek_43 : decode cX7_refusalOfWeek 43 = .ok (.aload_n 0, 1) := by decide +kernel
theorem dX7_refusalOfWeek_44 : decode cX7_refusalOfWeek 44 = .ok (.getfield 42, 3) := by decide +kernel
theorem dX7_refusalOfWeek_47 : decode cX7_refusalOfWeek 47 = .ok (.getfield 228, 3) := by decide +kernel
theorem dX7_refusalOfWeek_50 : decode cX7_refusalOfWeek 50 = .ok (.iload_n 1, 1) := by decide +kernel
theorem dX7_refusalOfWeek_51 : decode cX7_refusalOfWeek 51 = .ok (.invokevirtual 256, 3) := by decide +kernel
theorem dX7_refusalOfWeek_54 : decode cX7_refusalOfWeek 54 = .ok (.ifnonnull 7, 3) := by decide +kernel
theorem dX7_refusalOfWeek_57 : decode cX7_refusalOfWeek 57 = .ok (.iconst (-1), 1) := by decide +kernel
theorem dX7_refusalOfWeek_58 : decode cX7_refusalOfWeek 58 = .ok (.goto 4, 3) := by decide +kernel
theorem dX7_refusalOfWeek_61 : decode cX7_refusalOfWeek 61 = .ok (.iconst 0, 1) := by decide +kernel
theorem dX7_refusalOfWeek_62 : decode cX7_refusalOfWeek 62 = .ok (.ireturn, 1) := by decide +kernel
theorem dX7_letWeek_0 : decode cX7_letWeek 0 = .ok (.aload_n 0, 1) := by decide +kernel
theorem dX7_letWeek_1 : decode cX7_letWeek 1 = .ok (.getfield 42, 3) := by decide +kernel
theorem dX7_letWeek_4 : decode cX7_letWeek 4 = .ok (.getfield 228, 3) := by decide +kernel
theorem dX7_letWeek_7 : decode cX7_letWeek 7 = .ok (.ifnonnull 7, 3) := by decide +kernel
theorem dX7_letWeek_10 : decode cX7_letWeek 10 = .ok (.aconst_null, 1) := by decide +kernel
theorem dX7_letWeek_11 : decode cX7_letWeek 11 = .ok (.goto 14, 3) := by decide +kernel
theorem dX7_letWeek_14 : decode cX7_letWeek 14 = .ok (.aload_n 0, 1) := by decide +kernel
theorem dX7_letWeek_15 : decode cX7_letWeek 15 = .ok (.getfield 42, 3) := by decide +kernel
theorem dX7_letWeek_18 : decode cX7_letWeek 18 = .ok (.getfield 228, 3) := by decide +kernel
theorem dX7_letWeek_21 : decode cX7_letWeek 21 = .ok (.iload_n 2, 1) := by decide +kernel
theorem dX7_letWeek_22 : decode cX7_letWeek 22 = .ok (.invokevirtual 256, 3) := by decide +kernel
theorem dX7_letWeek_25 : decode cX7_letWeek 25 = .ok (.astore_n 3, 1) := by decide +kernel
theorem dX7_letWeek_26 : decode cX7_letWeek 26 = .ok (.aload_n 3, 1) := by decide +kernel
theorem dX7_letWeek_27 : decode cX7_letWeek 27 = .ok (.ifnonnull 5, 3) := by decide +kernel
theorem dX7_letWeek_30 : decode cX7_letWeek 30 = .ok (.iconst (-1), 1) := by decide +kernel
theorem dX7_letWeek_31 : decode cX7_letWeek 31 = .ok (.ireturn, 1) := by decide +kernel
theorem dX7_letWeek_32 : decode cX7_letWeek 32 = .ok (.aload_n 0, 1) := by decide +kernel
theorem dX7_letWeek_33 : decode cX7_letWeek 33 = .ok (.getfield 19, 3) := by decide +kernel
theorem dX7_letWeek_36 : decode cX7_letWeek 36 = .ok (.aload_n 0, 1) := by decide +kernel
theorem dX7_letWeek_37 : decode cX7_letWeek 37 = .ok (.getfield 42, 3) := by decide +kernel
theorem dX7_letWeek_40 : decode cX7_letWeek 40 = .ok (.getfield 228, 3) := by decide +kernel
theorem dX7_letWeek_43 : decode cX7_letWeek 43 = .ok (.invokevirtual 259, 3) := by decide +kernel
theorem dX7_letWeek_46 : decode cX7_letWeek 46 = .ok (.aload_n 0, 1) := by decide +kernel
theorem dX7_letWeek_47 : decode cX7_letWeek 47 = .ok (.getfield 10, 3) := by decide +kernel
theorem dX7_letWeek_50 : decode cX7_letWeek 50 = .ok (.aload_n 0, 1) := by decide +kernel
theorem dX7_letWeek_51 : decode cX7_letWeek 51 = .ok (.getfield 42, 3) := by decide +kernel
theorem dX7_letWeek_54 : decode cX7_letWeek 54 = .ok (.invokevirtual 219, 3) := by decide +kernel
theorem dX7_letWeek_57 : decode cX7_letWeek 57 = .ok (.iload_n 1, 1) := by decide +kernel
theorem dX7_letWeek_58 : decode cX7_letWeek 58 = .ok (.invokevirtual 263, 3) := by decide +kernel
theorem dX7_letWeek_61 : decode cX7_letWeek 61 = .ok (.imul, 1) := by decide +kernel
theorem dX7_letWeek_62 : decode cX7_letWeek 62 = .ok (.istore 4, 2) := by decide +kernel
theorem dX7_letWeek_64 : decode cX7_letWeek 64 = .ok (.aload_n 0, 1) := by decide +kernel
theorem dX7_letWeek_65 : decode cX7_letWeek 65 = .ok (.getfield 10, 3) := by decide +kernel
theorem dX7_letWeek_68 : decode cX7_letWeek 68 = .ok (.aload_n 0, 1) := by decide +kernel
theorem dX7_letWeek_69 : decode cX7_letWeek 69 = .ok (.getfield 42, 3) := by decide +kernel
theorem dX7_letWeek_72 : decode cX7_letWeek 72 = .ok (.invokevirtual 219, 3) := by decide +kernel
theorem dX7_letWeek_75 : decode cX7_letWeek 75 = .ok (.iload_n 1, 1) := by decide +kernel
theorem dX7_letWeek_76 : decode cX7_letWeek 76 = .ok (.aload_n 3, 1) := by decide +kernel
theorem dX7_letWeek_77 : decode cX7_letWeek 77 = .ok (.getfield 123, 3) := by decide +kernel
theorem dX7_letWeek_80 : decode cX7_letWeek 80 = .ok (.invokevirtual 266, 3) := by decide +kernel
theorem dX7_letWeek_83 : decode cX7_letWeek 83 = .ok (.istore 5, 2) := by decide +kernel
theorem dX7_letWeek_85 : decode cX7_letWeek 85 = .ok (.aload_n 0, 1) := by decide +kernel
theorem dX7_letWeek_86 : decode cX7_letWeek 86 = .ok (.getfield 42, 3) := by decide +kernel
theorem dX7_letWeek_89 : decode cX7_letWeek 89 = .ok (.aload_n 3, 1) := by decide +kernel
theorem dX7_letWeek_90 : decode cX7_letWeek 90 = .ok (.iload 5, 2) := by decide +kernel
theorem dX7_letWeek_92 : decode cX7_letWeek 92 = .ok (.iload 4, 2) := by decide +kernel
theorem dX7_letWeek_94 : decode cX7_letWeek 94 = .ok (.aload_n 0, 1) := by decide +kernel
theorem dX7_letWeek_95 : decode cX7_letWeek 95 = .ok (.getfield 10, 3) := by decide +kernel
theorem dX7_letWeek_98 : decode cX7_letWeek 98 = .ok (.getfield 270, 3) := by decide +kernel
theorem dX7_letWeek_101 : decode cX7_letWeek 101 = .ok (.iload_n 1, 1) := by decide +kernel
theorem dX7_letWeek_102 : decode cX7_letWeek 102 = .ok (.aload_n 0, 1) := by decide +kernel
theorem dX7_letWeek_103 : decode cX7_letWeek 103 = .ok (.getfield 10, 3) := by decide +kernel
theorem dX7_letWeek_106 : decode cX7_letWeek 106 = .ok (.getfield 50, 3) := by decide +kernel
theorem dX7_letWeek_109 : decode cX7_letWeek 109 = .ok (.iconst 1, 1) := by decide +kernel
theorem dX7_letWeek_110 : decode cX7_letWeek 110 = .ok (.isub, 1) := by decide +kernel
theorem dX7_letWeek_111 : decode cX7_letWeek 111 = .ok (.invokestatic 167, 3) := by decide +kernel
theorem dX7_letWeek_114 : decode cX7_letWeek 114 = .ok (.invokevirtual 272, 3) := by decide +kernel
theorem dX7_letWeek_117 : decode cX7_letWeek 117 = .ok (.iload 4, 2) := by decide +kernel
theorem dX7_letWeek_119 : decode cX7_letWeek 119 = .ok (.ireturn, 1) := by decide +kernel
theorem dX8_in_0 : decode cX8_in 0 = .ok (.iload_n 0, 1) := by decide +kernel
theorem dX8_in_1 : decode cX8_in 1 = .ok (.iload_n 1, 1) := by decide +kernel
theorem dX8_in_2 : decode cX8_in 2 = .ok (.if_icmp .lt 12, 3) := by decide +kernel
theorem dX8_in_5 : decode cX8_in 5 = .ok (.iload_n 0, 1) := by decide +kernel
theorem dX8_in_6 : decode cX8_in 6 = .ok (.iload_n 2, 1) := by decide +kernel
theorem dX8_in_7 : decode cX8_in 7 = .ok (.if_icmp .gt 7, 3) := by decide +kernel
theorem dX8_in_10 : decode cX8_in 10 = .ok (.iconst 1, 1) := by decide +kernel
theorem dX8_in_11 : decode cX8_in 11 = .ok (.goto 4, 3) := by decide +kernel
theorem dX8_in_14 : decode cX8_in 14 = .ok (.iconst 0, 1) := by decide +kernel
theorem dX8_in_15 : decode cX8_in 15 = .ok (.ireturn, 1) := by decide +kernel
theorem dX8_init_0 : decode cX8_init 0 = .ok (.aload_n 0, 1) := by decide +kernel
theorem dX8_init_1 : decode cX8_init 1 = .ok (.invokespecial 7, 3) := by decide +kernel
theorem dX8_init_4 : decode cX8_init 4 = .ok (.aload_n 0, 1) := by decide +kernel
theorem dX8_init_5 : decode cX8_init 5 = .ok (.iconst 3, 1) := by decide +kernel
theorem dX8_init_6 : decode cX8_init 6 = .ok (.newarray .int, 2) := by decide +kernel
theorem dX8_init_8 : decode cX8_init 8 = .ok (.putfield 13, 3) := by decide +kernel
theorem dX8_init_11 : decode cX8_init 11 = .ok (.aload_n 0, 1) := by decide +kernel
