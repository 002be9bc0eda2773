theorem dX8_settle_189 : decode cX8_settle 189 = .ok (.imul, 1) := by decide +kernel
theorem dX8_settle_190 : decode cX8_settle 190 = .ok (.aload_n 0, 1) := by decide +kernel
theorem dX8_settle_191 : decode cX8_settle 191 = .ok (.getfield 59, 3) := by decide +kernel
theorem dX8_settle_194 : decode cX8_settle 194 = .ok (.iconst 1, 1) := by decide +kernel
theorem dX8_settle_195 : decode cX8_settle 195 = .ok (.iaload, 1) := by decide +kernel
theorem dX8_settle_196 : decode cX8_settle 196 = .ok (.iadd, 1) := by decide +kernel
theorem dX8_settle_197 : decode cX8_settle 197 = .ok (.bipush 16, 2) := by decide +kernel
theorem dX8_settle_199 : decode cX8_settle 199 = .ok (.imul, 1) := by decide +kernel
theorem dX8_settle_200 : decode cX8_settle 200 = .ok (.aload_n 0, 1) := by decide +kernel
theorem dX8_settle_201 : decode cX8_settle 201 = .ok (.getfield 59, 3) := by decide +kernel
theorem dX8_settle_204 : decode cX8_settle 204 = .ok (.iconst 2, 1) := by decide +kernel
theorem dX8_settle_205 : decode cX8_settle 205 = .ok (.iaload, 1) := by decide +kernel
theorem dX8_settle_206 : decode cX8_settle 206 = .ok (.iadd, 1) := by decide +kernel
theorem dX8_settle_207 : decode cX8_settle 207 = .ok (.iastore, 1) := by decide +kernel
theorem dX8_settle_208 : decode cX8_settle 208 = .ok (.iconst 0, 1) := by decide +kernel
theorem dX8_settle_209 : decode cX8_settle 209 = .ok (.istore 6, 2) := by decide +kernel
theorem dX8_settle_211 : decode cX8_settle 211 = .ok (.aload_n 0, 1) := by decide +kernel
theorem dX8_settle_212 : decode cX8_settle 212 = .ok (.invokevirtual 181, 3) := by decide +kernel
theorem dX8_settle_215 : decode cX8_settle 215 = .ok (.istore 7, 2) := by decide +kernel
theorem dX8_settle_217 : decode cX8_settle 217 = .ok (.goto (-152), 3) := by decide +kernel
theorem dX8_settle_220 : decode cX8_settle 220 = .ok (.return_, 1) := by decide +kernel
theorem dX8_worthOf_0 : decode cX8_worthOf 0 = .ok (.aload_n 0, 1) := by decide +kernel
theorem dX8_worthOf_1 : decode cX8_worthOf 1 = .ok (.invokevirtual 194, 3) := by decide +kernel
theorem dX8_worthOf_4 : decode cX8_worthOf 4 = .ok (.aload_n 0, 1) := by decide +kernel
theorem dX8_worthOf_5 : decode cX8_worthOf 5 = .ok (.getfield 67, 3) := by decide +kernel
theorem dX8_worthOf_8 : decode cX8_worthOf 8 = .ok (.sipush 1000, 3) := by decide +kernel
theorem dX8_worthOf_11 : decode cX8_worthOf 11 = .ok (.iload_n 1, 1) := by decide +kernel
theorem dX8_worthOf_12 : decode cX8_worthOf 12 = .ok (.imul, 1) := by decide +kernel
theorem dX8_worthOf_13 : decode cX8_worthOf 13 = .ok (.iload_n 2, 1) := by decide +kernel
theorem dX8_worthOf_14 : decode cX8_worthOf 14 = .ok (.iadd, 1) := by decide +kernel
theorem dX8_worthOf_15 : decode cX8_worthOf 15 = .ok (.iconst 1, 1) := by decide +kernel
theorem dX8_worthOf_16 : decode cX8_worthOf 16 = .ok (.bastore, 1) := by decide +kernel
theorem dX8_worthOf_17 : decode cX8_worthOf 17 = .ok (.aload_n 0, 1) := by decide +kernel
theorem dX8_worthOf_18 : decode cX8_worthOf 18 = .ok (.iload_n 1, 1) := by decide +kernel
theorem dX8_worthOf_19 : decode cX8_worthOf 19 = .ok (.invokevirtual 197, 3) := by decide +kernel
theorem dX8_worthOf_22 : decode cX8_worthOf 22 = .ok (.aload_n 0, 1) := by decide +kernel
theorem dX8_worthOf_23 : decode cX8_worthOf 23 = .ok (.getfield 70, 3) := by decide +kernel
theorem dX8_worthOf_26 : decode cX8_worthOf 26 = .ok (.sipush 1000, 3) := by decide +kernel
theorem dX8_worthOf_29 : decode cX8_worthOf 29 = .ok (.iload_n 1, 1) := by decide +kernel
theorem dX8_worthOf_30 : decode cX8_worthOf 30 = .ok (.imul, 1) := by decide +kernel
theorem dX8_worthOf_31 : decode cX8_worthOf 31 = .ok (.iload_n 2, 1) := by decide +kernel
theorem dX8_worthOf_32 : decode cX8_worthOf 32 = .ok (.iadd, 1) := by decide +kernel
theorem dX8_worthOf_33 : decode cX8_worthOf 33 = .ok (.laload, 1) := by decide +kernel
theorem dX8_worthOf_34 : decode cX8_worthOf 34 = .ok (.lreturn, 1) := by decide +kernel
theorem dX8_worth_0 : decode cX8_worth 0 = .ok (.aload_n 0, 1) := by decide +kernel
theorem dX8_worth_1 : decode cX8_worth 1 = .ok (.iload_n 1, 1) := by decide +kernel
theorem dX8_worth_2 : decode cX8_worth 2 = .ok (.invokevirtual 144, 3) := by decide +kernel
theorem dX8_worth_5 : decode cX8_worth 5 = .ok (.ifCond .eq 18, 3) := by decide +kernel
theorem dX8_worth_8 : decode cX8_worth 8 = .ok (.aload_n 0, 1) := by decide +kernel
theorem dX8_worth_9 : decode cX8_worth 9 = .ok (.iload_n 2, 1) := by decide +kernel
theorem dX8_worth_10 : decode cX8_worth 10 = .ok (.invokevirtual 200, 3) := by decide +kernel
theorem dX8_worth_13 : decode cX8_worth 13 = .ok (.ifCond .eq 10, 3) := by decide +kernel
theorem dX8_worth_16 : decode cX8_worth 16 = .ok (.aload_n 0, 1) := by decide +kernel
theorem dX8_worth_17 : decode cX8_worth 17 = .ok (.invokevirtual 151, 3) := by decide +kernel
theorem dX8_worth_20 : decode cX8_worth 20 = .ok (.ifCond .ne 9, 3) := by decide +kernel
theorem dX8_worth_23 : decode cX8_worth 23 = .ok (.ldc2_w 203, 3) := by decide +kernel
theorem dX8_worth_26 : decode cX8_worth 26 = .ok (.goto 9, 3) := by decide +kernel
theorem dX8_worth_29 : decode cX8_worth 29 = .ok (.aload_n 0, 1) := by decide +kernel
theorem dX8_worth_30 : decode cX8_worth 30 = .ok (.iload_n 1, 1) := by decide +kernel
theorem dX8_worth_31 : decode cX8_worth 31 = .ok (.iload_n 2, 1) := by decide +kernel
theorem dX8_worth_32 : decode cX8_worth 32 = .ok (.invokevirtual 205, 3) := by decide +kernel
theorem dX8_worth_35 : decode cX8_worth 35 = .ok (.lreturn, 1) := by decide +kernel
theorem dX8_bestLet_0 : decode cX8_bestLet 0 = .ok (.aload_n 0, 1) := by decide +kernel
theorem dX8_bestLet_1 : decode cX8_bestLet 1 = .ok (.iload_n 1, 1) := by decide +kernel
theorem dX8_bestLet_2 : decode cX8_bestLet 2 = .ok (.iload_n 2, 1) := by decide +kernel
theorem dX8_bestLet_3 : decode cX8_bestLet 3 = .ok (.invokevirtual 205, 3) := by decide +kernel
theorem dX8_bestLet_6 : decode cX8_bestLet 6 = .ok (.lstore_n 3, 1) := by decide +kernel
theorem dX8_bestLet_7 : decode cX8_bestLet 7 = .ok (.aload_n 0, 1) := by decide +kernel
theorem dX8_bestLet_8 : decode cX8_bestLet 8 = .ok (.getfield 74, 3) := by decide +kernel
theorem dX8_bestLet_11 : decode cX8_bestLet 11 = .ok (.sipush 1000, 3) := by decide +kernel
theorem dX8_bestLet_14 : decode cX8_bestLet 14 = .ok (.iload_n 1, 1) := by decide +kernel
theorem dX8_bestLet_15 : decode cX8_bestLet 15 = .ok (.imul, 1) := by decide +kernel
theorem dX8_bestLet_16 : decode cX8_bestLet 16 = .ok (.iload_n 2, 1) := by decide +kernel
theorem dX8_bestLet_17 : decode cX8_bestLet 17 = .ok (.iadd, 1) := by decide +kernel
theorem dX8_bestLet_18 : decode cX8_bestLet 18 = .ok (.iaload, 1) := by decide +kernel
theorem dX8_bestLet_19 : decode cX8_bestLet 19 = .ok (.istore 5, 2) := by decide +kernel
theorem dX8_bestLet_21 : decode cX8_bestLet 21 = .ok (.aload_n 0, 1) := by decide +kernel
theorem dX8_bestLet_22 : decode cX8_bestLet 22 = .ok (.getfield 59, 3) := by decide +kernel
theorem dX8_bestLet_25 : decode cX8_bestLet 25 = .ok (.iconst 0, 1) := by decide +kernel
theorem dX8_bestLet_26 : decode cX8_bestLet 26 = .ok (.iload 5, 2) := by decide +kernel
theorem dX8_bestLet_28 : decode cX8_bestLet 28 = .ok (.bipush 8, 2) := by decide +kernel
theorem dX8_bestLet_30 : decode cX8_bestLet 30 = .ok (.ishr, 1) := by decide +kernel
theorem dX8_bestLet_31 : decode cX8_bestLet 31 = .ok (.iastore, 1) := by decide +kernel
theorem dX8_bestLet_32 : decode cX8_bestLet 32 = .ok (.aload_n 0, 1) := by decide +kernel
theorem dX8_bestLet_33 : decode cX8_bestLet 33 = .ok (.getfield 59, 3) := by decide +kernel
theorem dX8_bestLet_36 : decode cX8_bestLet 36 = .ok (.iconst 1, 1) := by decide +kernel
theorem dX8_bestLet_37 : decode cX8_bestLet 37 = .ok (.iload 5, 2) := by decide +kernel
theorem dX8_bestLet_39 : decode cX8_bestLet 39 = .ok (.iconst 4, 1) := by decide +kernel
theorem dX8_bestLet_40 : decode cX8_bestLet 40 = .ok (.ishr, 1) := by decide +kernel
theorem dX8_bestLet_41 : decode cX8_bestLet 41 = .ok (.bipush 15, 2) := by decide +kernel
theorem dX8_bestLet_43 : decode cX8_bestLet 43 = .ok (.iand, 1) := by decide +kernel
theorem dX8_bestLet_44 : decode cX8_bestLet 44 = .ok (.iastore, 1) := by decide +kernel
theorem dX8_bestLet_45 : decode cX8_bestLet 45 = .ok (.aload_n 0, 1) := by decide +kernel
theorem dX8_bestLet_46 : decode cX8_bestLet 46 = .ok (.getfield 59, 3) := by decide +kernel
theorem dX8_bestLet_49 : decode cX8_bestLet 49 = .ok (.iconst 2, 1) := by decide +kernel
theorem dX8_bestLet_50 : decode cX8_bestLet 50 = .ok (.iload 5, 2) := by decide +kernel
theorem dX8_bestLet_52 : decode cX8_bestLet 52 = .ok (.bipush 15, 2) := by decide +kernel
theorem dX8_bestLet_54 : decode cX8_bestLet 54 = .ok (.iand, 1) := by decide +kernel
theorem dX8_bestLet_55 : decode cX8_bestLet 55 = .ok (.iastore, 1) := by decide +kernel
theorem dX8_bestLet_56 : decode cX8_bestLet 56 = .ok (.return_, 1) := by decide +kernel
theorem dX8_policy_0 : decode cX8_policy 0 = .ok (.aload_n 0, 1) := by decide +kernel
theorem dX8_policy_1 : decode cX8_policy 1 = .ok (.iload_n 1, 1) := by decide +kernel
theorem dX8_policy_2 : decode cX8_policy 2 = .ok (.invokevirtual 144, 3) := by decide +kernel
theorem dX8_policy_5 : decode cX8_policy 5 = .ok (.ifCond .eq 19, 3) := by decide +kernel
theorem dX8_policy_8 : decode cX8_policy 8 = .ok (.aload_n 0, 1) := by decide +kernel
theorem dX8_policy_9 : decode cX8_policy 9 = .ok (.iload_n 2, 1) := by decide +kernel
theorem dX8_policy_10 : decode cX8_policy 10 = .ok (.invokevirtual 200, 3) := by decide +kernel
theorem dX8_policy_13 : decode cX8_policy 13 = .ok (.ifCond .eq 11, 3) := by decide +kernel
theorem dX8_policy_16 : decode cX8_policy 16 = .ok (.aload_n 0, 1) := by decide +kernel
theorem dX8_policy_17 : decode cX8_policy 17 = .ok (.iload_n 3, 1) := by decide +kernel
theorem dX8_policy_18 : decode cX8_policy 18 = .ok (.invokevirtual 140, 3) := by decide +kernel
theorem dX8_policy_21 : decode cX8_policy 21 = .ok (.ifCond .ne 5, 3) := by decide +kernel
theorem dX8_policy_24 : decode cX8_policy 24 = .ok (.iconst (-1), 1) := by decide +kernel
theorem dX8_policy_25 : decode cX8_policy 25 = .ok (.ireturn, 1) := by decide +kernel
theorem dX8_policy_26 : decode cX8_policy 26 = .ok (.aload_n 0, 1) := by decide +kernel
theorem dX8_policy_27 : decode cX8_policy 27 = .ok (.invokevirtual 151, 3) := by decide +kernel
theorem dX8_policy_30 : decode cX8_policy 30 = .ok (.ifCond .ne 6, 3) := by decide +kernel
theorem dX8_policy_33 : decode cX8_policy 33 = .ok (.bipush (-3), 2) := by decide +kernel
theorem dX8_policy_35 : decode cX8_policy 35 = .ok (.ireturn, 1) := by decide +kernel
theorem dX8_policy_36 : decode cX8_policy 36 = .ok (.aload_n 0, 1) := by decide +kernel
theorem dX8_policy_37 : decode cX8_policy 37 = .ok (.getfield 50, 3) := by decide +kernel
theorem dX8_policy_40 : decode cX8_policy 40 = .ok (.iload_n 1, 1) := by decide +kernel
theorem dX8_policy_41 : decode cX8_policy 41 = .ok (.iaload, 1) := by decide +kernel
theorem dX8_policy_42 : decode cX8_policy 42 = .ok (.aload_n 0, 1) := by decide +kernel
theorem dX8_policy_43 : decode cX8_policy 43 = .ok (.getfield 32, 3) := by decide +kernel
theorem dX8_policy_46 : decode cX8_policy 46 = .ok (.iconst 1, 1) := by decide +kernel
theorem dX8_policy_47 : decode cX8_policy 47 = .ok (.isub, 1) := by decide +kernel
theorem dX8_policy_48 : decode cX8_policy 48 = .ok (.if_icmp .ne 6, 3) := by decide +kernel
theorem dX8_policy_51 : decode cX8_policy 51 = .ok (.bipush (-4), 2) := by decide +kernel
theorem dX8_policy_53 : decode cX8_policy 53 = .ok (.ireturn, 1) := by decide +kernel
theorem dX8_policy_54 : decode cX8_policy 54 = .ok (.aload_n 0, 1) := by decide +kernel
theorem dX8_policy_55 : decode cX8_policy 55 = .ok (.iload_n 1, 1) := by decide +kernel
theorem dX8_policy_56 : decode cX8_policy 56 = .ok (.iload_n 2, 1) := by decide +kernel
theorem dX8_policy_57 : decode cX8_policy 57 = .ok (.invokevirtual 209, 3) := by decide +kernel
theorem dX8_policy_60 : decode cX8_policy 60 = .ok (.aload_n 0, 1) := by decide +kernel
theorem dX8_policy_61 : decode cX8_policy 61 = .ok (.getfield 59, 3) := by decide +kernel
theorem dX8_policy_64 : decode cX8_policy 64 = .ok (.iload_n 3, 1) := by decide +kernel
theorem dX8_policy_65 : decode cX8_policy 65 = .ok (.iaload, 1) := by decide +kernel
theorem dX8_policy_66 : decode cX8_policy 66 = .ok (.ireturn, 1) := by decide +kernel
theorem dX8_unit_0 : decode cX8_unit 0 = .ok (.iconst 1, 1) := by decide +kernel
theorem dX8_unit_1 : decode cX8_unit 1 = .ok (.istore_n 2, 1) := by decide +kernel
theorem dX8_unit_2 : decode cX8_unit 2 = .ok (.iload_n 1, 1) := by decide +kernel
theorem dX8_unit_3 : decode cX8_unit 3 = .ok (.iconst 1, 1) := by decide +kernel
theorem dX8_unit_4 : decode cX8_unit 4 = .ok (.iadd, 1) := by decide +kernel
theorem dX8_unit_5 : decode cX8_unit 5 = .ok (.istore_n 3, 1) := by decide +kernel
theorem dX8_unit_6 : decode cX8_unit 6 = .ok (.iload_n 3, 1) := by decide +kernel
theorem dX8_unit_7 : decode cX8_unit 7 = .ok (.aload_n 0, 1) := by decide +kernel
theorem dX8_unit_8 : decode cX8_unit 8 = .ok (.getfield 119, 3) := by decide +kernel
theorem dX8_unit_11 : decode cX8_unit 11 = .ok (.if_icmp .ge 20, 3) := by decide +kernel
theorem dX8_unit_14 : decode cX8_unit 14 = .ok (.iload_n 2, 1) := by decide +kernel
theorem dX8_unit_15 : decode cX8_unit 15 = .ok (.aload_n 0, 1) := by decide +kernel
theorem dX8_unit_16 : decode cX8_unit 16 = .ok (.getfield 17, 3) := by decide +kernel
theorem dX8_unit_19 : decode cX8_unit 19 = .ok (.iload_n 3, 1) := by decide +kernel
theorem dX8_unit_20 : decode cX8_unit 20 = .ok (.iaload, 1) := by decide +kernel
theorem dX8_unit_21 : decode cX8_unit 21 = .ok (.iconst 1, 1) := by decide +kernel
theorem dX8_unit_22 : decode cX8_unit 22 = .ok (.iadd, 1) := by decide +kernel
theorem dX8_unit_23 : decode cX8_unit 23 = .ok (.imul, 1) := by decide +kernel
theorem dX8_unit_24 : decode cX8_unit 24 = .ok (.istore_n 2, 1) := by decide +kernel
theorem dX8_unit_25 : decode cX8_unit 25 = .ok (.iinc 3 1, 3) := by decide +kernel
theorem dX8_unit_28 : decode cX8_unit 28 = .ok (.goto (-22), 3) := by decide +kernel
theorem dX8_unit_31 : decode cX8_unit 31 = .ok (.iload_n 2, 1) := by decide +kernel
theorem dX8_unit_32 : decode cX8_unit 32 = .ok (.ireturn, 1) := by decide +kernel
theorem dX8_water_0 : decode cX8_water 0 = .ok (.aload_n 0, 1) := by decide +kernel
theorem dX8_water_1 : decode cX8_water 1 = .ok (.iload_n 1, 1) := by decide +kernel
theorem dX8_water_2 : decode cX8_water 2 = .ok (.invokevirtual 144, 3) := by decide +kernel
theorem dX8_water_5 : decode cX8_water 5 = .ok (.ifCond .eq 19, 3) := by decide +kernel
theorem dX8_water_8 : decode cX8_water 8 = .ok (.aload_n 0, 1) := by decide +kernel
theorem dX8_water_9 : decode cX8_water 9 = .ok (.iload_n 2, 1) := by decide +kernel
theorem dX8_water_10 : decode cX8_water 10 = .ok (.invokevirtual 200, 3) := by decide +kernel
theorem dX8_water_13 : decode cX8_water 13 = .ok (.ifCond .eq 11, 3) := by decide +kernel
theorem dX8_water_16 : decode cX8_water 16 = .ok (.aload_n 0, 1) := by decide +kernel
theorem dX8_water_17 : decode cX8_water 17 = .ok (.iload_n 3, 1) := by decide +kernel
theorem dX8_water_18 : decode cX8_water 18 = .ok (.invokevirtual 140, 3) := by decide +kernel
theorem dX8_water_21 : decode cX8_water 21 = .ok (.ifCond .ne 7, 3) := by decide +kernel
theorem dX8_water_24 : decode cX8_water 24 = .ok (.ldc2_w 203, 3) := by decide +kernel
theorem dX8_water_27 : decode cX8_water 27 = .ok (.lreturn, 1) := by decide +kernel
theorem dX8_water_28 : decode cX8_water 28 = .ok (.aload_n 0, 1) := by decide +kernel
theorem dX8_water_29 : decode cX8_water 29 = .ok (.iload_n 2, 1) := by decide +kernel
theorem dX8_water_30 : decode cX8_water 30 = .ok (.invokevirtual 164, 3) := by decide +kernel
theorem dX8_water_33 : decode cX8_water 33 = .ok (.aload_n 0, 1) := by decide +kernel
theorem dX8_water_34 : decode cX8_water 34 = .ok (.getfield 56, 3) := by decide +kernel
theorem dX8_water_37 : decode cX8_water 37 = .ok (.iload_n 3, 1) := by decide +kernel
theorem dX8_water_38 : decode cX8_water 38 = .ok (.iaload, 1) := by decide +kernel
theorem dX8_water_39 : decode cX8_water 39 = .ok (.aload_n 0, 1) := by decide +kernel
theorem dX8_water_40 : decode cX8_water 40 = .ok (.getfield 17, 3) := by decide +kernel
theorem dX8_water_43 : decode cX8_water 43 = .ok (.iload_n 3, 1) := by decide +kernel
theorem dX8_water_44 : decode cX8_water 44 = .ok (.iaload, 1) := by decide +kernel
theorem dX8_water_45 : decode cX8_water 45 = .ok (.if_icmp .eq 10, 3) := by decide +kernel
theorem dX8_water_48 : decode cX8_water 48 = .ok (.aload_n 0, 1) := by decide +kernel
theorem dX8_water_49 : decode cX8_water 49 = .ok (.invokevirtual 151, 3) := by decide +kernel
theorem dX8_water_52 : decode cX8_water 52 = .ok (.ifCond .ne 7, 3) := by decide +kernel
theorem dX8_water_55 : decode cX8_water 55 = .ok (.ldc2_w 203, 3) := by decide +kernel
theorem dX8_water_58 : decode cX8_water 58 = .ok (.lreturn, 1) := by decide +kernel
theorem dX8_water_59 : decode cX8_water 59 = .ok (.aload_n 0, 1) := by decide +kernel
theorem dX8_water_60 : decode cX8_water 60 = .ok (.iload_n 1, 1) := by decide +kernel
theorem dX8_water_61 : decode cX8_water 61 = .ok (.iload_n 2, 1) := by decide +kernel
theorem dX8_water_62 : decode cX8_water 62 = .ok (.aload_n 0, 1) := by decide +kernel
theorem dX8_water_63 : decode cX8_water 63 = .ok (.iload_n 3, 1) := by decide +kernel
theorem dX8_water_64 : decode cX8_water 64 = .ok (.invokevirtual 212, 3) := by decide +kernel
theorem dX8_water_67 : decode cX8_water 67 = .ok (.iadd, 1) := by decide +kernel
theorem dX8_water_68 : decode cX8_water 68 = .ok (.invokevirtual 205, 3) := by decide +kernel
theorem dX8_water_71 : decode cX8_water 71 = .ok (.aload_n 0, 1) := by decide +kernel
theorem dX8_water_72 : decode cX8_water 72 = .ok (.iload_n 1, 1) := by decide +kernel
theorem dX8_water_73 : decode cX8_water 73 = .ok (.iload_n 2, 1) := by decide +kernel
theorem dX8_water_74 : decode cX8_water 74 = .ok (.invokevirtual 205, 3) := by decide +kernel
theorem dX8_water_77 : decode cX8_water 77 = .ok (.lsub, 1) := by decide +kernel
theorem dX8_water_78 : decode cX8_water 78 = .ok (.lreturn, 1) := by decide +kernel
theorem dX8_needs_0 : decode cX8_needs 0 = .ok (.aload_n 0, 1) := by decide +kernel
theorem dX8_needs_1 : decode cX8_needs 1 = .ok (.iload_n 1, 1) := by decide +kernel
theorem dX8_needs_2 : decode cX8_needs 2 = .ok (.invokevirtual 144, 3) := by decide +kernel
theorem dX8_needs_5 : decode cX8_needs 5 = .ok (.ifCond .ne 5, 3) := by decide +kernel
theorem dX8_needs_8 : decode cX8_needs 8 = .ok (.iconst (-1), 1) := by decide +kernel
theorem dX8_needs_9 : decode cX8_needs 9 = .ok (.ireturn, 1) := by decide +kernel
theorem dX8_needs_10 : decode cX8_needs 10 = .ok (.aload_n 0, 1) := by decide +kernel
theorem dX8_needs_11 : decode cX8_needs 11 = .ok (.invokevirtual 151, 3) := by decide +kernel
theorem dX8_needs_14 : decode cX8_needs 14 = .ok (.ifCond .ne 6, 3) := by decide +kernel
theorem dX8_needs_17 : decode cX8_needs 17 = .ok (.bipush (-3), 2) := by decide +kernel
theorem dX8_needs_19 : decode cX8_needs 19 = .ok (.ireturn, 1) := by decide +kernel
theorem dX8_needs_20 : decode cX8_needs 20 = .ok (.aload_n 0, 1) := by decide +kernel
theorem dX8_needs_21 : decode cX8_needs 21 = .ok (.invokevirtual 194, 3) := by decide +kernel
theorem dX8_needs_24 : decode cX8_needs 24 = .ok (.iconst 0, 1) := by decide +kernel
theorem dX8_needs_25 : decode cX8_needs 25 = .ok (.istore 4, 2) := by decide +kernel
theorem dX8_needs_27 : decode cX8_needs 27 = .ok (.iload 4, 2) := by decide +kernel
theorem dX8_needs_29 : decode cX8_needs 29 = .ok (.aload_n 0, 1) := by decide +kernel
theorem dX8_needs_30 : decode cX8_needs 30 = .ok (.invokevirtual 126, 3) := by decide +kernel
theorem dX8_needs_33 : decode cX8_needs 33 = .ok (.if_icmp .ge 23, 3) := by decide +kernel
theorem dX8_needs_36 : decode cX8_needs 36 = .ok (.aload_n 0, 1) := by decide +kernel
theorem dX8_needs_37 : decode cX8_needs 37 = .ok (.getfield 67, 3) := by decide +kernel
theorem dX8_needs_40 : decode cX8_needs 40 = .ok (.sipush 1000, 3) := by decide +kernel
theorem dX8_needs_43 : decode cX8_needs 43 = .ok (.iload_n 1, 1) := by decide +kernel
theorem dX8_needs_44 : decode cX8_needs 44 = .ok (.imul, 1) := by decide +kernel
theorem dX8_needs_45 : decode cX8_needs 45 = .ok (.iload 4, 2) := by decide +kernel
theorem dX8_needs_47 : decode cX8_needs 47 = .ok (.iadd, 1) := by decide +kernel
theorem dX8_needs_48 : decode cX8_needs 48 = .ok (.iconst 1, 1) := by decide +kernel
theorem dX8_needs_49 : decode cX8_needs 49 = .ok (.bastore, 1) := by decide +kernel
theorem dX8_needs_50 : decode cX8_needs 50 = .ok (.iinc 4 1, 3) := by decide +kernel
theorem dX8_needs_53 : decode cX8_needs 53 = .ok (.goto (-26), 3) := by decide +kernel
theorem dX8_needs_56 : decode cX8_needs 56 = .ok (.aload_n 0, 1) := by decide +kernel
theorem dX8_needs_57 : decode cX8_needs 57 = .ok (.iload_n 1, 1) := by decide +kernel
theorem dX8_needs_58 : decode cX8_needs 58 = .ok (.invokevirtual 197, 3) := by decide +kernel
theorem dX8_needs_61 : decode cX8_needs 61 = .ok (.bipush (-6), 2) := by decide +kernel
theorem dX8_needs_63 : decode cX8_needs 63 = .ok (.istore 4, 2) := by decide +kernel
theorem dX8_needs_65 : decode cX8_needs 65 = .ok (.iconst 0, 1) := by decide +kernel
theorem dX8_needs_66 : decode cX8_needs 66 = .ok (.istore 5, 2) := by decide +kernel
theorem dX8_needs_68 : decode cX8_needs 68 = .ok (.iconst 0, 1) := by decide +kernel
theorem dX8_needs_69 : decode cX8_needs 69 = .ok (.istore 6, 2) := by decide +kernel
theorem dX8_needs_71 : decode cX8_needs 71 = .ok (.iload 6, 2) := by decide +kernel
theorem dX8_needs_73 : decode cX8_needs 73 = .ok (.aload_n 0, 1) := by decide +kernel
theorem dX8_needs_74 : decode cX8_needs 74 = .ok (.invokevirtual 126, 3) := by decide +kernel
theorem dX8_needs_77 : decode cX8_needs 77 = .ok (.if_icmp .ge 92, 3) := by decide +kernel
theorem dX8_needs_80 : decode cX8_needs 80 = .ok (.aload_n 0, 1) := by decide +kernel
theorem dX8_needs_81 : decode cX8_needs 81 = .ok (.getfield 70, 3) := by decide +kernel
theorem dX8_needs_84 : decode cX8_needs 84 = .ok (.sipush 1000, 3) := by decide +kernel
theorem dX8_needs_87 : decode cX8_needs 87 = .ok (.iload_n 1, 1) := by decide +kernel
theorem dX8_needs_88 : decode cX8_needs 88 = .ok (.imul, 1) := by decide +kernel
theorem dX8_needs_89 : decode cX8_needs 89 = .ok (.iload 6, 2) := by decide +kernel
theorem dX8_needs_91 : decode cX8_needs 91 = .ok (.iadd, 1) := by decide +kernel
theorem dX8_needs_92 : decode cX8_needs 92 = .ok (.laload, 1) := by decide +kernel
theorem dX8_needs_93 : decode cX8_needs 93 = .ok (.lload_n 2, 1) := by decide +kernel
theorem dX8_needs_94 : decode cX8_needs 94 = .ok (.lcmp, 1) := by decide +kernel
theorem dX8_needs_95 : decode cX8_needs 95 = .ok (.ifCond .ge 6, 3) := by decide +kernel
theorem dX8_needs_98 : decode cX8_needs 98 = .ok (.goto 65, 3) := by decide +kernel
theorem dX8_needs_101 : decode cX8_needs 101 = .ok (.aload_n 0, 1) := by decide +kernel
theorem dX8_needs_102 : decode cX8_needs 102 = .ok (.iload 6, 2) := by decide +kernel
theorem dX8_needs_104 : decode cX8_needs 104 = .ok (.invokevirtual 164, 3) := by decide +kernel
theorem dX8_needs_107 : decode cX8_needs 107 = .ok (.iconst 0, 1) := by decide +kernel
theorem dX8_needs_108 : decode cX8_needs 108 = .ok (.istore 7, 2) := by decide +kernel
theorem dX8_needs_110 : decode cX8_needs 110 = .ok (.iconst 0, 1) := by decide +kernel
theorem dX8_needs_111 : decode cX8_needs 111 = .ok (.istore 8, 2) := by decide +kernel
theorem dX8_needs_113 : decode cX8_needs 113 = .ok (.iload 8, 2) := by decide +kernel
theorem dX8_needs_115 : decode cX8_needs 115 = .ok (.aload_n 0, 1) := by decide +kernel
theorem dX8_needs_116 : decode cX8_needs 116 = .ok (.getfield 119, 3) := by decide +kernel
theorem dX8_needs_119 : decode cX8_needs 119 = .ok (.if_icmp .ge 21, 3) := by decide +kernel
theorem dX8_needs_122 : decode cX8_needs 122 = .ok (.iload 7, 2) := by decide +kernel
theorem dX8_needs_124 : decode cX8_needs 124 = .ok (.aload_n 0, 1) := by decide +kernel
theorem dX8_needs_125 : decode cX8_needs 125 = .ok (.getfield 56, 3) := by decide +kernel
theorem dX8_needs_128 : decode cX8_needs 128 = .ok (.iload 8, 2) := by decide +kernel
theorem dX8_needs_130 : decode cX8_needs 130 = .ok (.iaload, 1) := by decide +kernel
theorem dX8_needs_131 : decode cX8_needs 131 = .ok (.iadd, 1) := by decide +kernel
theorem dX8_needs_132 : decode cX8_needs 132 = .ok (.istore 7, 2) := by decide +kernel
theorem dX8_needs_134 : decode cX8_needs 134 = .ok (.iinc 8 1, 3) := by decide +kernel
theorem dX8_needs_137 : decode cX8_needs 137 = .ok (.goto (-24), 3) := by decide +kernel
theorem dX8_needs_140 : decode cX8_needs 140 = .ok (.iload 4, 2) := by decide +kernel
theorem dX8_needs_142 : decode cX8_needs 142 = .ok (.ifCond .lt 13, 3) := by decide +kernel
theorem dX8_needs_145 : decode cX8_needs 145 = .ok (.iload 7, 2) := by decide +kernel
theorem dX8_needs_147 : decode cX8_needs 147 = .ok (.iload 5, 2) := by decide +kernel
theorem dX8_needs_149 : decode cX8_needs 149 = .ok (.if_icmp .lt 6, 3) := by decide +kernel
theorem dX8_needs_152 : decode cX8_needs 152 = .ok (.goto 11, 3) := by decide +kernel
theorem dX8_needs_155 : decode cX8_needs 155 = .ok (.iload 6, 2) := by decide +kernel
theorem dX8_needs_157 : decode cX8_needs 157 = .ok (.istore 4, 2) := by decide +kernel
theorem dX8_needs_159 : decode cX8_needs 159 = .ok (.iload 7, 2) := by decide +kernel
theorem dX8_needs_161 : decode cX8_needs 161 = .ok (.istore 5, 2) := by decide +kernel
theorem dX8_needs_163 : decode cX8_needs 163 = .ok (.iinc 6 1, 3) := by decide +kernel
theorem dX8_needs_166 : decode cX8_needs 166 = .ok (.goto (-95), 3) := by decide +kernel
theorem dX8_needs_169 : decode cX8_needs 169 = .ok (.iload 4, 2) := by decide +kernel
theorem dX8_needs_171 : decode cX8_needs 171 = .ok (.ireturn, 1) := by decide +kernel
theorem dX8_rule_0 : decode cX8_rule 0 = .ok (.aload_n 0, 1) := by decide +kernel
theorem dX8_rule_1 : decode cX8_rule 1 = .ok (.iload_n 1, 1) := by decide +kernel
theorem dX8_rule_2 : decode cX8_rule 2 = .ok (.invokevirtual 140, 3) := by decide +kernel
theorem dX8_rule_5 : decode cX8_rule 5 = .ok (.ifCond .eq 23, 3) := by decide +kernel
theorem dX8_rule_8 : decode cX8_rule 8 = .ok (.iload_n 2, 1) := by decide +kernel
theorem dX8_rule_9 : decode cX8_rule 9 = .ok (.iconst 0, 1) := by decide +kernel
theorem dX8_rule_10 : decode cX8_rule 10 = .ok (.bipush 30, 2) := by decide +kernel
theorem dX8_rule_12 : decode cX8_rule 12 = .ok (.invokestatic 122, 3) := by decide +kernel
theorem dX8_rule_15 : decode cX8_rule 15 = .ok (.ifCond .eq 13, 3) := by decide +kernel
theorem dX8_rule_18 : decode cX8_rule 18 = .ok (.iload_n 3, 1) := by decide +kernel
theorem dX8_rule_19 : decode cX8_rule 19 = .ok (.iconst 0, 1) := by decide +kernel
theorem dX8_rule_20 : decode cX8_rule 20 = .ok (.bipush 30, 2) := by decide +kernel
theorem dX8_rule_22 : decode cX8_rule 22 = .ok (.invokestatic 122, 3) := by decide +kernel
theorem dX8_rule_25 : decode cX8_rule 25 = .ok (.ifCond .ne 5, 3) := by decide +kernel
theorem dX8_rule_28 : decode cX8_rule 28 = .ok (.iconst (-1), 1) := by decide +kernel
theorem dX8_rule_29 : decode cX8_rule 29 = .ok (.ireturn, 1) := by decide +kernel
theorem dX8_rule_30 : decode cX8_rule 30 = .ok (.aload_n 0, 1) := by decide +kernel
theorem dX8_rule_31 : decode cX8_rule 31 = .ok (.getfield 77, 3) := by decide +kernel
theorem dX8_rule_34 : decode cX8_rule 34 = .ok (.iload_n 1, 1) := by decide +kernel
theorem dX8_rule_35 : decode cX8_rule 35 = .ok (.iload_n 2, 1) := by decide +kernel
theorem dX8_rule_36 : decode cX8_rule 36 = .ok (.iastore, 1) := by decide +kernel
theorem dX8_rule_37 : decode cX8_rule 37 = .ok (.aload_n 0, 1) := by decide +kernel
theorem dX8_rule_38 : decode cX8_rule 38 = .ok (.getfield 80, 3) := by decide +kernel
theorem dX8_rule_41 : decode cX8_rule 41 = .ok (.iload_n 1, 1) := by decide +kernel
theorem dX8_rule_42 : decode cX8_rule 42 = .ok (.iload_n 3, 1) := by decide +kernel
theorem dX8_rule_43 : decode cX8_rule 43 = .ok (.iastore, 1) := by decide +kernel
theorem dX8_rule_44 : decode cX8_rule 44 = .ok (.iconst 1, 1) := by decide +kernel
theorem dX8_rule_45 : decode cX8_rule 45 = .ok (.ireturn, 1) := by decide +kernel
theorem dX8_ruledLet_0 : decode cX8_ruledLet 0 = .ok (.iconst 0, 1) := by decide +kernel
theorem dX8_ruledLet_1 : decode cX8_ruledLet 1 = .ok (.istore_n 1, 1) := by decide +kernel
theorem dX8_ruledLet_2 : decode cX8_ruledLet 2 = .ok (.iload_n 1, 1) := by decide +kernel
theorem dX8_ruledLet_3 : decode cX8_ruledLet 3 = .ok (.aload_n 0, 1) := by decide +kernel
theorem dX8_ruledLet_4 : decode cX8_ruledLet 4 = .ok (.getfield 119, 3) := by decide +kernel
theorem dX8_ruledLet_7 : decode cX8_ruledLet 7 = .ok (.if_icmp .ge 93, 3) := by decide +kernel
theorem dX8_ruledLet_10 : decode cX8_ruledLet 10 = .ok (.aload_n 0, 1) := by decide +kernel
theorem dX8_ruledLet_11 : decode cX8_ruledLet 11 = .ok (.getfield 56, 3) := by decide +kernel
theorem dX8_ruledLet_14 : decode cX8_ruledLet 14 = .ok (.iload_n 1, 1) := by decide +kernel
theorem dX8_ruledLet_15 : decode cX8_ruledLet 15 = .ok (.iaload, 1) := by decide +kernel
theorem dX8_ruledLet_16 : decode cX8_ruledLet 16 = .ok (.aload_n 0, 1) := by decide +kernel
theorem dX8_ruledLet_17 : decode cX8_ruledLet 17 = .ok (.getfield 77, 3) := by decide +kernel
theorem dX8_ruledLet_20 : decode cX8_ruledLet 20 = .ok (.iload_n 1, 1) := by decide +kernel
theorem dX8_ruledLet_21 : decode cX8_ruledLet 21 = .ok (.iaload, 1) := by decide +kernel
theorem dX8_ruledLet_22 : decode cX8_ruledLet 22 = .ok (.isub, 1) := by decide +kernel
theorem dX8_ruledLet_23 : decode cX8_ruledLet 23 = .ok (.istore_n 2, 1) := by decide +kernel
theorem dX8_ruledLet_24 : decode cX8_ruledLet 24 = .ok (.iload_n 2, 1) := by decide +kernel
theorem dX8_ruledLet_25 : decode cX8_ruledLet 25 = .ok (.ifCond .ge 7, 3) := by decide +kernel
theorem dX8_ruledLet_28 : decode cX8_ruledLet 28 = .ok (.iconst 0, 1) := by decide +kernel
theorem dX8_ruledLet_29 : decode cX8_ruledLet 29 = .ok (.goto 23, 3) := by decide +kernel
theorem dX8_ruledLet_32 : decode cX8_ruledLet 32 = .ok (.iload_n 2, 1) := by decide +kernel
theorem dX8_ruledLet_33 : decode cX8_ruledLet 33 = .ok (.aload_n 0, 1) := by decide +kernel
theorem dX8_ruledLet_34 : decode cX8_ruledLet 34 = .ok (.getfield 80, 3) := by decide +kernel
theorem dX8_ruledLet_37 : decode cX8_ruledLet 37 = .ok (.iload_n 1, 1) := by decide +kernel
theorem dX8_ruledLet_38 : decode cX8_ruledLet 38 = .ok (.iaload, 1) := by decide +kernel
theorem dX8_ruledLet_39 : decode cX8_ruledLet 39 = .ok (.if_icmp .le 12, 3) := by decide +kernel
theorem dX8_ruledLet_42 : decode cX8_ruledLet 42 = .ok (.aload_n 0, 1) := by decide +kernel
theorem dX8_ruledLet_43 : decode cX8_ruledLet 43 = .ok (.getfield 80, 3) := by decide +kernel
theorem dX8_ruledLet_46 : decode cX8_ruledLet 46 = .ok (.iload_n 1, 1) := by decide +kernel
theorem dX8_ruledLet_47 : decode cX8_ruledLet 47 = .ok (.iaload, 1) := by decide +kernel
theorem dX8_ruledLet_48 : decode cX8_ruledLet 48 = .ok (.goto 4, 3) := by decide +kernel
theorem dX8_ruledLet_51 : decode cX8_ruledLet 51 = .ok (.iload_n 2, 1) := by decide +kernel
theorem dX8_ruledLet_52 : decode cX8_ruledLet 52 = .ok (.istore_n 2, 1) := by decide +kernel
theorem dX8_ruledLet_53 : decode cX8_ruledLet 53 = .ok (.aload_n 0, 1) := by decide +kernel
theorem dX8_ruledLet_54 : decode cX8_ruledLet 54 = .ok (.getfield 59, 3) := by decide +kernel
theorem dX8_ruledLet_57 : decode cX8_ruledLet 57 = .ok (.iload_n 1, 1) := by decide +kernel
theorem dX8_ruledLet_58 : decode cX8_ruledLet 58 = .ok (.iload_n 2, 1) := by decide +kernel
theorem dX8_ruledLet_59 : decode cX8_ruledLet 59 = .ok (.aload_n 0, 1) := by decide +kernel
theorem dX8_ruledLet_60 : decode cX8_ruledLet 60 = .ok (.iload_n 1, 1) := by decide +kernel
theorem dX8_ruledLet_61 : decode cX8_ruledLet 61 = .ok (.invokevirtual 155, 3) := by decide +kernel
theorem dX8_ruledLet_64 : decode cX8_ruledLet 64 = .ok (.if_icmp .ge 11, 3) := by decide +kernel
theorem dX8_ruledLet_67 : decode cX8_ruledLet 67 = .ok (.aload_n 0, 1) := by decide +kernel
theorem dX8_ruledLet_68 : decode cX8_ruledLet 68 = .ok (.iload_n 1, 1) := by decide +kernel
theorem dX8_ruledLet_69 : decode cX8_ruledLet 69 = .ok (.invokevirtual 155, 3) := by decide +kernel
theorem dX8_ruledLet_72 : decode cX8_ruledLet 72 = .ok (.goto 21, 3) := by decide +kernel
theorem dX8_ruledLet_75 : decode cX8_ruledLet 75 = .ok (.iload_n 2, 1) := by decide +kernel
theorem dX8_ruledLet_76 : decode cX8_ruledLet 76 = .ok (.aload_n 0, 1) := by decide +kernel
theorem dX8_ruledLet_77 : decode cX8_ruledLet 77 = .ok (.iload_n 1, 1) := by decide +kernel
theorem dX8_ruledLet_78 : decode cX8_ruledLet 78 = .ok (.invokevirtual 161, 3) := by decide +kernel
theorem dX8_ruledLet_81 : decode cX8_ruledLet 81 = .ok (.if_icmp .le 11, 3) := by decide +kernel
theorem dX8_ruledLet_84 : decode cX8_ruledLet 84 = .ok (.aload_n 0, 1) := by decide +kernel
theorem dX8_ruledLet_85 : decode cX8_ruledLet 85 = .ok (.iload_n 1, 1) := by decide +kernel
theorem dX8_ruledLet_86 : decode cX8_ruledLet 86 = .ok (.invokevirtual 161, 3) := by decide +kernel
theorem dX8_ruledLet_89 : decode cX8_ruledLet 89 = .ok (.goto 4, 3) := by decide +kernel
theorem dX8_ruledLet_92 : decode cX8_ruledLet 92 = .ok (.iload_n 2, 1) := by decide +kernel
theorem dX8_ruledLet_93 : decode cX8_ruledLet 93 = .ok (.iastore, 1) := by decide +kernel
theorem dX8_ruledLet_94 : decode cX8_ruledLet 94 = .ok (.iinc 1 1, 3) := by decide +kernel
theorem dX8_ruledLet_97 : decode cX8_ruledLet 97 = .ok (.goto (-95), 3) := by decide +kernel
theorem dX8_ruledLet_100 : decode cX8_ruledLet 100 = .ok (.return_, 1) := by decide +kernel
theorem dX8_walk_0 : decode cX8_walk 0 = .ok (.iconst 0, 1) := by decide +kernel
theorem dX8_walk_1 : decode cX8_walk 1 = .ok (.istore_n 3, 1) := by decide +kernel
theorem dX8_walk_2 : decode cX8_walk 2 = .ok (.iload_n 3, 1) := by decide +kernel
theorem dX8_walk_3 : decode cX8_walk 3 = .ok (.aload_n 0, 1) := by decide +kernel
theorem dX8_walk_4 : decode cX8_walk 4 = .ok (.getfield 41, 3) := by decide +kernel
theorem dX8_walk_7 : decode cX8_walk 7 = .ok (.if_icmp .ge 225, 3) := by decide +kernel
theorem dX8_walk_10 : decode cX8_walk 10 = .ok (.aload_n 0, 1) := by decide +kernel
theorem dX8_walk_11 : decode cX8_walk 11 = .ok (.getfield 83, 3) := by decide +kernel
theorem dX8_walk_14 : decode cX8_walk 14 = .ok (.iload_n 3, 1) := by decide +kernel
theorem dX8_walk_15 : decode cX8_walk 15 = .ok (.iload_n 3, 1) := by decide +kernel
theorem dX8_walk_16 : decode cX8_walk 16 = .ok (.iload_n 1, 1) := by decide +kernel
theorem dX8_walk_17 : decode cX8_walk 17 = .ok (.if_icmp .eq 22, 3) := by decide +kernel
theorem dX8_walk_20 : decode cX8_walk 20 = .ok (.iload_n 3, 1) := by decide +kernel
theorem dX8_walk_21 : decode cX8_walk 21 = .ok (.iload_n 1, 1) := by decide +kernel
theorem dX8_walk_22 : decode cX8_walk 22 = .ok (.if_icmp .le 21, 3) := by decide +kernel
theorem dX8_walk_25 : decode cX8_walk 25 = .ok (.aload_n 0, 1) := by decide +kernel
theorem dX8_walk_26 : decode cX8_walk 26 = .ok (.getfield 83, 3) := by decide +kernel
theorem dX8_walk_29 : decode cX8_walk 29 = .ok (.aload_n 0, 1) := by decide +kernel
theorem dX8_walk_30 : decode cX8_walk 30 = .ok (.getfield 44, 3) := by decide +kernel
theorem dX8_walk_33 : decode cX8_walk 33 = .ok (.iload_n 3, 1) := by decide +kernel
theorem dX8_walk_34 : decode cX8_walk 34 = .ok (.iaload, 1) := by decide +kernel
theorem dX8_walk_35 : decode cX8_walk 35 = .ok (.baload, 1) := by decide +kernel
theorem dX8_walk_36 : decode cX8_walk 36 = .ok (.ifCond .eq 7, 3) := by decide +kernel
theorem dX8_walk_39 : decode cX8_walk 39 = .ok (.iconst 1, 1) := by decide +kernel
theorem dX8_walk_40 : decode cX8_walk 40 = .ok (.goto 4, 3) := by decide +kernel
theorem dX8_walk_43 : decode cX8_walk 43 = .ok (.iconst 0, 1) := by decide +kernel
theorem dX8_walk_44 : decode cX8_walk 44 = .ok (.bastore, 1) := by decide +kernel
theorem dX8_walk_45 : decode cX8_walk 45 = .ok (.aload_n 0, 1) := by decide +kernel
theorem dX8_walk_46 : decode cX8_walk 46 = .ok (.getfield 83, 3) := by decide +kernel
theorem dX8_walk_49 : decode cX8_walk 49 = .ok (.iload_n 3, 1) := by decide +kernel
theorem dX8_walk_50 : decode cX8_walk 50 = .ok (.baload, 1) := by decide +kernel
theorem dX8_walk_51 : decode cX8_walk 51 = .ok (.ifCond .ne 6, 3) := by decide +kernel
theorem dX8_walk_54 : decode cX8_walk 54 = .ok (.goto 172, 3) := by decide +kernel
theorem dX8_walk_57 : decode cX8_walk 57 = .ok (.iload_n 3, 1) := by decide +kernel
theorem dX8_walk_58 : decode cX8_walk 58 = .ok (.iload_n 1, 1) := by decide +kernel
theorem dX8_walk_59 : decode cX8_walk 59 = .ok (.if_icmp .ne 27, 3) := by decide +kernel
theorem dX8_walk_62 : decode cX8_walk 62 = .ok (.aload_n 0, 1) := by decide +kernel
theorem dX8_walk_63 : decode cX8_walk 63 = .ok (.getfield 86, 3) := by decide +kernel
theorem dX8_walk_66 : decode cX8_walk 66 = .ok (.iload_n 3, 1) := by decide +kernel
theorem dX8_walk_67 : decode cX8_walk 67 = .ok (.iload_n 2, 1) := by decide +kernel
theorem dX8_walk_68 : decode cX8_walk 68 = .ok (.iastore, 1) := by decide +kernel
theorem dX8_walk_69 : decode cX8_walk 69 = .ok (.aload_n 0, 1) := by decide +kernel
theorem dX8_walk_70 : decode cX8_walk 70 = .ok (.getfield 89, 3) := by decide +kernel
theorem dX8_walk_73 : decode cX8_walk 73 = .ok (.iload_n 3, 1) := by decide +kernel
theorem dX8_walk_74 : decode cX8_walk 74 = .ok (.iconst 0, 1) := by decide +kernel
theorem dX8_walk_75 : decode cX8_walk 75 = .ok (.iastore, 1) := by decide +kernel
theorem dX8_walk_76 : decode cX8_walk 76 = .ok (.aload_n 0, 1) := by decide +kernel
theorem dX8_walk_77 : decode cX8_walk 77 = .ok (.getfield 92, 3) := by decide +kernel
theorem dX8_walk_80 : decode cX8_walk 80 = .ok (.iload_n 3, 1) := by decide +kernel
theorem dX8_walk_81 : decode cX8_walk 81 = .ok (.iconst 0, 1) := by decide +kernel
theorem dX8_walk_82 : decode cX8_walk 82 = .ok (.bastore, 1) := by decide +kernel
theorem dX8_walk_83 : decode cX8_walk 83 = .ok (.goto 143, 3) := by decide +kernel
theorem dX8_walk_86 : decode cX8_walk 86 = .ok (.aload_n 0, 1) := by decide +kernel
theorem dX8_walk_87 : decode cX8_walk 87 = .ok (.aload_n 0, 1) := by decide +kernel
theorem dX8_walk_88 : decode cX8_walk 88 = .ok (.getfield 86, 3) := by decide +kernel
theorem dX8_walk_91 : decode cX8_walk 91 = .ok (.aload_n 0, 1) := by decide +kernel
theorem dX8_walk_92 : decode cX8_walk 92 = .ok (.getfield 44, 3) := by decide +kernel
theorem dX8_walk_95 : decode cX8_walk 95 = .ok (.iload_n 3, 1) := by decide +kernel
theorem dX8_walk_96 : decode cX8_walk 96 = .ok (.iaload, 1) := by decide +kernel
theorem dX8_walk_97 : decode cX8_walk 97 = .ok (.iaload, 1) := by decide +kernel
theorem dX8_walk_98 : decode cX8_walk 98 = .ok (.invokevirtual 164, 3) := by decide +kernel
theorem dX8_walk_101 : decode cX8_walk 101 = .ok (.aload_n 0, 1) := by decide +kernel
theorem dX8_walk_102 : decode cX8_walk 102 = .ok (.invokevirtual 215, 3) := by decide +kernel
theorem dX8_walk_105 : decode cX8_walk 105 = .ok (.aload_n 0, 1) := by decide +kernel
theorem dX8_walk_106 : decode cX8_walk 106 = .ok (.getfield 89, 3) := by decide +kernel
theorem dX8_walk_109 : decode cX8_walk 109 = .ok (.iload_n 3, 1) := by decide +kernel
theorem dX8_walk_110 : decode cX8_walk 110 = .ok (.aload_n 0, 1) := by decide +kernel
theorem dX8_walk_111 : decode cX8_walk 111 = .ok (.getfield 89, 3) := by decide +kernel
theorem dX8_walk_114 : decode cX8_walk 114 = .ok (.aload_n 0, 1) := by decide +kernel
theorem dX8_walk_115 : decode cX8_walk 115 = .ok (.getfield 44, 3) := by decide +kernel
theorem dX8_walk_118 : decode cX8_walk 118 = .ok (.iload_n 3, 1) := by decide +kernel
theorem dX8_walk_119 : decode cX8_walk 119 = .ok (.iaload, 1) := by decide +kernel
theorem dX8_walk_120 : decode cX8_walk 120 = .ok (.iaload, 1) := by decide +kernel
theorem dX8_walk_121 : decode cX8_walk 121 = .ok (.aload_n 0, 1) := by decide +kernel
theorem dX8_walk_122 : decode cX8_walk 122 = .ok (.aload_n 0, 1) := by decide +kernel
theorem dX8_walk_123 : decode cX8_walk 123 = .ok (.getfield 50, 3) := by decide +kernel
theorem dX8_walk_126 : decode cX8_walk 126 = .ok (.iload_n 3, 1) := by decide +kernel
theorem dX8_walk_127 : decode cX8_walk 127 = .ok (.iaload, 1) := by decide +kernel
theorem dX8_walk_128 : decode cX8_walk 128 = .ok (.invokevirtual 191, 3) := by decide +kernel
theorem dX8_walk_131 : decode cX8_walk 131 = .ok (.iadd, 1) := by decide +kernel
theorem dX8_walk_132 : decode cX8_walk 132 = .ok (.iastore, 1) := by decide +kernel
theorem dX8_walk_133 : decode cX8_walk 133 = .ok (.aload_n 0, 1) := by decide +kernel
theorem dX8_walk_134 : decode cX8_walk 134 = .ok (.getfield 86, 3) := by decide +kernel
theorem dX8_walk_137 : decode cX8_walk 137 = .ok (.iload_n 3, 1) := by decide +kernel
theorem dX8_walk_138 : decode cX8_walk 138 = .ok (.aload_n 0, 1) := by decide +kernel
theorem dX8_walk_139 : decode cX8_walk 139 = .ok (.iload_n 3, 1) := by decide +kernel
theorem dX8_walk_140 : decode cX8_walk 140 = .ok (.invokevirtual 178, 3) := by decide +kernel
theorem dX8_walk_143 : decode cX8_walk 143 = .ok (.iastore, 1) := by decide +kernel
theorem dX8_walk_144 : decode cX8_walk 144 = .ok (.aload_n 0, 1) := by decide +kernel
theorem dX8_walk_145 : decode cX8_walk 145 = .ok (.aload_n 0, 1) := by decide +kernel
theorem dX8_walk_146 : decode cX8_walk 146 = .ok (.getfield 86, 3) := by decide +kernel
theorem dX8_walk_149 : decode cX8_walk 149 = .ok (.iload_n 3, 1) := by decide +kernel
theorem dX8_walk_150 : decode cX8_walk 150 = .ok (.iaload, 1) := by decide +kernel
theorem dX8_walk_151 : decode cX8_walk 151 = .ok (.invokevirtual 164, 3) := by decide +kernel
theorem dX8_walk_154 : decode cX8_walk 154 = .ok (.aload_n 0, 1) := by decide +kernel
theorem dX8_walk_155 : decode cX8_walk 155 = .ok (.getfield 92, 3) := by decide +kernel
theorem dX8_walk_158 : decode cX8_walk 158 = .ok (.iload_n 3, 1) := by decide +kernel
theorem dX8_walk_159 : decode cX8_walk 159 = .ok (.aload_n 0, 1) := by decide +kernel
theorem dX8_walk_160 : decode cX8_walk 160 = .ok (.getfield 92, 3) := by decide +kernel
theorem dX8_walk_163 : decode cX8_walk 163 = .ok (.aload_n 0, 1) := by decide +kernel
theorem dX8_walk_164 : decode cX8_walk 164 = .ok (.getfield 44, 3) := by decide +kernel
theorem dX8_walk_167 : decode cX8_walk 167 = .ok (.iload_n 3, 1) := by decide +kernel
theorem dX8_walk_168 : decode cX8_walk 168 = .ok (.iaload, 1) := by decide +kernel
theorem dX8_walk_169 : decode cX8_walk 169 = .ok (.baload, 1) := by decide +kernel
theorem dX8_walk_170 : decode cX8_walk 170 = .ok (.bastore, 1) := by decide +kernel
theorem dX8_walk_171 : decode cX8_walk 171 = .ok (.iconst 0, 1) := by decide +kernel
theorem dX8_walk_172 : decode cX8_walk 172 = .ok (.istore 4, 2) := by decide +kernel
theorem dX8_walk_174 : decode cX8_walk 174 = .ok (.iload 4, 2) := by decide +kernel
theorem dX8_walk_176 : decode cX8_walk 176 = .ok (.aload_n 0, 1) := by decide +kernel
theorem dX8_walk_177 : decode cX8_walk 177 = .ok (.getfield 119, 3) := by decide +kernel
theorem dX8_walk_180 : decode cX8_walk 180 = .ok (.if_icmp .ge 46, 3) := by decide +kernel
theorem dX8_walk_183 : decode cX8_walk 183 = .ok (.aload_n 0, 1) := by decide +kernel
theorem dX8_walk_184 : decode cX8_walk 184 = .ok (.getfield 92, 3) := by decide +kernel
theorem dX8_walk_187 : decode cX8_walk 187 = .ok (.iload_n 3, 1) := by decide +kernel
theorem dX8_walk_188 : decode cX8_walk 188 = .ok (.aload_n 0, 1) := by decide +kernel
theorem dX8_walk_189 : decode cX8_walk 189 = .ok (.getfield 92, 3) := by decide +kernel
theorem dX8_walk_192 : decode cX8_walk 192 = .ok (.iload_n 3, 1) := by decide +kernel
theorem dX8_walk_193 : decode cX8_walk 193 = .ok (.baload, 1) := by decide +kernel
theorem dX8_walk_194 : decode cX8_walk 194 = .ok (.ifCond .ne 20, 3) := by decide +kernel
theorem dX8_walk_197 : decode cX8_walk 197 = .ok (.aload_n 0, 1) := by decide +kernel
theorem dX8_walk_198 : decode cX8_walk 198 = .ok (.getfield 56, 3) := by decide +kernel
theorem dX8_walk_201 : decode cX8_walk 201 = .ok (.iload 4, 2) := by decide +kernel
theorem dX8_walk_203 : decode cX8_walk 203 = .ok (.iaload, 1) := by decide +kernel
theorem dX8_walk_204 : decode cX8_walk 204 = .ok (.aload_n 0, 1) := by decide +kernel
theorem dX8_walk_205 : decode cX8_walk 205 = .ok (.getfield 13, 3) := by decide +kernel
theorem dX8_walk_208 : decode cX8_walk 208 = .ok (.iload 4, 2) := by decide +kernel
theorem dX8_walk_210 : decode cX8_walk 210 = .ok (.iaload, 1) := by decide +kernel
theorem dX8_walk_211 : decode cX8_walk 211 = .ok (.if_icmp .ge 7, 3) := by decide +kernel
theorem dX8_walk_214 : decode cX8_walk 214 = .ok (.iconst 1, 1) := by decide +kernel
theorem dX8_walk_215 : decode cX8_walk 215 = .ok (.goto 4, 3) := by decide +kernel
theorem dX8_walk_218 : decode cX8_walk 218 = .ok (.iconst 0, 1) := by decide +kernel
theorem dX8_walk_219 : decode cX8_walk 219 = .ok (.bastore, 1) := by decide +kernel
theorem dX8_walk_220 : decode cX8_walk 220 = .ok (.iinc 4 1, 3) := by decide +kernel
theorem dX8_walk_223 : decode cX8_walk 223 = .ok (.goto (-49), 3) := by decide +kernel
theorem dX8_walk_226 : decode cX8_walk 226 = .ok (.iinc 3 1, 3) := by decide +kernel
theorem dX8_walk_229 : decode cX8_walk 229 = .ok (.goto (-227), 3) := by decide +kernel
theorem dX8_walk_232 : decode cX8_walk 232 = .ok (.aload_n 0, 1) := by decide +kernel
theorem dX8_walk_233 : decode cX8_walk 233 = .ok (.getfield 41, 3) := by decide +kernel
theorem dX8_walk_236 : decode cX8_walk 236 = .ok (.iconst 1, 1) := by decide +kernel
theorem dX8_walk_237 : decode cX8_walk 237 = .ok (.isub, 1) := by decide +kernel
theorem dX8_walk_238 : decode cX8_walk 238 = .ok (.istore_n 3, 1) := by decide +kernel
theorem dX8_walk_239 : decode cX8_walk 239 = .ok (.iload_n 3, 1) := by decide +kernel
theorem dX8_walk_240 : decode cX8_walk 240 = .ok (.iload_n 1, 1) := by decide +kernel
theorem dX8_walk_241 : decode cX8_walk 241 = .ok (.if_icmp .lt 35, 3) := by decide +kernel
theorem dX8_walk_244 : decode cX8_walk 244 = .ok (.aload_n 0, 1) := by decide +kernel
theorem dX8_walk_245 : decode cX8_walk 245 = .ok (.getfield 98, 3) := by decide +kernel
theorem dX8_walk_248 : decode cX8_walk 248 = .ok (.iload_n 3, 1) := by decide +kernel
theorem dX8_walk_249 : decode cX8_walk 249 = .ok (.aload_n 0, 1) := by decide +kernel
theorem dX8_walk_250 : decode cX8_walk 250 = .ok (.getfield 50, 3) := by decide +kernel
theorem dX8_walk_253 : decode cX8_walk 253 = .ok (.iload_n 3, 1) := by decide +kernel
theorem dX8_walk_254 : decode cX8_walk 254 = .ok (.iaload, 1) := by decide +kernel
theorem dX8_walk_255 : decode cX8_walk 255 = .ok (.aload_n 0, 1) := by decide +kernel
theorem dX8_walk_256 : decode cX8_walk 256 = .ok (.getfield 32, 3) := by decide +kernel
theorem dX8_walk_259 : decode cX8_walk 259 = .ok (.iconst 1, 1) := by decide +kernel
theorem dX8_walk_260 : decode cX8_walk 260 = .ok (.isub, 1) := by decide +kernel
theorem dX8_walk_261 : decode cX8_walk 261 = .ok (.if_icmp .ne 7, 3) := by decide +kernel
theorem dX8_walk_264 : decode cX8_walk 264 = .ok (.iconst 1, 1) := by decide +kernel
theorem dX8_walk_265 : decode cX8_walk 265 = .ok (.goto 4, 3) := by decide +kernel
theorem dX8_walk_268 : decode cX8_walk 268 = .ok (.iconst 0, 1) := by decide +kernel
theorem dX8_walk_269 : decode cX8_walk 269 = .ok (.iastore, 1) := by decide +kernel
theorem dX8_walk_270 : decode cX8_walk 270 = .ok (.iinc 3 (-1), 3) := by decide +kernel
theorem dX8_walk_273 : decode cX8_walk 273 = .ok (.goto (-34), 3) := by decide +kernel
theorem dX8_walk_276 : decode cX8_walk 276 = .ok (.aload_n 0, 1) := by decide +kernel
theorem dX8_walk_277 : decode cX8_walk 277 = .ok (.getfield 41, 3) := by decide +kernel
theorem dX8_walk_280 : decode cX8_walk 280 = .ok (.iconst 1, 1) := by decide +kernel
theorem dX8_walk_281 : decode cX8_walk 281 = .ok (.isub, 1) := by decide +kernel
theorem dX8_walk_282 : decode cX8_walk 282 = .ok (.istore_n 3, 1) := by decide +kernel
theorem dX8_walk_283 : decode cX8_walk 283 = .ok (.iload_n 3, 1) := by decide +kernel
theorem dX8_walk_284 : decode cX8_walk 284 = .ok (.iload_n 1, 1) := by decide +kernel
theorem dX8_walk_285 : decode cX8_walk 285 = .ok (.if_icmp .le 29, 3) := by decide +kernel
theorem dX8_walk_288 : decode cX8_walk 288 = .ok (.aload_n 0, 1) := by decide +kernel
theorem dX8_walk_289 : decode cX8_walk 289 = .ok (.getfield 98, 3) := by decide +kernel
theorem dX8_walk_292 : decode cX8_walk 292 = .ok (.aload_n 0, 1) := by decide +kernel
theorem dX8_walk_293 : decode cX8_walk 293 = .ok (.getfield 44, 3) := by decide +kernel
theorem dX8_walk_296 : decode cX8_walk 296 = .ok (.iload_n 3, 1) := by decide +kernel
theorem dX8_walk_297 : decode cX8_walk 297 = .ok (.iaload, 1) := by decide +kernel
theorem dX8_walk_298 : decode cX8_walk 298 = .ok (.dup2, 1) := by decide +kernel
theorem dX8_walk_299 : decode cX8_walk 299 = .ok (.iaload, 1) := by decide +kernel
theorem dX8_walk_300 : decode cX8_walk 300 = .ok (.aload_n 0, 1) := by decide +kernel
theorem dX8_walk_301 : decode cX8_walk 301 = .ok (.getfield 98, 3) := by decide +kernel
theorem dX8_walk_304 : decode cX8_walk 304 = .ok (.iload_n 3, 1) := by decide +kernel
theorem dX8_walk_305 : decode cX8_walk 305 = .ok (.iaload, 1) := by decide +kernel
theorem dX8_walk_306 : decode cX8_walk 306 = .ok (.iadd, 1) := by decide +kernel
theorem dX8_walk_307 : decode cX8_walk 307 = .ok (.iastore, 1) := by decide +kernel
theorem dX8_walk_308 : decode cX8_walk 308 = .ok (.iinc 3 (-1), 3) := by decide +kernel
theorem dX8_walk_311 : decode cX8_walk 311 = .ok (.goto (-28), 3) := by decide +kernel
theorem dX8_walk_314 : decode cX8_walk 314 = .ok (.return_, 1) := by decide +kernel
theorem dX8_mean_0 : decode cX8_mean 0 = .ok (.aload_n 0, 1) := by decide +kernel
theorem dX8_mean_1 : decode cX8_mean 1 = .ok (.iload_n 1, 1) := by decide +kernel
theorem dX8_mean_2 : decode cX8_mean 2 = .ok (.invokevirtual 144, 3) := by decide +kernel
theorem dX8_mean_5 : decode cX8_mean 5 = .ok (.ifCond .eq 18, 3) := by decide +kernel
theorem dX8_mean_8 : decode cX8_mean 8 = .ok (.aload_n 0, 1) := by decide +kernel
theorem dX8_mean_9 : decode cX8_mean 9 = .ok (.iload_n 2, 1) := by decide +kernel
theorem dX8_mean_10 : decode cX8_mean 10 = .ok (.invokevirtual 200, 3) := by decide +kernel
theorem dX8_mean_13 : decode cX8_mean 13 = .ok (.ifCond .eq 10, 3) := by decide +kernel
theorem dX8_mean_16 : decode cX8_mean 16 = .ok (.aload_n 0, 1) := by decide +kernel
theorem dX8_mean_17 : decode cX8_mean 17 = .ok (.invokevirtual 151, 3) := by decide +kernel
theorem dX8_mean_20 : decode cX8_mean 20 = .ok (.ifCond .ne 7, 3) := by decide +kernel
theorem dX8_mean_23 : decode cX8_mean 23 = .ok (.ldc2_w 203, 3) := by decide +kernel
theorem dX8_mean_26 : decode cX8_mean 26 = .ok (.lreturn, 1) := by decide +kernel
theorem dX8_mean_27 : decode cX8_mean 27 = .ok (.aload_n 0, 1) := by decide +kernel
theorem dX8_mean_28 : decode cX8_mean 28 = .ok (.iload_n 1, 1) := by decide +kernel
theorem dX8_mean_29 : decode cX8_mean 29 = .ok (.iload_n 2, 1) := by decide +kernel
theorem dX8_mean_30 : decode cX8_mean 30 = .ok (.invokevirtual 218, 3) := by decide +kernel
theorem dX8_mean_33 : decode cX8_mean 33 = .ok (.aload_n 0, 1) := by decide +kernel
theorem dX8_mean_34 : decode cX8_mean 34 = .ok (.getfield 41, 3) := by decide +kernel
theorem dX8_mean_37 : decode cX8_mean 37 = .ok (.iconst 1, 1) := by decide +kernel
theorem dX8_mean_38 : decode cX8_mean 38 = .ok (.isub, 1) := by decide +kernel
theorem dX8_mean_39 : decode cX8_mean 39 = .ok (.istore_n 3, 1) := by decide +kernel
theorem dX8_mean_40 : decode cX8_mean 40 = .ok (.iload_n 3, 1) := by decide +kernel
theorem dX8_mean_41 : decode cX8_mean 41 = .ok (.iload_n 1, 1) := by decide +kernel
theorem dX8_mean_42 : decode cX8_mean 42 = .ok (.if_icmp .lt 174, 3) := by decide +kernel
theorem dX8_mean_45 : decode cX8_mean 45 = .ok (.aload_n 0, 1) := by decide +kernel
theorem dX8_mean_46 : decode cX8_mean 46 = .ok (.getfield 83, 3) := by decide +kernel
theorem dX8_mean_49 : decode cX8_mean 49 = .ok (.iload_n 3, 1) := by decide +kernel
theorem dX8_mean_50 : decode cX8_mean 50 = .ok (.baload, 1) := by decide +kernel
theorem dX8_mean_51 : decode cX8_mean 51 = .ok (.ifCond .ne 6, 3) := by decide +kernel
theorem dX8_mean_54 : decode cX8_mean 54 = .ok (.goto 156, 3) := by decide +kernel
theorem dX8_mean_57 : decode cX8_mean 57 = .ok (.aload_n 0, 1) := by decide +kernel
theorem dX8_mean_58 : decode cX8_mean 58 = .ok (.getfield 95, 3) := by decide +kernel
theorem dX8_mean_61 : decode cX8_mean 61 = .ok (.iload_n 3, 1) := by decide +kernel
theorem dX8_mean_62 : decode cX8_mean 62 = .ok (.aload_n 0, 1) := by decide +kernel
theorem dX8_mean_63 : decode cX8_mean 63 = .ok (.getfield 50, 3) := by decide +kernel
theorem dX8_mean_66 : decode cX8_mean 66 = .ok (.iload_n 3, 1) := by decide +kernel
theorem dX8_mean_67 : decode cX8_mean 67 = .ok (.iaload, 1) := by decide +kernel
theorem dX8_mean_68 : decode cX8_mean 68 = .ok (.aload_n 0, 1) := by decide +kernel
theorem dX8_mean_69 : decode cX8_mean 69 = .ok (.getfield 32, 3) := by decide +kernel
theorem dX8_mean_72 : decode cX8_mean 72 = .ok (.iconst 1, 1) := by decide +kernel
theorem dX8_mean_73 : decode cX8_mean 73 = .ok (.isub, 1) := by decide +kernel
theorem dX8_mean_74 : decode cX8_mean 74 = .ok (.if_icmp .ne 17, 3) := by decide +kernel
theorem dX8_mean_77 : decode cX8_mean 77 = .ok (.aload_n 0, 1) := by decide +kernel
theorem dX8_mean_78 : decode cX8_mean 78 = .ok (.aload_n 0, 1) := by decide +kernel
theorem dX8_mean_79 : decode cX8_mean 79 = .ok (.getfield 86, 3) := by decide +kernel
theorem dX8_mean_82 : decode cX8_mean 82 = .ok (.iload_n 3, 1) := by decide +kernel
theorem dX8_mean_83 : decode cX8_mean 83 = .ok (.iaload, 1) := by decide +kernel
theorem dX8_mean_84 : decode cX8_mean 84 = .ok (.invokevirtual 184, 3) := by decide +kernel
theorem dX8_mean_87 : decode cX8_mean 87 = .ok (.i2l, 1) := by decide +kernel
theorem dX8_mean_88 : decode cX8_mean 88 = .ok (.goto 4, 3) := by decide +kernel
theorem dX8_mean_91 : decode cX8_mean 91 = .ok (.lconst 0, 1) := by decide +kernel
theorem dX8_mean_92 : decode cX8_mean 92 = .ok (.lastore, 1) := by decide +kernel
theorem dX8_mean_93 : decode cX8_mean 93 = .ok (.aload_n 0, 1) := by decide +kernel
theorem dX8_mean_94 : decode cX8_mean 94 = .ok (.getfield 50, 3) := by decide +kernel
theorem dX8_mean_97 : decode cX8_mean 97 = .ok (.iload_n 3, 1) := by decide +kernel
theorem dX8_mean_98 : decode cX8_mean 98 = .ok (.iaload, 1) := by decide +kernel
theorem dX8_mean_99 : decode cX8_mean 99 = .ok (.aload_n 0, 1) := by decide +kernel
theorem dX8_mean_100 : decode cX8_mean 100 = .ok (.getfield 32, 3) := by decide +kernel
theorem dX8_mean_103 : decode cX8_mean 103 = .ok (.iconst 1, 1) := by decide +kernel
theorem dX8_mean_104 : decode cX8_mean 104 = .ok (.isub, 1) := by decide +kernel
theorem dX8_mean_105 : decode cX8_mean 105 = .ok (.if_icmp .ne 6, 3) := by decide +kernel
theorem dX8_mean_108 : decode cX8_mean 108 = .ok (.goto 102, 3) := by decide +kernel
theorem dX8_mean_111 : decode cX8_mean 111 = .ok (.aload_n 0, 1) := by decide +kernel
theorem dX8_mean_112 : decode cX8_mean 112 = .ok (.aload_n 0, 1) := by decide +kernel
theorem dX8_mean_113 : decode cX8_mean 113 = .ok (.getfield 86, 3) := by decide +kernel
theorem dX8_mean_116 : decode cX8_mean 116 = .ok (.iload_n 3, 1) := by decide +kernel
theorem dX8_mean_117 : decode cX8_mean 117 = .ok (.iaload, 1) := by decide +kernel
theorem dX8_mean_118 : decode cX8_mean 118 = .ok (.invokevirtual 164, 3) := by decide +kernel
theorem dX8_mean_121 : decode cX8_mean 121 = .ok (.aload_n 0, 1) := by decide +kernel
theorem dX8_mean_122 : decode cX8_mean 122 = .ok (.invokevirtual 215, 3) := by decide +kernel
theorem dX8_mean_125 : decode cX8_mean 125 = .ok (.aload_n 0, 1) := by decide +kernel
theorem dX8_mean_126 : decode cX8_mean 126 = .ok (.getfield 95, 3) := by decide +kernel
theorem dX8_mean_129 : decode cX8_mean 129 = .ok (.iload_n 3, 1) := by decide +kernel
theorem dX8_mean_130 : decode cX8_mean 130 = .ok (.aload_n 0, 1) := by decide +kernel
theorem dX8_mean_131 : decode cX8_mean 131 = .ok (.iload_n 3, 1) := by decide +kernel
theorem dX8_mean_132 : decode cX8_mean 132 = .ok (.invokevirtual 187, 3) := by decide +kernel
theorem dX8_mean_135 : decode cX8_mean 135 = .ok (.aload_n 0, 1) := by decide +kernel
theorem dX8_mean_136 : decode cX8_mean 136 = .ok (.aload_n 0, 1) := by decide +kernel
theorem dX8_mean_137 : decode cX8_mean 137 = .ok (.getfield 50, 3) := by decide +kernel
theorem dX8_mean_140 : decode cX8_mean 140 = .ok (.iload_n 3, 1) := by decide +kernel
theorem dX8_mean_141 : decode cX8_mean 141 = .ok (.iaload, 1) := by decide +kernel
theorem dX8_mean_142 : decode cX8_mean 142 = .ok (.iconst 1, 1) := by decide +kernel
theorem dX8_mean_143 : decode cX8_mean 143 = .ok (.iadd, 1) := by decide +kernel
theorem dX8_mean_144 : decode cX8_mean 144 = .ok (.invokevirtual 191, 3) := by decide +kernel
theorem dX8_mean_147 : decode cX8_mean 147 = .ok (.i2l, 1) := by decide +kernel
theorem dX8_mean_148 : decode cX8_mean 148 = .ok (.lmul, 1) := by decide +kernel
theorem dX8_mean_149 : decode cX8_mean 149 = .ok (.lastore, 1) := by decide +kernel
theorem dX8_mean_150 : decode cX8_mean 150 = .ok (.iload_n 3, 1) := by decide +kernel
theorem dX8_mean_151 : decode cX8_mean 151 = .ok (.iconst 1, 1) := by decide +kernel
theorem dX8_mean_152 : decode cX8_mean 152 = .ok (.iadd, 1) := by decide +kernel
theorem dX8_mean_153 : decode cX8_mean 153 = .ok (.istore 4, 2) := by decide +kernel
theorem dX8_mean_155 : decode cX8_mean 155 = .ok (.iload 4, 2) := by decide +kernel
theorem dX8_mean_157 : decode cX8_mean 157 = .ok (.aload_n 0, 1) := by decide +kernel
theorem dX8_mean_158 : decode cX8_mean 158 = .ok (.getfield 41, 3) := by decide +kernel
theorem dX8_mean_161 : decode cX8_mean 161 = .ok (.if_icmp .ge 49, 3) := by decide +kernel
theorem dX8_mean_164 : decode cX8_mean 164 = .ok (.aload_n 0, 1) := by decide +kernel
theorem dX8_mean_165 : decode cX8_mean 165 = .ok (.getfield 95, 3) := by decide +kernel
theorem dX8_mean_168 : decode cX8_mean 168 = .ok (.iload_n 3, 1) := by decide +kernel
theorem dX8_mean_169 : decode cX8_mean 169 = .ok (.dup2, 1) := by decide +kernel
theorem dX8_mean_170 : decode cX8_mean 170 = .ok (.laload, 1) := by decide +kernel
theorem dX8_mean_171 : decode cX8_mean 171 = .ok (.aload_n 0, 1) := by decide +kernel
theorem dX8_mean_172 : decode cX8_mean 172 = .ok (.getfield 44, 3) := by decide +kernel
theorem dX8_mean_175 : decode cX8_mean 175 = .ok (.iload 4, 2) := by decide +kernel
theorem dX8_mean_177 : decode cX8_mean 177 = .ok (.iaload, 1) := by decide +kernel
theorem dX8_mean_178 : decode cX8_mean 178 = .ok (.iload_n 3, 1) := by decide +kernel
theorem dX8_mean_179 : decode cX8_mean 179 = .ok (.if_icmp .ne 22, 3) := by decide +kernel
theorem dX8_mean_182 : decode cX8_mean 182 = .ok (.aload_n 0, 1) := by decide +kernel
theorem dX8_mean_183 : decode cX8_mean 183 = .ok (.getfield 47, 3) := by decide +kernel
theorem dX8_mean_186 : decode cX8_mean 186 = .ok (.iload 4, 2) := by decide +kernel
theorem dX8_mean_188 : decode cX8_mean 188 = .ok (.iaload, 1) := by decide +kernel
theorem dX8_mean_189 : decode cX8_mean 189 = .ok (.i2l, 1) := by decide +kernel
theorem dX8_mean_190 : decode cX8_mean 190 = .ok (.aload_n 0, 1) := by decide +kernel
theorem dX8_mean_191 : decode cX8_mean 191 = .ok (.getfield 95, 3) := by decide +kernel
theorem dX8_mean_194 : decode cX8_mean 194 = .ok (.iload 4, 2) := by decide +kernel
theorem dX8_mean_196 : decode cX8_mean 196 = .ok (.laload, 1) := by decide +kernel
theorem dX8_mean_197 : decode cX8_mean 197 = .ok (.lmul, 1) := by decide +kernel
theorem dX8_mean_198 : decode cX8_mean 198 = .ok (.goto 4, 3) := by decide +kernel
theorem dX8_mean_201 : decode cX8_mean 201 = .ok (.lconst 0, 1) := by decide +kernel
theorem dX8_mean_202 : decode cX8_mean 202 = .ok (.ladd, 1) := by decide +kernel
theorem dX8_mean_203 : decode cX8_mean 203 = .ok (.lastore, 1) := by decide +kernel
theorem dX8_mean_204 : decode cX8_mean 204 = .ok (.iinc 4 1, 3) := by decide +kernel
theorem dX8_mean_207 : decode cX8_mean 207 = .ok (.goto (-52), 3) := by decide +kernel
theorem dX8_mean_210 : decode cX8_mean 210 = .ok (.iinc 3 (-1), 3) := by decide +kernel
theorem dX8_mean_213 : decode cX8_mean 213 = .ok (.goto (-173), 3) := by decide +kernel
theorem dX8_mean_216 : decode cX8_mean 216 = .ok (.aload_n 0, 1) := by decide +kernel
theorem dX8_mean_217 : decode cX8_mean 217 = .ok (.getfield 95, 3) := by decide +kernel
theorem dX8_mean_220 : decode cX8_mean 220 = .ok (.iload_n 1, 1) := by decide +kernel
theorem dX8_mean_221 : decode cX8_mean 221 = .ok (.laload, 1) := by decide +kernel
theorem dX8_mean_222 : decode cX8_mean 222 = .ok (.lreturn, 1) := by decide +kernel
