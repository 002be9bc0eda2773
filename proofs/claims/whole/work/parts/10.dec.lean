theorem dX0_init_0 : decode cX0_init 0 = .ok (.aload_n 0, 1) := by decide +kernel
theorem dX0_init_1 : decode cX0_init 1 = .ok (.invokespecial 3, 3) := by decide +kernel
theorem dX0_init_4 : decode cX0_init 4 = .ok (.aload_n 0, 1) := by decide +kernel
theorem dX0_init_5 : decode cX0_init 5 = .ok (.bipush 31, 2) := by decide +kernel
theorem dX0_init_7 : decode cX0_init 7 = .ok (.newarray .int, 2) := by decide +kernel
theorem dX0_init_9 : decode cX0_init 9 = .ok (.putfield 9, 3) := by decide +kernel
theorem dX0_init_12 : decode cX0_init 12 = .ok (.aload_n 0, 1) := by decide +kernel
theorem dX0_init_13 : decode cX0_init 13 = .ok (.bipush 30, 2) := by decide +kernel
theorem dX0_init_15 : decode cX0_init 15 = .ok (.putfield 15, 3) := by decide +kernel
theorem dX0_init_18 : decode cX0_init 18 = .ok (.aload_n 0, 1) := by decide +kernel
theorem dX0_init_19 : decode cX0_init 19 = .ok (.iconst 1, 1) := by decide +kernel
theorem dX0_init_20 : decode cX0_init 20 = .ok (.putfield 19, 3) := by decide +kernel
theorem dX0_init_23 : decode cX0_init 23 = .ok (.aload_n 0, 1) := by decide +kernel
theorem dX0_init_24 : decode cX0_init 24 = .ok (.getfield 9, 3) := by decide +kernel
theorem dX0_init_27 : decode cX0_init 27 = .ok (.iconst 1, 1) := by decide +kernel
theorem dX0_init_28 : decode cX0_init 28 = .ok (.invokestatic 22, 3) := by decide +kernel
theorem dX0_init_31 : decode cX0_init 31 = .ok (.return_, 1) := by decide +kernel
theorem dX0_headAt_0 : decode cX0_headAt 0 = .ok (.iload_n 1, 1) := by decide +kernel
theorem dX0_headAt_1 : decode cX0_headAt 1 = .ok (.ifCond .lt 21, 3) := by decide +kernel
theorem dX0_headAt_4 : decode cX0_headAt 4 = .ok (.iload_n 1, 1) := by decide +kernel
theorem dX0_headAt_5 : decode cX0_headAt 5 = .ok (.aload_n 0, 1) := by decide +kernel
theorem dX0_headAt_6 : decode cX0_headAt 6 = .ok (.getfield 9, 3) := by decide +kernel
theorem dX0_headAt_9 : decode cX0_headAt 9 = .ok (.arraylength, 1) := by decide +kernel
theorem dX0_headAt_10 : decode cX0_headAt 10 = .ok (.if_icmp .ge 12, 3) := by decide +kernel
theorem dX0_headAt_13 : decode cX0_headAt 13 = .ok (.aload_n 0, 1) := by decide +kernel
theorem dX0_headAt_14 : decode cX0_headAt 14 = .ok (.getfield 9, 3) := by decide +kernel
theorem dX0_headAt_17 : decode cX0_headAt 17 = .ok (.iload_n 1, 1) := by decide +kernel
theorem dX0_headAt_18 : decode cX0_headAt 18 = .ok (.iaload, 1) := by decide +kernel
theorem dX0_headAt_19 : decode cX0_headAt 19 = .ok (.goto 4, 3) := by decide +kernel
theorem dX0_headAt_22 : decode cX0_headAt 22 = .ok (.iconst 0, 1) := by decide +kernel
theorem dX0_headAt_23 : decode cX0_headAt 23 = .ok (.ireturn, 1) := by decide +kernel
theorem dX0_takesHead_0 : decode cX0_takesHead 0 = .ok (.iload_n 1, 1) := by decide +kernel
theorem dX0_takesHead_1 : decode cX0_takesHead 1 = .ok (.ifCond .le 16, 3) := by decide +kernel
theorem dX0_takesHead_4 : decode cX0_takesHead 4 = .ok (.aload_n 0, 1) := by decide +kernel
theorem dX0_takesHead_5 : decode cX0_takesHead 5 = .ok (.iload_n 1, 1) := by decide +kernel
theorem dX0_takesHead_6 : decode cX0_takesHead 6 = .ok (.iconst 1, 1) := by decide +kernel
theorem dX0_takesHead_7 : decode cX0_takesHead 7 = .ok (.isub, 1) := by decide +kernel
theorem dX0_takesHead_8 : decode cX0_takesHead 8 = .ok (.invokevirtual 28, 3) := by decide +kernel
theorem dX0_takesHead_11 : decode cX0_takesHead 11 = .ok (.iload_n 2, 1) := by decide +kernel
theorem dX0_takesHead_12 : decode cX0_takesHead 12 = .ok (.if_icmp .le 5, 3) := by decide +kernel
theorem dX0_takesHead_15 : decode cX0_takesHead 15 = .ok (.iconst 0, 1) := by decide +kernel
theorem dX0_takesHead_16 : decode cX0_takesHead 16 = .ok (.ireturn, 1) := by decide +kernel
theorem dX0_takesHead_17 : decode cX0_takesHead 17 = .ok (.iload_n 1, 1) := by decide +kernel
theorem dX0_takesHead_18 : decode cX0_takesHead 18 = .ok (.aload_n 0, 1) := by decide +kernel
theorem dX0_takesHead_19 : decode cX0_takesHead 19 = .ok (.getfield 32, 3) := by decide +kernel
theorem dX0_takesHead_22 : decode cX0_takesHead 22 = .ok (.if_icmp .ge 14, 3) := by decide +kernel
theorem dX0_takesHead_25 : decode cX0_takesHead 25 = .ok (.aload_n 0, 1) := by decide +kernel
theorem dX0_takesHead_26 : decode cX0_takesHead 26 = .ok (.iload_n 1, 1) := by decide +kernel
theorem dX0_takesHead_27 : decode cX0_takesHead 27 = .ok (.iconst 1, 1) := by decide +kernel
theorem dX0_takesHead_28 : decode cX0_takesHead 28 = .ok (.iadd, 1) := by decide +kernel
theorem dX0_takesHead_29 : decode cX0_takesHead 29 = .ok (.invokevirtual 28, 3) := by decide +kernel
theorem dX0_takesHead_32 : decode cX0_takesHead 32 = .ok (.iload_n 2, 1) := by decide +kernel
theorem dX0_takesHead_33 : decode cX0_takesHead 33 = .ok (.if_icmp .lt 7, 3) := by decide +kernel
theorem dX0_takesHead_36 : decode cX0_takesHead 36 = .ok (.iconst 1, 1) := by decide +kernel
theorem dX0_takesHead_37 : decode cX0_takesHead 37 = .ok (.goto 4, 3) := by decide +kernel
theorem dX0_takesHead_40 : decode cX0_takesHead 40 = .ok (.iconst 0, 1) := by decide +kernel
theorem dX0_takesHead_41 : decode cX0_takesHead 41 = .ok (.ireturn, 1) := by decide +kernel
theorem dX0_leastLet_0 : decode cX0_leastLet 0 = .ok (.aload_n 0, 1) := by decide +kernel
theorem dX0_leastLet_1 : decode cX0_leastLet 1 = .ok (.getfield 35, 3) := by decide +kernel
theorem dX0_leastLet_4 : decode cX0_leastLet 4 = .ok (.iload_n 1, 1) := by decide +kernel
theorem dX0_leastLet_5 : decode cX0_leastLet 5 = .ok (.invokestatic 38, 3) := by decide +kernel
theorem dX0_leastLet_8 : decode cX0_leastLet 8 = .ok (.ireturn, 1) := by decide +kernel
theorem dX0_mostLet_0 : decode cX0_mostLet 0 = .ok (.aload_n 0, 1) := by decide +kernel
theorem dX0_mostLet_1 : decode cX0_mostLet 1 = .ok (.iload_n 1, 1) := by decide +kernel
theorem dX0_mostLet_2 : decode cX0_mostLet 2 = .ok (.invokevirtual 44, 3) := by decide +kernel
theorem dX0_mostLet_5 : decode cX0_mostLet 5 = .ok (.aload_n 0, 1) := by decide +kernel
theorem dX0_mostLet_6 : decode cX0_mostLet 6 = .ok (.getfield 47, 3) := by decide +kernel
theorem dX0_mostLet_9 : decode cX0_mostLet 9 = .ok (.iload_n 1, 1) := by decide +kernel
theorem dX0_mostLet_10 : decode cX0_mostLet 10 = .ok (.aload_n 0, 1) := by decide +kernel
theorem dX0_mostLet_11 : decode cX0_mostLet 11 = .ok (.getfield 50, 3) := by decide +kernel
theorem dX0_mostLet_14 : decode cX0_mostLet 14 = .ok (.isub, 1) := by decide +kernel
theorem dX0_mostLet_15 : decode cX0_mostLet 15 = .ok (.invokestatic 38, 3) := by decide +kernel
theorem dX0_mostLet_18 : decode cX0_mostLet 18 = .ok (.invokestatic 53, 3) := by decide +kernel
theorem dX0_mostLet_21 : decode cX0_mostLet 21 = .ok (.ireturn, 1) := by decide +kernel
theorem dX0_ruleLet_0 : decode cX0_ruleLet 0 = .ok (.iload_n 1, 1) := by decide +kernel
theorem dX0_ruleLet_1 : decode cX0_ruleLet 1 = .ok (.aload_n 0, 1) := by decide +kernel
theorem dX0_ruleLet_2 : decode cX0_ruleLet 2 = .ok (.getfield 56, 3) := by decide +kernel
theorem dX0_ruleLet_5 : decode cX0_ruleLet 5 = .ok (.isub, 1) := by decide +kernel
theorem dX0_ruleLet_6 : decode cX0_ruleLet 6 = .ok (.iconst 0, 1) := by decide +kernel
theorem dX0_ruleLet_7 : decode cX0_ruleLet 7 = .ok (.invokestatic 53, 3) := by decide +kernel
theorem dX0_ruleLet_10 : decode cX0_ruleLet 10 = .ok (.aload_n 0, 1) := by decide +kernel
theorem dX0_ruleLet_11 : decode cX0_ruleLet 11 = .ok (.getfield 15, 3) := by decide +kernel
theorem dX0_ruleLet_14 : decode cX0_ruleLet 14 = .ok (.invokestatic 38, 3) := by decide +kernel
theorem dX0_ruleLet_17 : decode cX0_ruleLet 17 = .ok (.istore_n 2, 1) := by decide +kernel
theorem dX0_ruleLet_18 : decode cX0_ruleLet 18 = .ok (.aload_n 0, 1) := by decide +kernel
theorem dX0_ruleLet_19 : decode cX0_ruleLet 19 = .ok (.iload_n 1, 1) := by decide +kernel
theorem dX0_ruleLet_20 : decode cX0_ruleLet 20 = .ok (.invokevirtual 44, 3) := by decide +kernel
theorem dX0_ruleLet_23 : decode cX0_ruleLet 23 = .ok (.aload_n 0, 1) := by decide +kernel
theorem dX0_ruleLet_24 : decode cX0_ruleLet 24 = .ok (.iload_n 1, 1) := by decide +kernel
theorem dX0_ruleLet_25 : decode cX0_ruleLet 25 = .ok (.invokevirtual 59, 3) := by decide +kernel
theorem dX0_ruleLet_28 : decode cX0_ruleLet 28 = .ok (.iload_n 2, 1) := by decide +kernel
theorem dX0_ruleLet_29 : decode cX0_ruleLet 29 = .ok (.invokestatic 38, 3) := by decide +kernel
theorem dX0_ruleLet_32 : decode cX0_ruleLet 32 = .ok (.invokestatic 53, 3) := by decide +kernel
theorem dX0_ruleLet_35 : decode cX0_ruleLet 35 = .ok (.ireturn, 1) := by decide +kernel
theorem dX1_init_0 : decode cX1_init 0 = .ok (.aload_n 0, 1) := by decide +kernel
theorem dX1_init_1 : decode cX1_init 1 = .ok (.invokespecial 3, 3) := by decide +kernel
theorem dX1_init_4 : decode cX1_init 4 = .ok (.aload_n 0, 1) := by decide +kernel
theorem dX1_init_5 : decode cX1_init 5 = .ok (.iconst 3, 1) := by decide +kernel
theorem dX1_init_6 : decode cX1_init 6 = .ok (.newarray .int, 2) := by decide +kernel
theorem dX1_init_8 : decode cX1_init 8 = .ok (.putfield 9, 3) := by decide +kernel
theorem dX1_init_11 : decode cX1_init 11 = .ok (.aload_n 0, 1) := by decide +kernel
theorem dX1_init_12 : decode cX1_init 12 = .ok (.bipush 6, 2) := by decide +kernel
theorem dX1_init_14 : decode cX1_init 14 = .ok (.anewarray 10, 3) := by decide +kernel
theorem dX1_init_17 : decode cX1_init 17 = .ok (.putfield 15, 3) := by decide +kernel
theorem dX1_init_20 : decode cX1_init 20 = .ok (.aload_n 0, 1) := by decide +kernel
theorem dX1_init_21 : decode cX1_init 21 = .ok (.iconst (-1), 1) := by decide +kernel
theorem dX1_init_22 : decode cX1_init 22 = .ok (.putfield 19, 3) := by decide +kernel
theorem dX1_init_25 : decode cX1_init 25 = .ok (.aload_n 0, 1) := by decide +kernel
theorem dX1_init_26 : decode cX1_init 26 = .ok (.iload_n 1, 1) := by decide +kernel
theorem dX1_init_27 : decode cX1_init 27 = .ok (.putfield 23, 3) := by decide +kernel
theorem dX1_init_30 : decode cX1_init 30 = .ok (.return_, 1) := by decide +kernel
theorem dX1_childAt_0 : decode cX1_childAt 0 = .ok (.iload_n 1, 1) := by decide +kernel
theorem dX1_childAt_1 : decode cX1_childAt 1 = .ok (.ifCond .lt 29, 3) := by decide +kernel
theorem dX1_childAt_4 : decode cX1_childAt 4 = .ok (.iload_n 1, 1) := by decide +kernel
theorem dX1_childAt_5 : decode cX1_childAt 5 = .ok (.aload_n 0, 1) := by decide +kernel
theorem dX1_childAt_6 : decode cX1_childAt 6 = .ok (.getfield 26, 3) := by decide +kernel
theorem dX1_childAt_9 : decode cX1_childAt 9 = .ok (.if_icmp .ge 21, 3) := by decide +kernel
theorem dX1_childAt_12 : decode cX1_childAt 12 = .ok (.iload_n 1, 1) := by decide +kernel
theorem dX1_childAt_13 : decode cX1_childAt 13 = .ok (.aload_n 0, 1) := by decide +kernel
theorem dX1_childAt_14 : decode cX1_childAt 14 = .ok (.getfield 15, 3) := by decide +kernel
theorem dX1_childAt_17 : decode cX1_childAt 17 = .ok (.arraylength, 1) := by decide +kernel
theorem dX1_childAt_18 : decode cX1_childAt 18 = .ok (.if_icmp .ge 12, 3) := by decide +kernel
theorem dX1_childAt_21 : decode cX1_childAt 21 = .ok (.aload_n 0, 1) := by decide +kernel
theorem dX1_childAt_22 : decode cX1_childAt 22 = .ok (.getfield 15, 3) := by decide +kernel
theorem dX1_childAt_25 : decode cX1_childAt 25 = .ok (.iload_n 1, 1) := by decide +kernel
theorem dX1_childAt_26 : decode cX1_childAt 26 = .ok (.aaload, 1) := by decide +kernel
theorem dX1_childAt_27 : decode cX1_childAt 27 = .ok (.goto 4, 3) := by decide +kernel
theorem dX1_childAt_30 : decode cX1_childAt 30 = .ok (.aconst_null, 1) := by decide +kernel
theorem dX1_childAt_31 : decode cX1_childAt 31 = .ok (.areturn, 1) := by decide +kernel
theorem dX1_sumIn_0 : decode cX1_sumIn 0 = .ok (.iconst 0, 1) := by decide +kernel
theorem dX1_sumIn_1 : decode cX1_sumIn 1 = .ok (.istore_n 1, 1) := by decide +kernel
theorem dX1_sumIn_2 : decode cX1_sumIn 2 = .ok (.iconst 0, 1) := by decide +kernel
theorem dX1_sumIn_3 : decode cX1_sumIn 3 = .ok (.istore_n 2, 1) := by decide +kernel
theorem dX1_sumIn_4 : decode cX1_sumIn 4 = .ok (.iload_n 2, 1) := by decide +kernel
theorem dX1_sumIn_5 : decode cX1_sumIn 5 = .ok (.aload_n 0, 1) := by decide +kernel
theorem dX1_sumIn_6 : decode cX1_sumIn 6 = .ok (.getfield 9, 3) := by decide +kernel
theorem dX1_sumIn_9 : decode cX1_sumIn 9 = .ok (.arraylength, 1) := by decide +kernel
theorem dX1_sumIn_10 : decode cX1_sumIn 10 = .ok (.if_icmp .ge 18, 3) := by decide +kernel
theorem dX1_sumIn_13 : decode cX1_sumIn 13 = .ok (.iload_n 1, 1) := by decide +kernel
theorem dX1_sumIn_14 : decode cX1_sumIn 14 = .ok (.aload_n 0, 1) := by decide +kernel
theorem dX1_sumIn_15 : decode cX1_sumIn 15 = .ok (.getfield 9, 3) := by decide +kernel
theorem dX1_sumIn_18 : decode cX1_sumIn 18 = .ok (.iload_n 2, 1) := by decide +kernel
theorem dX1_sumIn_19 : decode cX1_sumIn 19 = .ok (.iaload, 1) := by decide +kernel
theorem dX1_sumIn_20 : decode cX1_sumIn 20 = .ok (.iadd, 1) := by decide +kernel
theorem dX1_sumIn_21 : decode cX1_sumIn 21 = .ok (.istore_n 1, 1) := by decide +kernel
theorem dX1_sumIn_22 : decode cX1_sumIn 22 = .ok (.iinc 2 1, 3) := by decide +kernel
theorem dX1_sumIn_25 : decode cX1_sumIn 25 = .ok (.goto (-21), 3) := by decide +kernel
theorem dX1_sumIn_28 : decode cX1_sumIn 28 = .ok (.iload_n 1, 1) := by decide +kernel
theorem dX1_sumIn_29 : decode cX1_sumIn 29 = .ok (.ireturn, 1) := by decide +kernel
theorem dX1_addChild_0 : decode cX1_addChild 0 = .ok (.aload_n 0, 1) := by decide +kernel
theorem dX1_addChild_1 : decode cX1_addChild 1 = .ok (.getfield 26, 3) := by decide +kernel
theorem dX1_addChild_4 : decode cX1_addChild 4 = .ok (.aload_n 0, 1) := by decide +kernel
theorem dX1_addChild_5 : decode cX1_addChild 5 = .ok (.getfield 15, 3) := by decide +kernel
theorem dX1_addChild_8 : decode cX1_addChild 8 = .ok (.arraylength, 1) := by decide +kernel
theorem dX1_addChild_9 : decode cX1_addChild 9 = .ok (.if_icmp .lt 4, 3) := by decide +kernel
theorem dX1_addChild_12 : decode cX1_addChild 12 = .ok (.return_, 1) := by decide +kernel
theorem dX1_addChild_13 : decode cX1_addChild 13 = .ok (.aload_n 0, 1) := by decide +kernel
theorem dX1_addChild_14 : decode cX1_addChild 14 = .ok (.getfield 15, 3) := by decide +kernel
theorem dX1_addChild_17 : decode cX1_addChild 17 = .ok (.aload_n 0, 1) := by decide +kernel
theorem dX1_addChild_18 : decode cX1_addChild 18 = .ok (.getfield 26, 3) := by decide +kernel
theorem dX1_addChild_21 : decode cX1_addChild 21 = .ok (.aload_n 1, 1) := by decide +kernel
theorem dX1_addChild_22 : decode cX1_addChild 22 = .ok (.aastore, 1) := by decide +kernel
theorem dX1_addChild_23 : decode cX1_addChild 23 = .ok (.aload_n 0, 1) := by decide +kernel
theorem dX1_addChild_24 : decode cX1_addChild 24 = .ok (.dup, 1) := by decide +kernel
theorem dX1_addChild_25 : decode cX1_addChild 25 = .ok (.getfield 26, 3) := by decide +kernel
theorem dX1_addChild_28 : decode cX1_addChild 28 = .ok (.iconst 1, 1) := by decide +kernel
theorem dX1_addChild_29 : decode cX1_addChild 29 = .ok (.iadd, 1) := by decide +kernel
theorem dX1_addChild_30 : decode cX1_addChild 30 = .ok (.putfield 26, 3) := by decide +kernel
theorem dX1_addChild_33 : decode cX1_addChild 33 = .ok (.aload_n 0, 1) := by decide +kernel
theorem dX1_addChild_34 : decode cX1_addChild 34 = .ok (.dup, 1) := by decide +kernel
theorem dX1_addChild_35 : decode cX1_addChild 35 = .ok (.getfield 29, 3) := by decide +kernel
theorem dX1_addChild_38 : decode cX1_addChild 38 = .ok (.aload_n 1, 1) := by decide +kernel
theorem dX1_addChild_39 : decode cX1_addChild 39 = .ok (.getfield 32, 3) := by decide +kernel
theorem dX1_addChild_42 : decode cX1_addChild 42 = .ok (.iadd, 1) := by decide +kernel
theorem dX1_addChild_43 : decode cX1_addChild 43 = .ok (.putfield 29, 3) := by decide +kernel
theorem dX1_addChild_46 : decode cX1_addChild 46 = .ok (.return_, 1) := by decide +kernel
theorem dX1_dropChildren_0 : decode cX1_dropChildren 0 = .ok (.aload_n 0, 1) := by decide +kernel
theorem dX1_dropChildren_1 : decode cX1_dropChildren 1 = .ok (.iconst 0, 1) := by decide +kernel
theorem dX1_dropChildren_2 : decode cX1_dropChildren 2 = .ok (.putfield 26, 3) := by decide +kernel
theorem dX1_dropChildren_5 : decode cX1_dropChildren 5 = .ok (.aload_n 0, 1) := by decide +kernel
theorem dX1_dropChildren_6 : decode cX1_dropChildren 6 = .ok (.iconst 0, 1) := by decide +kernel
theorem dX1_dropChildren_7 : decode cX1_dropChildren 7 = .ok (.putfield 29, 3) := by decide +kernel
theorem dX1_dropChildren_10 : decode cX1_dropChildren 10 = .ok (.return_, 1) := by decide +kernel
theorem dX2_init_0 : decode cX2_init 0 = .ok (.aload_n 0, 1) := by decide +kernel
theorem dX2_init_1 : decode cX2_init 1 = .ok (.invokespecial 3, 3) := by decide +kernel
theorem dX2_init_4 : decode cX2_init 4 = .ok (.aload_n 0, 1) := by decide +kernel
theorem dX2_init_5 : decode cX2_init 5 = .ok (.bipush 11, 2) := by decide +kernel
theorem dX2_init_7 : decode cX2_init 7 = .ok (.newarray .int, 2) := by decide +kernel
theorem dX2_init_9 : decode cX2_init 9 = .ok (.putfield 9, 3) := by decide +kernel
theorem dX2_init_12 : decode cX2_init 12 = .ok (.aload_n 0, 1) := by decide +kernel
theorem dX2_init_13 : decode cX2_init 13 = .ok (.bipush 11, 2) := by decide +kernel
theorem dX2_init_15 : decode cX2_init 15 = .ok (.newarray .int, 2) := by decide +kernel
theorem dX2_init_17 : decode cX2_init 17 = .ok (.putfield 15, 3) := by decide +kernel
theorem dX2_init_20 : decode cX2_init 20 = .ok (.aload_n 0, 1) := by decide +kernel
theorem dX2_init_21 : decode cX2_init 21 = .ok (.bipush 11, 2) := by decide +kernel
theorem dX2_init_23 : decode cX2_init 23 = .ok (.newarray .int, 2) := by decide +kernel
theorem dX2_init_25 : decode cX2_init 25 = .ok (.putfield 18, 3) := by decide +kernel
theorem dX2_init_28 : decode cX2_init 28 = .ok (.aload_n 0, 1) := by decide +kernel
theorem dX2_init_29 : decode cX2_init 29 = .ok (.bipush 11, 2) := by decide +kernel
theorem dX2_init_31 : decode cX2_init 31 = .ok (.newarray .int, 2) := by decide +kernel
theorem dX2_init_33 : decode cX2_init 33 = .ok (.putfield 21, 3) := by decide +kernel
theorem dX2_init_36 : decode cX2_init 36 = .ok (.aload_n 0, 1) := by decide +kernel
theorem dX2_init_37 : decode cX2_init 37 = .ok (.bipush 11, 2) := by decide +kernel
theorem dX2_init_39 : decode cX2_init 39 = .ok (.newarray .int, 2) := by decide +kernel
theorem dX2_init_41 : decode cX2_init 41 = .ok (.putfield 24, 3) := by decide +kernel
theorem dX2_init_44 : decode cX2_init 44 = .ok (.return_, 1) := by decide +kernel
theorem dX2_startAt_0 : decode cX2_startAt 0 = .ok (.aload_n 0, 1) := by decide +kernel
theorem dX2_startAt_1 : decode cX2_startAt 1 = .ok (.iconst 1, 1) := by decide +kernel
theorem dX2_startAt_2 : decode cX2_startAt 2 = .ok (.putfield 27, 3) := by decide +kernel
theorem dX2_startAt_5 : decode cX2_startAt 5 = .ok (.aload_n 0, 1) := by decide +kernel
theorem dX2_startAt_6 : decode cX2_startAt 6 = .ok (.iconst 0, 1) := by decide +kernel
theorem dX2_startAt_7 : decode cX2_startAt 7 = .ok (.putfield 31, 3) := by decide +kernel
theorem dX2_startAt_10 : decode cX2_startAt 10 = .ok (.aload_n 0, 1) := by decide +kernel
theorem dX2_startAt_11 : decode cX2_startAt 11 = .ok (.aload_n 1, 1) := by decide +kernel
theorem dX2_startAt_12 : decode cX2_startAt 12 = .ok (.putfield 35, 3) := by decide +kernel
theorem dX2_startAt_15 : decode cX2_startAt 15 = .ok (.aload_n 0, 1) := by decide +kernel
theorem dX2_startAt_16 : decode cX2_startAt 16 = .ok (.getfield 9, 3) := by decide +kernel
theorem dX2_startAt_19 : decode cX2_startAt 19 = .ok (.iconst 0, 1) := by decide +kernel
theorem dX2_startAt_20 : decode cX2_startAt 20 = .ok (.iload_n 2, 1) := by decide +kernel
theorem dX2_startAt_21 : decode cX2_startAt 21 = .ok (.iastore, 1) := by decide +kernel
theorem dX2_startAt_22 : decode cX2_startAt 22 = .ok (.return_, 1) := by decide +kernel
theorem dX2_stateNow_0 : decode cX2_stateNow 0 = .ok (.aload_n 0, 1) := by decide +kernel
theorem dX2_stateNow_1 : decode cX2_stateNow 1 = .ok (.aload_n 0, 1) := by decide +kernel
theorem dX2_stateNow_2 : decode cX2_stateNow 2 = .ok (.getfield 9, 3) := by decide +kernel
theorem dX2_stateNow_5 : decode cX2_stateNow 5 = .ok (.invokevirtual 39, 3) := by decide +kernel
theorem dX2_stateNow_8 : decode cX2_stateNow 8 = .ok (.ireturn, 1) := by decide +kernel
theorem dX2_toldNow_0 : decode cX2_toldNow 0 = .ok (.aload_n 0, 1) := by decide +kernel
theorem dX2_toldNow_1 : decode cX2_toldNow 1 = .ok (.getfield 31, 3) := by decide +kernel
theorem dX2_toldNow_4 : decode cX2_toldNow 4 = .ok (.ifCond .lt 21, 3) := by decide +kernel
theorem dX2_toldNow_7 : decode cX2_toldNow 7 = .ok (.aload_n 0, 1) := by decide +kernel
theorem dX2_toldNow_8 : decode cX2_toldNow 8 = .ok (.getfield 31, 3) := by decide +kernel
theorem dX2_toldNow_11 : decode cX2_toldNow 11 = .ok (.aload_n 1, 1) := by decide +kernel
theorem dX2_toldNow_12 : decode cX2_toldNow 12 = .ok (.arraylength, 1) := by decide +kernel
theorem dX2_toldNow_13 : decode cX2_toldNow 13 = .ok (.if_icmp .ge 12, 3) := by decide +kernel
theorem dX2_toldNow_16 : decode cX2_toldNow 16 = .ok (.aload_n 1, 1) := by decide +kernel
theorem dX2_toldNow_17 : decode cX2_toldNow 17 = .ok (.aload_n 0, 1) := by decide +kernel
theorem dX2_toldNow_18 : decode cX2_toldNow 18 = .ok (.getfield 31, 3) := by decide +kernel
theorem dX2_toldNow_21 : decode cX2_toldNow 21 = .ok (.iaload, 1) := by decide +kernel
theorem dX2_toldNow_22 : decode cX2_toldNow 22 = .ok (.goto 4, 3) := by decide +kernel
theorem dX2_toldNow_25 : decode cX2_toldNow 25 = .ok (.iconst 0, 1) := by decide +kernel
theorem dX2_toldNow_26 : decode cX2_toldNow 26 = .ok (.ireturn, 1) := by decide +kernel
theorem dX2_goOn_0 : decode cX2_goOn 0 = .ok (.aload_n 0, 1) := by decide +kernel
theorem dX2_goOn_1 : decode cX2_goOn 1 = .ok (.getfield 31, 3) := by decide +kernel
theorem dX2_goOn_4 : decode cX2_goOn 4 = .ok (.bipush 10, 2) := by decide +kernel
theorem dX2_goOn_6 : decode cX2_goOn 6 = .ok (.if_icmp .lt 4, 3) := by decide +kernel
theorem dX2_goOn_9 : decode cX2_goOn 9 = .ok (.return_, 1) := by decide +kernel
theorem dX2_goOn_10 : decode cX2_goOn 10 = .ok (.aload_n 0, 1) := by decide +kernel
theorem dX2_goOn_11 : decode cX2_goOn 11 = .ok (.getfield 31, 3) := by decide +kernel
theorem dX2_goOn_14 : decode cX2_goOn 14 = .ok (.istore 6, 2) := by decide +kernel
theorem dX2_goOn_16 : decode cX2_goOn 16 = .ok (.aload_n 0, 1) := by decide +kernel
theorem dX2_goOn_17 : decode cX2_goOn 17 = .ok (.dup, 1) := by decide +kernel
theorem dX2_goOn_18 : decode cX2_goOn 18 = .ok (.getfield 31, 3) := by decide +kernel
theorem dX2_goOn_21 : decode cX2_goOn 21 = .ok (.iconst 1, 1) := by decide +kernel
theorem dX2_goOn_22 : decode cX2_goOn 22 = .ok (.iadd, 1) := by decide +kernel
theorem dX2_goOn_23 : decode cX2_goOn 23 = .ok (.putfield 31, 3) := by decide +kernel
theorem dX2_goOn_26 : decode cX2_goOn 26 = .ok (.aload_n 0, 1) := by decide +kernel
theorem dX2_goOn_27 : decode cX2_goOn 27 = .ok (.aload_n 1, 1) := by decide +kernel
theorem dX2_goOn_28 : decode cX2_goOn 28 = .ok (.putfield 35, 3) := by decide +kernel
theorem dX2_goOn_31 : decode cX2_goOn 31 = .ok (.aload_n 0, 1) := by decide +kernel
theorem dX2_goOn_32 : decode cX2_goOn 32 = .ok (.getfield 9, 3) := by decide +kernel
theorem dX2_goOn_35 : decode cX2_goOn 35 = .ok (.aload_n 0, 1) := by decide +kernel
theorem dX2_goOn_36 : decode cX2_goOn 36 = .ok (.getfield 31, 3) := by decide +kernel
theorem dX2_goOn_39 : decode cX2_goOn 39 = .ok (.iload_n 2, 1) := by decide +kernel
theorem dX2_goOn_40 : decode cX2_goOn 40 = .ok (.iastore, 1) := by decide +kernel
theorem dX2_goOn_41 : decode cX2_goOn 41 = .ok (.aload_n 0, 1) := by decide +kernel
theorem dX2_goOn_42 : decode cX2_goOn 42 = .ok (.getfield 15, 3) := by decide +kernel
theorem dX2_goOn_45 : decode cX2_goOn 45 = .ok (.aload_n 0, 1) := by decide +kernel
theorem dX2_goOn_46 : decode cX2_goOn 46 = .ok (.getfield 31, 3) := by decide +kernel
theorem dX2_goOn_49 : decode cX2_goOn 49 = .ok (.aload_n 0, 1) := by decide +kernel
theorem dX2_goOn_50 : decode cX2_goOn 50 = .ok (.getfield 15, 3) := by decide +kernel
theorem dX2_goOn_53 : decode cX2_goOn 53 = .ok (.iload 6, 2) := by decide +kernel
theorem dX2_goOn_55 : decode cX2_goOn 55 = .ok (.iaload, 1) := by decide +kernel
theorem dX2_goOn_56 : decode cX2_goOn 56 = .ok (.iload_n 3, 1) := by decide +kernel
theorem dX2_goOn_57 : decode cX2_goOn 57 = .ok (.iadd, 1) := by decide +kernel
theorem dX2_goOn_58 : decode cX2_goOn 58 = .ok (.iastore, 1) := by decide +kernel
theorem dX2_goOn_59 : decode cX2_goOn 59 = .ok (.aload_n 0, 1) := by decide +kernel
theorem dX2_goOn_60 : decode cX2_goOn 60 = .ok (.getfield 18, 3) := by decide +kernel
theorem dX2_goOn_63 : decode cX2_goOn 63 = .ok (.aload_n 0, 1) := by decide +kernel
theorem dX2_goOn_64 : decode cX2_goOn 64 = .ok (.getfield 31, 3) := by decide +kernel
theorem dX2_goOn_67 : decode cX2_goOn 67 = .ok (.aload_n 0, 1) := by decide +kernel
theorem dX2_goOn_68 : decode cX2_goOn 68 = .ok (.getfield 18, 3) := by decide +kernel
theorem dX2_goOn_71 : decode cX2_goOn 71 = .ok (.iload 6, 2) := by decide +kernel
theorem dX2_goOn_73 : decode cX2_goOn 73 = .ok (.iaload, 1) := by decide +kernel
theorem dX2_goOn_74 : decode cX2_goOn 74 = .ok (.iload 4, 2) := by decide +kernel
theorem dX2_goOn_76 : decode cX2_goOn 76 = .ok (.iadd, 1) := by decide +kernel
theorem dX2_goOn_77 : decode cX2_goOn 77 = .ok (.iastore, 1) := by decide +kernel
theorem dX2_goOn_78 : decode cX2_goOn 78 = .ok (.aload_n 0, 1) := by decide +kernel
theorem dX2_goOn_79 : decode cX2_goOn 79 = .ok (.getfield 21, 3) := by decide +kernel
theorem dX2_goOn_82 : decode cX2_goOn 82 = .ok (.aload_n 0, 1) := by decide +kernel
theorem dX2_goOn_83 : decode cX2_goOn 83 = .ok (.getfield 31, 3) := by decide +kernel
theorem dX2_goOn_86 : decode cX2_goOn 86 = .ok (.aload_n 0, 1) := by decide +kernel
theorem dX2_goOn_87 : decode cX2_goOn 87 = .ok (.getfield 21, 3) := by decide +kernel
theorem dX2_goOn_90 : decode cX2_goOn 90 = .ok (.iload 6, 2) := by decide +kernel
theorem dX2_goOn_92 : decode cX2_goOn 92 = .ok (.iaload, 1) := by decide +kernel
theorem dX2_goOn_93 : decode cX2_goOn 93 = .ok (.iload 5, 2) := by decide +kernel
theorem dX2_goOn_95 : decode cX2_goOn 95 = .ok (.iadd, 1) := by decide +kernel
theorem dX2_goOn_96 : decode cX2_goOn 96 = .ok (.iastore, 1) := by decide +kernel
theorem dX2_goOn_97 : decode cX2_goOn 97 = .ok (.aload_n 0, 1) := by decide +kernel
theorem dX2_goOn_98 : decode cX2_goOn 98 = .ok (.getfield 24, 3) := by decide +kernel
theorem dX2_goOn_101 : decode cX2_goOn 101 = .ok (.aload_n 0, 1) := by decide +kernel
theorem dX2_goOn_102 : decode cX2_goOn 102 = .ok (.getfield 31, 3) := by decide +kernel
theorem dX2_goOn_105 : decode cX2_goOn 105 = .ok (.aload_n 0, 1) := by decide +kernel
theorem dX2_goOn_106 : decode cX2_goOn 106 = .ok (.getfield 24, 3) := by decide +kernel
theorem dX2_goOn_109 : decode cX2_goOn 109 = .ok (.iload 6, 2) := by decide +kernel
theorem dX2_goOn_111 : decode cX2_goOn 111 = .ok (.iaload, 1) := by decide +kernel
theorem dX2_goOn_112 : decode cX2_goOn 112 = .ok (.aload_n 1, 1) := by decide +kernel
theorem dX2_goOn_113 : decode cX2_goOn 113 = .ok (.invokevirtual 43, 3) := by decide +kernel
theorem dX2_goOn_116 : decode cX2_goOn 116 = .ok (.iadd, 1) := by decide +kernel
theorem dX2_goOn_117 : decode cX2_goOn 117 = .ok (.iastore, 1) := by decide +kernel
theorem dX2_goOn_118 : decode cX2_goOn 118 = .ok (.return_, 1) := by decide +kernel
theorem dX3_init_0 : decode cX3_init 0 = .ok (.aload_n 0, 1) := by decide +kernel
theorem dX3_init_1 : decode cX3_init 1 = .ok (.invokespecial 3, 3) := by decide +kernel
theorem dX3_init_4 : decode cX3_init 4 = .ok (.aload_n 0, 1) := by decide +kernel
theorem dX3_init_5 : decode cX3_init 5 = .ok (.bipush 81, 2) := by decide +kernel
theorem dX3_init_7 : decode cX3_init 7 = .ok (.anewarray 9, 3) := by decide +kernel
theorem dX3_init_10 : decode cX3_init 10 = .ok (.putfield 11, 3) := by decide +kernel
theorem dX3_init_13 : decode cX3_init 13 = .ok (.aload_n 0, 1) := by decide +kernel
theorem dX3_init_14 : decode cX3_init 14 = .ok (.bipush 10, 2) := by decide +kernel
theorem dX3_init_16 : decode cX3_init 16 = .ok (.newarray .int, 2) := by decide +kernel
theorem dX3_init_18 : decode cX3_init 18 = .ok (.putfield 17, 3) := by decide +kernel
theorem dX3_init_21 : decode cX3_init 21 = .ok (.aload_n 0, 1) := by decide +kernel
theorem dX3_init_22 : decode cX3_init 22 = .ok (.iconst 1, 1) := by decide +kernel
theorem dX3_init_23 : decode cX3_init 23 = .ok (.putfield 21, 3) := by decide +kernel
theorem dX3_init_26 : decode cX3_init 26 = .ok (.aload_n 0, 1) := by decide +kernel
theorem dX3_init_27 : decode cX3_init 27 = .ok (.iconst 1, 1) := by decide +kernel
theorem dX3_init_28 : decode cX3_init 28 = .ok (.putfield 25, 3) := by decide +kernel
theorem dX3_init_31 : decode cX3_init 31 = .ok (.aload_n 0, 1) := by decide +kernel
theorem dX3_init_32 : decode cX3_init 32 = .ok (.iconst 1, 1) := by decide +kernel
theorem dX3_init_33 : decode cX3_init 33 = .ok (.putfield 28, 3) := by decide +kernel
theorem dX3_init_36 : decode cX3_init 36 = .ok (.aload_n 0, 1) := by decide +kernel
theorem dX3_init_37 : decode cX3_init 37 = .ok (.getfield 11, 3) := by decide +kernel
theorem dX3_init_40 : decode cX3_init 40 = .ok (.iconst 0, 1) := by decide +kernel
theorem dX3_init_41 : decode cX3_init 41 = .ok (.new 9, 3) := by decide +kernel
theorem dX3_init_44 : decode cX3_init 44 = .ok (.dup, 1) := by decide +kernel
theorem dX3_init_45 : decode cX3_init 45 = .ok (.iconst 0, 1) := by decide +kernel
theorem dX3_init_46 : decode cX3_init 46 = .ok (.invokespecial 31, 3) := by decide +kernel
theorem dX3_init_49 : decode cX3_init 49 = .ok (.aastore, 1) := by decide +kernel
theorem dX3_init_50 : decode cX3_init 50 = .ok (.aload_n 0, 1) := by decide +kernel
theorem dX3_init_51 : decode cX3_init 51 = .ok (.getfield 17, 3) := by decide +kernel
theorem dX3_init_54 : decode cX3_init 54 = .ok (.iconst 1, 1) := by decide +kernel
theorem dX3_init_55 : decode cX3_init 55 = .ok (.invokestatic 34, 3) := by decide +kernel
theorem dX3_init_58 : decode cX3_init 58 = .ok (.return_, 1) := by decide +kernel
theorem dX3_clear_0 : decode cX3_clear 0 = .ok (.aload_n 0, 1) := by decide +kernel
theorem dX3_clear_1 : decode cX3_clear 1 = .ok (.iload_n 1, 1) := by decide +kernel
theorem dX3_clear_2 : decode cX3_clear 2 = .ok (.putfield 25, 3) := by decide +kernel
theorem dX3_clear_5 : decode cX3_clear 5 = .ok (.aload_n 0, 1) := by decide +kernel
theorem dX3_clear_6 : decode cX3_clear 6 = .ok (.iload_n 2, 1) := by decide +kernel
theorem dX3_clear_7 : decode cX3_clear 7 = .ok (.putfield 28, 3) := by decide +kernel
theorem dX3_clear_10 : decode cX3_clear 10 = .ok (.aload_n 0, 1) := by decide +kernel
theorem dX3_clear_11 : decode cX3_clear 11 = .ok (.iconst 1, 1) := by decide +kernel
theorem dX3_clear_12 : decode cX3_clear 12 = .ok (.putfield 21, 3) := by decide +kernel
theorem dX3_clear_15 : decode cX3_clear 15 = .ok (.aload_n 0, 1) := by decide +kernel
theorem dX3_clear_16 : decode cX3_clear 16 = .ok (.getfield 11, 3) := by decide +kernel
theorem dX3_clear_19 : decode cX3_clear 19 = .ok (.iconst 0, 1) := by decide +kernel
theorem dX3_clear_20 : decode cX3_clear 20 = .ok (.aaload, 1) := by decide +kernel
theorem dX3_clear_21 : decode cX3_clear 21 = .ok (.invokevirtual 40, 3) := by decide +kernel
theorem dX3_clear_24 : decode cX3_clear 24 = .ok (.return_, 1) := by decide +kernel
theorem dX3_nodeAt_0 : decode cX3_nodeAt 0 = .ok (.iload_n 1, 1) := by decide +kernel
theorem dX3_nodeAt_1 : decode cX3_nodeAt 1 = .ok (.ifCond .lt 29, 3) := by decide +kernel
theorem dX3_nodeAt_4 : decode cX3_nodeAt 4 = .ok (.iload_n 1, 1) := by decide +kernel
theorem dX3_nodeAt_5 : decode cX3_nodeAt 5 = .ok (.aload_n 0, 1) := by decide +kernel
theorem dX3_nodeAt_6 : decode cX3_nodeAt 6 = .ok (.getfield 21, 3) := by decide +kernel
theorem dX3_nodeAt_9 : decode cX3_nodeAt 9 = .ok (.if_icmp .ge 21, 3) := by decide +kernel
theorem dX3_nodeAt_12 : decode cX3_nodeAt 12 = .ok (.iload_n 1, 1) := by decide +kernel
theorem dX3_nodeAt_13 : decode cX3_nodeAt 13 = .ok (.aload_n 0, 1) := by decide +kernel
theorem dX3_nodeAt_14 : decode cX3_nodeAt 14 = .ok (.getfield 11, 3) := by decide +kernel
theorem dX3_nodeAt_17 : decode cX3_nodeAt 17 = .ok (.arraylength, 1) := by decide +kernel
theorem dX3_nodeAt_18 : decode cX3_nodeAt 18 = .ok (.if_icmp .ge 12, 3) := by decide +kernel
theorem dX3_nodeAt_21 : decode cX3_nodeAt 21 = .ok (.aload_n 0, 1) := by decide +kernel
theorem dX3_nodeAt_22 : decode cX3_nodeAt 22 = .ok (.getfield 11, 3) := by decide +kernel
theorem dX3_nodeAt_25 : decode cX3_nodeAt 25 = .ok (.iload_n 1, 1) := by decide +kernel
theorem dX3_nodeAt_26 : decode cX3_nodeAt 26 = .ok (.aaload, 1) := by decide +kernel
theorem dX3_nodeAt_27 : decode cX3_nodeAt 27 = .ok (.goto 4, 3) := by decide +kernel
theorem dX3_nodeAt_30 : decode cX3_nodeAt 30 = .ok (.aconst_null, 1) := by decide +kernel
theorem dX3_nodeAt_31 : decode cX3_nodeAt 31 = .ok (.areturn, 1) := by decide +kernel
theorem dX3_addNode_0 : decode cX3_addNode 0 = .ok (.aload_n 0, 1) := by decide +kernel
theorem dX3_addNode_1 : decode cX3_addNode 1 = .ok (.getfield 21, 3) := by decide +kernel
theorem dX3_addNode_4 : decode cX3_addNode 4 = .ok (.aload_n 0, 1) := by decide +kernel
theorem dX3_addNode_5 : decode cX3_addNode 5 = .ok (.getfield 11, 3) := by decide +kernel
theorem dX3_addNode_8 : decode cX3_addNode 8 = .ok (.arraylength, 1) := by decide +kernel
theorem dX3_addNode_9 : decode cX3_addNode 9 = .ok (.if_icmp .lt 5, 3) := by decide +kernel
theorem dX3_addNode_12 : decode cX3_addNode 12 = .ok (.aconst_null, 1) := by decide +kernel
theorem dX3_addNode_13 : decode cX3_addNode 13 = .ok (.areturn, 1) := by decide +kernel
theorem dX3_addNode_14 : decode cX3_addNode 14 = .ok (.aload_n 0, 1) := by decide +kernel
theorem dX3_addNode_15 : decode cX3_addNode 15 = .ok (.getfield 11, 3) := by decide +kernel
theorem dX3_addNode_18 : decode cX3_addNode 18 = .ok (.aload_n 0, 1) := by decide +kernel
theorem dX3_addNode_19 : decode cX3_addNode 19 = .ok (.getfield 21, 3) := by decide +kernel
theorem dX3_addNode_22 : decode cX3_addNode 22 = .ok (.aaload, 1) := by decide +kernel
theorem dX3_addNode_23 : decode cX3_addNode 23 = .ok (.ifnonnull 23, 3) := by decide +kernel
theorem dX3_addNode_26 : decode cX3_addNode 26 = .ok (.aload_n 0, 1) := by decide +kernel
theorem dX3_addNode_27 : decode cX3_addNode 27 = .ok (.getfield 11, 3) := by decide +kernel
theorem dX3_addNode_30 : decode cX3_addNode 30 = .ok (.aload_n 0, 1) := by decide +kernel
theorem dX3_addNode_31 : decode cX3_addNode 31 = .ok (.getfield 21, 3) := by decide +kernel
theorem dX3_addNode_34 : decode cX3_addNode 34 = .ok (.new 9, 3) := by decide +kernel
theorem dX3_addNode_37 : decode cX3_addNode 37 = .ok (.dup, 1) := by decide +kernel
theorem dX3_addNode_38 : decode cX3_addNode 38 = .ok (.aload_n 0, 1) := by decide +kernel
theorem dX3_addNode_39 : decode cX3_addNode 39 = .ok (.getfield 21, 3) := by decide +kernel
theorem dX3_addNode_42 : decode cX3_addNode 42 = .ok (.invokespecial 31, 3) := by decide +kernel
theorem dX3_addNode_45 : decode cX3_addNode 45 = .ok (.aastore, 1) := by decide +kernel
theorem dX3_addNode_46 : decode cX3_addNode 46 = .ok (.aload_n 0, 1) := by decide +kernel
theorem dX3_addNode_47 : decode cX3_addNode 47 = .ok (.getfield 11, 3) := by decide +kernel
theorem dX3_addNode_50 : decode cX3_addNode 50 = .ok (.aload_n 0, 1) := by decide +kernel
theorem dX3_addNode_51 : decode cX3_addNode 51 = .ok (.getfield 21, 3) := by decide +kernel
theorem dX3_addNode_54 : decode cX3_addNode 54 = .ok (.aaload, 1) := by decide +kernel
theorem dX3_addNode_55 : decode cX3_addNode 55 = .ok (.astore_n 3, 1) := by decide +kernel
theorem dX3_addNode_56 : decode cX3_addNode 56 = .ok (.aload_n 3, 1) := by decide +kernel
theorem dX3_addNode_57 : decode cX3_addNode 57 = .ok (.invokevirtual 40, 3) := by decide +kernel
theorem dX3_addNode_60 : decode cX3_addNode 60 = .ok (.aload_n 3, 1) := by decide +kernel
theorem dX3_addNode_61 : decode cX3_addNode 61 = .ok (.aload_n 1, 1) := by decide +kernel
theorem dX3_addNode_62 : decode cX3_addNode 62 = .ok (.putfield 43, 3) := by decide +kernel
theorem dX3_addNode_65 : decode cX3_addNode 65 = .ok (.aload_n 3, 1) := by decide +kernel
theorem dX3_addNode_66 : decode cX3_addNode 66 = .ok (.iload_n 2, 1) := by decide +kernel
theorem dX3_addNode_67 : decode cX3_addNode 67 = .ok (.putfield 47, 3) := by decide +kernel
theorem dX3_addNode_70 : decode cX3_addNode 70 = .ok (.aload_n 3, 1) := by decide +kernel
theorem dX3_addNode_71 : decode cX3_addNode 71 = .ok (.aload_n 1, 1) := by decide +kernel
theorem dX3_addNode_72 : decode cX3_addNode 72 = .ok (.getfield 50, 3) := by decide +kernel
theorem dX3_addNode_75 : decode cX3_addNode 75 = .ok (.iconst 1, 1) := by decide +kernel
theorem dX3_addNode_76 : decode cX3_addNode 76 = .ok (.iadd, 1) := by decide +kernel
theorem dX3_addNode_77 : decode cX3_addNode 77 = .ok (.putfield 50, 3) := by decide +kernel
theorem dX3_addNode_80 : decode cX3_addNode 80 = .ok (.aload_n 1, 1) := by decide +kernel
theorem dX3_addNode_81 : decode cX3_addNode 81 = .ok (.aload_n 3, 1) := by decide +kernel
theorem dX3_addNode_82 : decode cX3_addNode 82 = .ok (.invokevirtual 53, 3) := by decide +kernel
theorem dX3_addNode_85 : decode cX3_addNode 85 = .ok (.aload_n 0, 1) := by decide +kernel
theorem dX3_addNode_86 : decode cX3_addNode 86 = .ok (.dup, 1) := by decide +kernel
theorem dX3_addNode_87 : decode cX3_addNode 87 = .ok (.getfield 21, 3) := by decide +kernel
theorem dX3_addNode_90 : decode cX3_addNode 90 = .ok (.iconst 1, 1) := by decide +kernel
theorem dX3_addNode_91 : decode cX3_addNode 91 = .ok (.iadd, 1) := by decide +kernel
theorem dX3_addNode_92 : decode cX3_addNode 92 = .ok (.putfield 21, 3) := by decide +kernel
theorem dX3_addNode_95 : decode cX3_addNode 95 = .ok (.aload_n 3, 1) := by decide +kernel
theorem dX3_addNode_96 : decode cX3_addNode 96 = .ok (.areturn, 1) := by decide +kernel
theorem dX3_isLast_0 : decode cX3_isLast 0 = .ok (.aload_n 1, 1) := by decide +kernel
theorem dX3_isLast_1 : decode cX3_isLast 1 = .ok (.getfield 50, 3) := by decide +kernel
theorem dX3_isLast_4 : decode cX3_isLast 4 = .ok (.aload_n 0, 1) := by decide +kernel
theorem dX3_isLast_5 : decode cX3_isLast 5 = .ok (.getfield 25, 3) := by decide +kernel
theorem dX3_isLast_8 : decode cX3_isLast 8 = .ok (.iconst 1, 1) := by decide +kernel
theorem dX3_isLast_9 : decode cX3_isLast 9 = .ok (.isub, 1) := by decide +kernel
theorem dX3_isLast_10 : decode cX3_isLast 10 = .ok (.if_icmp .lt 7, 3) := by decide +kernel
theorem dX3_isLast_13 : decode cX3_isLast 13 = .ok (.iconst 1, 1) := by decide +kernel
theorem dX3_isLast_14 : decode cX3_isLast 14 = .ok (.goto 4, 3) := by decide +kernel
theorem dX3_isLast_17 : decode cX3_isLast 17 = .ok (.iconst 0, 1) := by decide +kernel
theorem dX3_isLast_18 : decode cX3_isLast 18 = .ok (.ireturn, 1) := by decide +kernel
theorem dX3_weeksLeft_0 : decode cX3_weeksLeft 0 = .ok (.aload_n 0, 1) := by decide +kernel
theorem dX3_weeksLeft_1 : decode cX3_weeksLeft 1 = .ok (.getfield 25, 3) := by decide +kernel
theorem dX3_weeksLeft_4 : decode cX3_weeksLeft 4 = .ok (.iconst 1, 1) := by decide +kernel
theorem dX3_weeksLeft_5 : decode cX3_weeksLeft 5 = .ok (.isub, 1) := by decide +kernel
theorem dX3_weeksLeft_6 : decode cX3_weeksLeft 6 = .ok (.aload_n 1, 1) := by decide +kernel
theorem dX3_weeksLeft_7 : decode cX3_weeksLeft 7 = .ok (.getfield 50, 3) := by decide +kernel
theorem dX3_weeksLeft_10 : decode cX3_weeksLeft 10 = .ok (.isub, 1) := by decide +kernel
theorem dX3_weeksLeft_11 : decode cX3_weeksLeft 11 = .ok (.ireturn, 1) := by decide +kernel
theorem dX3_priceFrom_0 : decode cX3_priceFrom 0 = .ok (.aload_n 1, 1) := by decide +kernel
theorem dX3_priceFrom_1 : decode cX3_priceFrom 1 = .ok (.getfield 50, 3) := by decide +kernel
theorem dX3_priceFrom_4 : decode cX3_priceFrom 4 = .ok (.iconst 1, 1) := by decide +kernel
theorem dX3_priceFrom_5 : decode cX3_priceFrom 5 = .ok (.iadd, 1) := by decide +kernel
theorem dX3_priceFrom_6 : decode cX3_priceFrom 6 = .ok (.istore_n 2, 1) := by decide +kernel
theorem dX3_priceFrom_7 : decode cX3_priceFrom 7 = .ok (.iload_n 2, 1) := by decide +kernel
theorem dX3_priceFrom_8 : decode cX3_priceFrom 8 = .ok (.ifCond .lt 21, 3) := by decide +kernel
theorem dX3_priceFrom_11 : decode cX3_priceFrom 11 = .ok (.iload_n 2, 1) := by decide +kernel
theorem dX3_priceFrom_12 : decode cX3_priceFrom 12 = .ok (.aload_n 0, 1) := by decide +kernel
theorem dX3_priceFrom_13 : decode cX3_priceFrom 13 = .ok (.getfield 17, 3) := by decide +kernel
theorem dX3_priceFrom_16 : decode cX3_priceFrom 16 = .ok (.arraylength, 1) := by decide +kernel
theorem dX3_priceFrom_17 : decode cX3_priceFrom 17 = .ok (.if_icmp .ge 12, 3) := by decide +kernel
theorem dX3_priceFrom_20 : decode cX3_priceFrom 20 = .ok (.aload_n 0, 1) := by decide +kernel
theorem dX3_priceFrom_21 : decode cX3_priceFrom 21 = .ok (.getfield 17, 3) := by decide +kernel
theorem dX3_priceFrom_24 : decode cX3_priceFrom 24 = .ok (.iload_n 2, 1) := by decide +kernel
theorem dX3_priceFrom_25 : decode cX3_priceFrom 25 = .ok (.iaload, 1) := by decide +kernel
theorem dX3_priceFrom_26 : decode cX3_priceFrom 26 = .ok (.goto 4, 3) := by decide +kernel
theorem dX3_priceFrom_29 : decode cX3_priceFrom 29 = .ok (.iconst 0, 1) := by decide +kernel
theorem dX3_priceFrom_30 : decode cX3_priceFrom 30 = .ok (.ireturn, 1) := by decide +kernel
theorem dX3_isFilled_0 : decode cX3_isFilled 0 = .ok (.iconst 0, 1) := by decide +kernel
theorem dX3_isFilled_1 : decode cX3_isFilled 1 = .ok (.istore_n 1, 1) := by decide +kernel
theorem dX3_isFilled_2 : decode cX3_isFilled 2 = .ok (.iload_n 1, 1) := by decide +kernel
theorem dX3_isFilled_3 : decode cX3_isFilled 3 = .ok (.aload_n 0, 1) := by decide +kernel
theorem dX3_isFilled_4 : decode cX3_isFilled 4 = .ok (.getfield 21, 3) := by decide +kernel
theorem dX3_isFilled_7 : decode cX3_isFilled 7 = .ok (.if_icmp .ge 40, 3) := by decide +kernel
theorem dX3_isFilled_10 : decode cX3_isFilled 10 = .ok (.aload_n 0, 1) := by decide +kernel
theorem dX3_isFilled_11 : decode cX3_isFilled 11 = .ok (.aload_n 0, 1) := by decide +kernel
theorem dX3_isFilled_12 : decode cX3_isFilled 12 = .ok (.getfield 11, 3) := by decide +kernel
theorem dX3_isFilled_15 : decode cX3_isFilled 15 = .ok (.iload_n 1, 1) := by decide +kernel
theorem dX3_isFilled_16 : decode cX3_isFilled 16 = .ok (.aaload, 1) := by decide +kernel
theorem dX3_isFilled_17 : decode cX3_isFilled 17 = .ok (.invokevirtual 57, 3) := by decide +kernel
theorem dX3_isFilled_20 : decode cX3_isFilled 20 = .ok (.ifCond .ne 21, 3) := by decide +kernel
theorem dX3_isFilled_23 : decode cX3_isFilled 23 = .ok (.aload_n 0, 1) := by decide +kernel
theorem dX3_isFilled_24 : decode cX3_isFilled 24 = .ok (.getfield 11, 3) := by decide +kernel
theorem dX3_isFilled_27 : decode cX3_isFilled 27 = .ok (.iload_n 1, 1) := by decide +kernel
theorem dX3_isFilled_28 : decode cX3_isFilled 28 = .ok (.aaload, 1) := by decide +kernel
theorem dX3_isFilled_29 : decode cX3_isFilled 29 = .ok (.getfield 61, 3) := by decide +kernel
theorem dX3_isFilled_32 : decode cX3_isFilled 32 = .ok (.aload_n 0, 1) := by decide +kernel
theorem dX3_isFilled_33 : decode cX3_isFilled 33 = .ok (.getfield 28, 3) := by decide +kernel
theorem dX3_isFilled_36 : decode cX3_isFilled 36 = .ok (.if_icmp .eq 5, 3) := by decide +kernel
theorem dX3_isFilled_39 : decode cX3_isFilled 39 = .ok (.iconst 0, 1) := by decide +kernel
theorem dX3_isFilled_40 : decode cX3_isFilled 40 = .ok (.ireturn, 1) := by decide +kernel
theorem dX3_isFilled_41 : decode cX3_isFilled 41 = .ok (.iinc 1 1, 3) := by decide +kernel
theorem dX3_isFilled_44 : decode cX3_isFilled 44 = .ok (.goto (-42), 3) := by decide +kernel
theorem dX3_isFilled_47 : decode cX3_isFilled 47 = .ok (.iconst 1, 1) := by decide +kernel
theorem dX3_isFilled_48 : decode cX3_isFilled 48 = .ok (.ireturn, 1) := by decide +kernel
theorem dX3_scaleOf_0 : decode cX3_scaleOf 0 = .ok (.lconst 1, 1) := by decide +kernel
theorem dX3_scaleOf_1 : decode cX3_scaleOf 1 = .ok (.lstore_n 2, 1) := by decide +kernel
theorem dX3_scaleOf_2 : decode cX3_scaleOf 2 = .ok (.iconst 0, 1) := by decide +kernel
theorem dX3_scaleOf_3 : decode cX3_scaleOf 3 = .ok (.istore 4, 2) := by decide +kernel
theorem dX3_scaleOf_5 : decode cX3_scaleOf 5 = .ok (.iload 4, 2) := by decide +kernel
theorem dX3_scaleOf_7 : decode cX3_scaleOf 7 = .ok (.iload_n 1, 1) := by decide +kernel
theorem dX3_scaleOf_8 : decode cX3_scaleOf 8 = .ok (.if_icmp .ge 17, 3) := by decide +kernel
theorem dX3_scaleOf_11 : decode cX3_scaleOf 11 = .ok (.lload_n 2, 1) := by decide +kernel
theorem dX3_scaleOf_12 : decode cX3_scaleOf 12 = .ok (.aload_n 0, 1) := by decide +kernel
theorem dX3_scaleOf_13 : decode cX3_scaleOf 13 = .ok (.getfield 28, 3) := by decide +kernel
theorem dX3_scaleOf_16 : decode cX3_scaleOf 16 = .ok (.i2l, 1) := by decide +kernel
theorem dX3_scaleOf_17 : decode cX3_scaleOf 17 = .ok (.lmul, 1) := by decide +kernel
theorem dX3_scaleOf_18 : decode cX3_scaleOf 18 = .ok (.lstore_n 2, 1) := by decide +kernel
theorem dX3_scaleOf_19 : decode cX3_scaleOf 19 = .ok (.iinc 4 1, 3) := by decide +kernel
theorem dX3_scaleOf_22 : decode cX3_scaleOf 22 = .ok (.goto (-17), 3) := by decide +kernel
theorem dX3_scaleOf_25 : decode cX3_scaleOf 25 = .ok (.lload_n 2, 1) := by decide +kernel
theorem dX3_scaleOf_26 : decode cX3_scaleOf 26 = .ok (.lreturn, 1) := by decide +kernel
theorem dX4_init_0 : decode cX4_init 0 = .ok (.aload_n 0, 1) := by decide +kernel
theorem dX4_init_1 : decode cX4_init 1 = .ok (.invokespecial 3, 3) := by decide +kernel
theorem dX4_init_4 : decode cX4_init 4 = .ok (.aload_n 0, 1) := by decide +kernel
theorem dX4_init_5 : decode cX4_init 5 = .ok (.iconst 3, 1) := by decide +kernel
theorem dX4_init_6 : decode cX4_init 6 = .ok (.anewarray 9, 3) := by decide +kernel
theorem dX4_init_9 : decode cX4_init 9 = .ok (.putfield 11, 3) := by decide +kernel
theorem dX4_init_12 : decode cX4_init 12 = .ok (.aload_n 0, 1) := by decide +kernel
theorem dX4_init_13 : decode cX4_init 13 = .ok (.iconst 1, 1) := by decide +kernel
theorem dX4_init_14 : decode cX4_init 14 = .ok (.putfield 17, 3) := by decide +kernel
theorem dX4_init_17 : decode cX4_init 17 = .ok (.iconst 0, 1) := by decide +kernel
theorem dX4_init_18 : decode cX4_init 18 = .ok (.istore_n 1, 1) := by decide +kernel
theorem dX4_init_19 : decode cX4_init 19 = .ok (.iload_n 1, 1) := by decide +kernel
theorem dX4_init_20 : decode cX4_init 20 = .ok (.aload_n 0, 1) := by decide +kernel
theorem dX4_init_21 : decode cX4_init 21 = .ok (.getfield 11, 3) := by decide +kernel
theorem dX4_init_24 : decode cX4_init 24 = .ok (.arraylength, 1) := by decide +kernel
theorem dX4_init_25 : decode cX4_init 25 = .ok (.if_icmp .ge 22, 3) := by decide +kernel
theorem dX4_init_28 : decode cX4_init 28 = .ok (.aload_n 0, 1) := by decide +kernel
theorem dX4_init_29 : decode cX4_init 29 = .ok (.getfield 11, 3) := by decide +kernel
theorem dX4_init_32 : decode cX4_init 32 = .ok (.iload_n 1, 1) := by decide +kernel
theorem dX4_init_33 : decode cX4_init 33 = .ok (.new 9, 3) := by decide +kernel
theorem dX4_init_36 : decode cX4_init 36 = .ok (.dup, 1) := by decide +kernel
theorem dX4_init_37 : decode cX4_init 37 = .ok (.invokespecial 21, 3) := by decide +kernel
theorem dX4_init_40 : decode cX4_init 40 = .ok (.aastore, 1) := by decide +kernel
theorem dX4_init_41 : decode cX4_init 41 = .ok (.iinc 1 1, 3) := by decide +kernel
theorem dX4_init_44 : decode cX4_init 44 = .ok (.goto (-25), 3) := by decide +kernel
theorem dX4_init_47 : decode cX4_init 47 = .ok (.return_, 1) := by decide +kernel
theorem dX4_addLake_0 : decode cX4_addLake 0 = .ok (.aload_n 0, 1) := by decide +kernel
theorem dX4_addLake_1 : decode cX4_addLake 1 = .ok (.getfield 22, 3) := by decide +kernel
theorem dX4_addLake_4 : decode cX4_addLake 4 = .ok (.aload_n 0, 1) := by decide +kernel
theorem dX4_addLake_5 : decode cX4_addLake 5 = .ok (.getfield 11, 3) := by decide +kernel
theorem dX4_addLake_8 : decode cX4_addLake 8 = .ok (.arraylength, 1) := by decide +kernel
theorem dX4_addLake_9 : decode cX4_addLake 9 = .ok (.if_icmp .lt 6, 3) := by decide +kernel
theorem dX4_addLake_12 : decode cX4_addLake 12 = .ok (.bipush (-5), 2) := by decide +kernel
theorem dX4_addLake_14 : decode cX4_addLake 14 = .ok (.ireturn, 1) := by decide +kernel
theorem dX4_addLake_15 : decode cX4_addLake 15 = .ok (.iconst 0, 1) := by decide +kernel
theorem dX4_addLake_16 : decode cX4_addLake 16 = .ok (.istore 5, 2) := by decide +kernel
theorem dX4_addLake_18 : decode cX4_addLake 18 = .ok (.iload 5, 2) := by decide +kernel
theorem dX4_addLake_20 : decode cX4_addLake 20 = .ok (.aload_n 0, 1) := by decide +kernel
theorem dX4_addLake_21 : decode cX4_addLake 21 = .ok (.getfield 22, 3) := by decide +kernel
theorem dX4_addLake_24 : decode cX4_addLake 24 = .ok (.if_icmp .ge 27, 3) := by decide +kernel
theorem dX4_addLake_27 : decode cX4_addLake 27 = .ok (.aload_n 0, 1) := by decide +kernel
theorem dX4_addLake_28 : decode cX4_addLake 28 = .ok (.getfield 11, 3) := by decide +kernel
theorem dX4_addLake_31 : decode cX4_addLake 31 = .ok (.iload 5, 2) := by decide +kernel
theorem dX4_addLake_33 : decode cX4_addLake 33 = .ok (.aaload, 1) := by decide +kernel
theorem dX4_addLake_34 : decode cX4_addLake 34 = .ok (.dup, 1) := by decide +kernel
theorem dX4_addLake_35 : decode cX4_addLake 35 = .ok (.getfield 25, 3) := by decide +kernel
theorem dX4_addLake_38 : decode cX4_addLake 38 = .ok (.iload_n 2, 1) := by decide +kernel
theorem dX4_addLake_39 : decode cX4_addLake 39 = .ok (.iconst 1, 1) := by decide +kernel
theorem dX4_addLake_40 : decode cX4_addLake 40 = .ok (.iadd, 1) := by decide +kernel
theorem dX4_addLake_41 : decode cX4_addLake 41 = .ok (.imul, 1) := by decide +kernel
theorem dX4_addLake_42 : decode cX4_addLake 42 = .ok (.putfield 25, 3) := by decide +kernel
theorem dX4_addLake_45 : decode cX4_addLake 45 = .ok (.iinc 5 1, 3) := by decide +kernel
theorem dX4_addLake_48 : decode cX4_addLake 48 = .ok (.goto (-30), 3) := by decide +kernel
theorem dX4_addLake_51 : decode cX4_addLake 51 = .ok (.aload_n 0, 1) := by decide +kernel
theorem dX4_addLake_52 : decode cX4_addLake 52 = .ok (.dup, 1) := by decide +kernel
theorem dX4_addLake_53 : decode cX4_addLake 53 = .ok (.getfield 17, 3) := by decide +kernel
theorem dX4_addLake_56 : decode cX4_addLake 56 = .ok (.iload_n 2, 1) := by decide +kernel
theorem dX4_addLake_57 : decode cX4_addLake 57 = .ok (.iconst 1, 1) := by decide +kernel
theorem dX4_addLake_58 : decode cX4_addLake 58 = .ok (.iadd, 1) := by decide +kernel
theorem dX4_addLake_59 : decode cX4_addLake 59 = .ok (.imul, 1) := by decide +kernel
theorem dX4_addLake_60 : decode cX4_addLake 60 = .ok (.putfield 17, 3) := by decide +kernel
theorem dX4_addLake_63 : decode cX4_addLake 63 = .ok (.aload_n 0, 1) := by decide +kernel
theorem dX4_addLake_64 : decode cX4_addLake 64 = .ok (.getfield 11, 3) := by decide +kernel
theorem dX4_addLake_67 : decode cX4_addLake 67 = .ok (.aload_n 0, 1) := by decide +kernel
theorem dX4_addLake_68 : decode cX4_addLake 68 = .ok (.getfield 22, 3) := by decide +kernel
theorem dX4_addLake_71 : decode cX4_addLake 71 = .ok (.aaload, 1) := by decide +kernel
theorem dX4_addLake_72 : decode cX4_addLake 72 = .ok (.astore 5, 2) := by decide +kernel
theorem dX4_addLake_74 : decode cX4_addLake 74 = .ok (.aload 5, 2) := by decide +kernel
theorem dX4_addLake_76 : decode cX4_addLake 76 = .ok (.iload_n 1, 1) := by decide +kernel
theorem dX4_addLake_77 : decode cX4_addLake 77 = .ok (.putfield 28, 3) := by decide +kernel
theorem dX4_addLake_80 : decode cX4_addLake 80 = .ok (.aload 5, 2) := by decide +kernel
theorem dX4_addLake_82 : decode cX4_addLake 82 = .ok (.iload_n 2, 1) := by decide +kernel
theorem dX4_addLake_83 : decode cX4_addLake 83 = .ok (.putfield 31, 3) := by decide +kernel
theorem dX4_addLake_86 : decode cX4_addLake 86 = .ok (.aload 5, 2) := by decide +kernel
theorem dX4_addLake_88 : decode cX4_addLake 88 = .ok (.iload_n 3, 1) := by decide +kernel
theorem dX4_addLake_89 : decode cX4_addLake 89 = .ok (.putfield 34, 3) := by decide +kernel
theorem dX4_addLake_92 : decode cX4_addLake 92 = .ok (.aload 5, 2) := by decide +kernel
theorem dX4_addLake_94 : decode cX4_addLake 94 = .ok (.iload 4, 2) := by decide +kernel
theorem dX4_addLake_96 : decode cX4_addLake 96 = .ok (.putfield 37, 3) := by decide +kernel
theorem dX4_addLake_99 : decode cX4_addLake 99 = .ok (.aload_n 0, 1) := by decide +kernel
theorem dX4_addLake_100 : decode cX4_addLake 100 = .ok (.dup, 1) := by decide +kernel
theorem dX4_addLake_101 : decode cX4_addLake 101 = .ok (.getfield 22, 3) := by decide +kernel
theorem dX4_addLake_104 : decode cX4_addLake 104 = .ok (.iconst 1, 1) := by decide +kernel
theorem dX4_addLake_105 : decode cX4_addLake 105 = .ok (.iadd, 1) := by decide +kernel
theorem dX4_addLake_106 : decode cX4_addLake 106 = .ok (.putfield 22, 3) := by decide +kernel
theorem dX4_addLake_109 : decode cX4_addLake 109 = .ok (.aload_n 0, 1) := by decide +kernel
theorem dX4_addLake_110 : decode cX4_addLake 110 = .ok (.getfield 22, 3) := by decide +kernel
theorem dX4_addLake_113 : decode cX4_addLake 113 = .ok (.iconst 1, 1) := by decide +kernel
theorem dX4_addLake_114 : decode cX4_addLake 114 = .ok (.isub, 1) := by decide +kernel
theorem dX4_addLake_115 : decode cX4_addLake 115 = .ok (.ireturn, 1) := by decide +kernel
theorem dX4_lakeAt_0 : decode cX4_lakeAt 0 = .ok (.iload_n 1, 1) := by decide +kernel
theorem dX4_lakeAt_1 : decode cX4_lakeAt 1 = .ok (.ifCond .lt 29, 3) := by decide +kernel
theorem dX4_lakeAt_4 : decode cX4_lakeAt 4 = .ok (.iload_n 1, 1) := by decide +kernel
theorem dX4_lakeAt_5 : decode cX4_lakeAt 5 = .ok (.aload_n 0, 1) := by decide +kernel
theorem dX4_lakeAt_6 : decode cX4_lakeAt 6 = .ok (.getfield 22, 3) := by decide +kernel
theorem dX4_lakeAt_9 : decode cX4_lakeAt 9 = .ok (.if_icmp .ge 21, 3) := by decide +kernel
theorem dX4_lakeAt_12 : decode cX4_lakeAt 12 = .ok (.iload_n 1, 1) := by decide +kernel
theorem dX4_lakeAt_13 : decode cX4_lakeAt 13 = .ok (.aload_n 0, 1) := by decide +kernel
theorem dX4_lakeAt_14 : decode cX4_lakeAt 14 = .ok (.getfield 11, 3) := by decide +kernel
theorem dX4_lakeAt_17 : decode cX4_lakeAt 17 = .ok (.arraylength, 1) := by decide +kernel
theorem dX4_lakeAt_18 : decode cX4_lakeAt 18 = .ok (.if_icmp .ge 12, 3) := by decide +kernel
theorem dX4_lakeAt_21 : decode cX4_lakeAt 21 = .ok (.aload_n 0, 1) := by decide +kernel
theorem dX4_lakeAt_22 : decode cX4_lakeAt 22 = .ok (.getfield 11, 3) := by decide +kernel
theorem dX4_lakeAt_25 : decode cX4_lakeAt 25 = .ok (.iload_n 1, 1) := by decide +kernel
theorem dX4_lakeAt_26 : decode cX4_lakeAt 26 = .ok (.aaload, 1) := by decide +kernel
theorem dX4_lakeAt_27 : decode cX4_lakeAt 27 = .ok (.goto 4, 3) := by decide +kernel
theorem dX4_lakeAt_30 : decode cX4_lakeAt 30 = .ok (.aconst_null, 1) := by decide +kernel
theorem dX4_lakeAt_31 : decode cX4_lakeAt 31 = .ok (.areturn, 1) := by decide +kernel
theorem dX4_hasState_0 : decode cX4_hasState 0 = .ok (.iload_n 1, 1) := by decide +kernel
theorem dX4_hasState_1 : decode cX4_hasState 1 = .ok (.ifCond .lt 15, 3) := by decide +kernel
theorem dX4_hasState_4 : decode cX4_hasState 4 = .ok (.iload_n 1, 1) := by decide +kernel
theorem dX4_hasState_5 : decode cX4_hasState 5 = .ok (.aload_n 0, 1) := by decide +kernel
theorem dX4_hasState_6 : decode cX4_hasState 6 = .ok (.getfield 17, 3) := by decide +kernel
theorem dX4_hasState_9 : decode cX4_hasState 9 = .ok (.if_icmp .ge 7, 3) := by decide +kernel
theorem dX4_hasState_12 : decode cX4_hasState 12 = .ok (.iconst 1, 1) := by decide +kernel
theorem dX4_hasState_13 : decode cX4_hasState 13 = .ok (.goto 4, 3) := by decide +kernel
theorem dX4_hasState_16 : decode cX4_hasState 16 = .ok (.iconst 0, 1) := by decide +kernel
theorem dX4_hasState_17 : decode cX4_hasState 17 = .ok (.ireturn, 1) := by decide +kernel
theorem dX4_measureOf_0 : decode cX4_measureOf 0 = .ok (.iload_n 2, 1) := by decide +kernel
theorem dX4_measureOf_1 : decode cX4_measureOf 1 = .ok (.ifCond .lt 12, 3) := by decide +kernel
theorem dX4_measureOf_4 : decode cX4_measureOf 4 = .ok (.iload_n 2, 1) := by decide +kernel
theorem dX4_measureOf_5 : decode cX4_measureOf 5 = .ok (.aload_n 0, 1) := by decide +kernel
theorem dX4_measureOf_6 : decode cX4_measureOf 6 = .ok (.getfield 11, 3) := by decide +kernel
theorem dX4_measureOf_9 : decode cX4_measureOf 9 = .ok (.arraylength, 1) := by decide +kernel
theorem dX4_measureOf_10 : decode cX4_measureOf 10 = .ok (.if_icmp .lt 5, 3) := by decide +kernel
theorem dX4_measureOf_13 : decode cX4_measureOf 13 = .ok (.iconst 0, 1) := by decide +kernel
theorem dX4_measureOf_14 : decode cX4_measureOf 14 = .ok (.ireturn, 1) := by decide +kernel
theorem dX4_measureOf_15 : decode cX4_measureOf 15 = .ok (.aload_n 0, 1) := by decide +kernel
theorem dX4_measureOf_16 : decode cX4_measureOf 16 = .ok (.getfield 11, 3) := by decide +kernel
theorem dX4_measureOf_19 : decode cX4_measureOf 19 = .ok (.iload_n 2, 1) := by decide +kernel
theorem dX4_measureOf_20 : decode cX4_measureOf 20 = .ok (.aaload, 1) := by decide +kernel
theorem dX4_measureOf_21 : decode cX4_measureOf 21 = .ok (.getfield 25, 3) := by decide +kernel
theorem dX4_measureOf_24 : decode cX4_measureOf 24 = .ok (.istore_n 3, 1) := by decide +kernel
theorem dX4_measureOf_25 : decode cX4_measureOf 25 = .ok (.aload_n 0, 1) := by decide +kernel
theorem dX4_measureOf_26 : decode cX4_measureOf 26 = .ok (.getfield 11, 3) := by decide +kernel
theorem dX4_measureOf_29 : decode cX4_measureOf 29 = .ok (.iload_n 2, 1) := by decide +kernel
theorem dX4_measureOf_30 : decode cX4_measureOf 30 = .ok (.aaload, 1) := by decide +kernel
theorem dX4_measureOf_31 : decode cX4_measureOf 31 = .ok (.getfield 31, 3) := by decide +kernel
theorem dX4_measureOf_34 : decode cX4_measureOf 34 = .ok (.iconst 1, 1) := by decide +kernel
theorem dX4_measureOf_35 : decode cX4_measureOf 35 = .ok (.iadd, 1) := by decide +kernel
theorem dX4_measureOf_36 : decode cX4_measureOf 36 = .ok (.istore 4, 2) := by decide +kernel
theorem dX4_measureOf_38 : decode cX4_measureOf 38 = .ok (.iload_n 3, 1) := by decide +kernel
theorem dX4_measureOf_39 : decode cX4_measureOf 39 = .ok (.iconst 1, 1) := by decide +kernel
theorem dX4_measureOf_40 : decode cX4_measureOf 40 = .ok (.if_icmp .lt 9, 3) := by decide +kernel
theorem dX4_measureOf_43 : decode cX4_measureOf 43 = .ok (.iload 4, 2) := by decide +kernel
theorem dX4_measureOf_45 : decode cX4_measureOf 45 = .ok (.iconst 1, 1) := by decide +kernel
theorem dX4_measureOf_46 : decode cX4_measureOf 46 = .ok (.if_icmp .ge 7, 3) := by decide +kernel
theorem dX4_measureOf_49 : decode cX4_measureOf 49 = .ok (.iconst 0, 1) := by decide +kernel
theorem dX4_measureOf_50 : decode cX4_measureOf 50 = .ok (.goto 9, 3) := by decide +kernel
theorem dX4_measureOf_53 : decode cX4_measureOf 53 = .ok (.iload_n 1, 1) := by decide +kernel
theorem dX4_measureOf_54 : decode cX4_measureOf 54 = .ok (.iload_n 3, 1) := by decide +kernel
theorem dX4_measureOf_55 : decode cX4_measureOf 55 = .ok (.idiv, 1) := by decide +kernel
theorem dX4_measureOf_56 : decode cX4_measureOf 56 = .ok (.iload 4, 2) := by decide +kernel
theorem dX4_measureOf_58 : decode cX4_measureOf 58 = .ok (.irem, 1) := by decide +kernel
theorem dX4_measureOf_59 : decode cX4_measureOf 59 = .ok (.ireturn, 1) := by decide +kernel
theorem dX4_sumOf_0 : decode cX4_sumOf 0 = .ok (.iconst 0, 1) := by decide +kernel
theorem dX4_sumOf_1 : decode cX4_sumOf 1 = .ok (.istore_n 2, 1) := by decide +kernel
theorem dX4_sumOf_2 : decode cX4_sumOf 2 = .ok (.iconst 0, 1) := by decide +kernel
theorem dX4_sumOf_3 : decode cX4_sumOf 3 = .ok (.istore_n 3, 1) := by decide +kernel
theorem dX4_sumOf_4 : decode cX4_sumOf 4 = .ok (.iload_n 3, 1) := by decide +kernel
theorem dX4_sumOf_5 : decode cX4_sumOf 5 = .ok (.aload_n 0, 1) := by decide +kernel
theorem dX4_sumOf_6 : decode cX4_sumOf 6 = .ok (.getfield 22, 3) := by decide +kernel
theorem dX4_sumOf_9 : decode cX4_sumOf 9 = .ok (.if_icmp .ge 18, 3) := by decide +kernel
theorem dX4_sumOf_12 : decode cX4_sumOf 12 = .ok (.iload_n 2, 1) := by decide +kernel
theorem dX4_sumOf_13 : decode cX4_sumOf 13 = .ok (.aload_n 0, 1) := by decide +kernel
theorem dX4_sumOf_14 : decode cX4_sumOf 14 = .ok (.iload_n 1, 1) := by decide +kernel
theorem dX4_sumOf_15 : decode cX4_sumOf 15 = .ok (.iload_n 3, 1) := by decide +kernel
theorem dX4_sumOf_16 : decode cX4_sumOf 16 = .ok (.invokevirtual 40, 3) := by decide +kernel
theorem dX4_sumOf_19 : decode cX4_sumOf 19 = .ok (.iadd, 1) := by decide +kernel
theorem dX4_sumOf_20 : decode cX4_sumOf 20 = .ok (.istore_n 2, 1) := by decide +kernel
theorem dX4_sumOf_21 : decode cX4_sumOf 21 = .ok (.iinc 3 1, 3) := by decide +kernel
theorem dX4_sumOf_24 : decode cX4_sumOf 24 = .ok (.goto (-20), 3) := by decide +kernel
theorem dX4_sumOf_27 : decode cX4_sumOf 27 = .ok (.iload_n 2, 1) := by decide +kernel
theorem dX4_sumOf_28 : decode cX4_sumOf 28 = .ok (.ireturn, 1) := by decide +kernel
theorem dX4_endWorth_0 : decode cX4_endWorth 0 = .ok (.lconst 0, 1) := by decide +kernel
theorem dX4_endWorth_1 : decode cX4_endWorth 1 = .ok (.lstore_n 2, 1) := by decide +kernel
theorem dX4_endWorth_2 : decode cX4_endWorth 2 = .ok (.iconst 0, 1) := by decide +kernel
theorem dX4_endWorth_3 : decode cX4_endWorth 3 = .ok (.istore 4, 2) := by decide +kernel
theorem dX4_endWorth_5 : decode cX4_endWorth 5 = .ok (.iload 4, 2) := by decide +kernel
theorem dX4_endWorth_7 : decode cX4_endWorth 7 = .ok (.aload_n 0, 1) := by decide +kernel
theorem dX4_endWorth_8 : decode cX4_endWorth 8 = .ok (.getfield 22, 3) := by decide +kernel
theorem dX4_endWorth_11 : decode cX4_endWorth 11 = .ok (.if_icmp .ge 32, 3) := by decide +kernel
theorem dX4_endWorth_14 : decode cX4_endWorth 14 = .ok (.lload_n 2, 1) := by decide +kernel
theorem dX4_endWorth_15 : decode cX4_endWorth 15 = .ok (.aload_n 0, 1) := by decide +kernel
theorem dX4_endWorth_16 : decode cX4_endWorth 16 = .ok (.getfield 11, 3) := by decide +kernel
theorem dX4_endWorth_19 : decode cX4_endWorth 19 = .ok (.iload 4, 2) := by decide +kernel
theorem dX4_endWorth_21 : decode cX4_endWorth 21 = .ok (.aaload, 1) := by decide +kernel
theorem dX4_endWorth_22 : decode cX4_endWorth 22 = .ok (.getfield 44, 3) := by decide +kernel
