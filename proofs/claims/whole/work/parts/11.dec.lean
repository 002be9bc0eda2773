theorem dX4_endWorth_25 : decode cX4_endWorth 25 = .ok (.i2l, 1) := by decide +kernel
theorem dX4_endWorth_26 : decode cX4_endWorth 26 = .ok (.aload_n 0, 1) := by decide +kernel
theorem dX4_endWorth_27 : decode cX4_endWorth 27 = .ok (.iload_n 1, 1) := by decide +kernel
theorem dX4_endWorth_28 : decode cX4_endWorth 28 = .ok (.iload 4, 2) := by decide +kernel
theorem dX4_endWorth_30 : decode cX4_endWorth 30 = .ok (.invokevirtual 40, 3) := by decide +kernel
theorem dX4_endWorth_33 : decode cX4_endWorth 33 = .ok (.i2l, 1) := by decide +kernel
theorem dX4_endWorth_34 : decode cX4_endWorth 34 = .ok (.lmul, 1) := by decide +kernel
theorem dX4_endWorth_35 : decode cX4_endWorth 35 = .ok (.ladd, 1) := by decide +kernel
theorem dX4_endWorth_36 : decode cX4_endWorth 36 = .ok (.lstore_n 2, 1) := by decide +kernel
theorem dX4_endWorth_37 : decode cX4_endWorth 37 = .ok (.iinc 4 1, 3) := by decide +kernel
theorem dX4_endWorth_40 : decode cX4_endWorth 40 = .ok (.goto (-35), 3) := by decide +kernel
theorem dX4_endWorth_43 : decode cX4_endWorth 43 = .ok (.lload_n 2, 1) := by decide +kernel
theorem dX4_endWorth_44 : decode cX4_endWorth 44 = .ok (.lreturn, 1) := by decide +kernel
theorem dX4_isBelowLeast_0 : decode cX4_isBelowLeast 0 = .ok (.iconst 0, 1) := by decide +kernel
theorem dX4_isBelowLeast_1 : decode cX4_isBelowLeast 1 = .ok (.istore_n 2, 1) := by decide +kernel
theorem dX4_isBelowLeast_2 : decode cX4_isBelowLeast 2 = .ok (.iload_n 2, 1) := by decide +kernel
theorem dX4_isBelowLeast_3 : decode cX4_isBelowLeast 3 = .ok (.aload_n 0, 1) := by decide +kernel
theorem dX4_isBelowLeast_4 : decode cX4_isBelowLeast 4 = .ok (.getfield 22, 3) := by decide +kernel
theorem dX4_isBelowLeast_7 : decode cX4_isBelowLeast 7 = .ok (.if_icmp .ge 29, 3) := by decide +kernel
theorem dX4_isBelowLeast_10 : decode cX4_isBelowLeast 10 = .ok (.aload_n 0, 1) := by decide +kernel
theorem dX4_isBelowLeast_11 : decode cX4_isBelowLeast 11 = .ok (.iload_n 1, 1) := by decide +kernel
theorem dX4_isBelowLeast_12 : decode cX4_isBelowLeast 12 = .ok (.iload_n 2, 1) := by decide +kernel
theorem dX4_isBelowLeast_13 : decode cX4_isBelowLeast 13 = .ok (.invokevirtual 40, 3) := by decide +kernel
theorem dX4_isBelowLeast_16 : decode cX4_isBelowLeast 16 = .ok (.aload_n 0, 1) := by decide +kernel
theorem dX4_isBelowLeast_17 : decode cX4_isBelowLeast 17 = .ok (.getfield 11, 3) := by decide +kernel
theorem dX4_isBelowLeast_20 : decode cX4_isBelowLeast 20 = .ok (.iload_n 2, 1) := by decide +kernel
theorem dX4_isBelowLeast_21 : decode cX4_isBelowLeast 21 = .ok (.aaload, 1) := by decide +kernel
theorem dX4_isBelowLeast_22 : decode cX4_isBelowLeast 22 = .ok (.getfield 28, 3) := by decide +kernel
theorem dX4_isBelowLeast_25 : decode cX4_isBelowLeast 25 = .ok (.if_icmp .ge 5, 3) := by decide +kernel
theorem dX4_isBelowLeast_28 : decode cX4_isBelowLeast 28 = .ok (.iconst 1, 1) := by decide +kernel
theorem dX4_isBelowLeast_29 : decode cX4_isBelowLeast 29 = .ok (.ireturn, 1) := by decide +kernel
theorem dX4_isBelowLeast_30 : decode cX4_isBelowLeast 30 = .ok (.iinc 2 1, 3) := by decide +kernel
theorem dX4_isBelowLeast_33 : decode cX4_isBelowLeast 33 = .ok (.goto (-31), 3) := by decide +kernel
theorem dX4_isBelowLeast_36 : decode cX4_isBelowLeast 36 = .ok (.iconst 0, 1) := by decide +kernel
theorem dX4_isBelowLeast_37 : decode cX4_isBelowLeast 37 = .ok (.ireturn, 1) := by decide +kernel
theorem dX4_mostIn_0 : decode cX4_mostIn 0 = .ok (.iconst 1, 1) := by decide +kernel
theorem dX4_mostIn_1 : decode cX4_mostIn 1 = .ok (.istore_n 1, 1) := by decide +kernel
theorem dX4_mostIn_2 : decode cX4_mostIn 2 = .ok (.iconst 0, 1) := by decide +kernel
theorem dX4_mostIn_3 : decode cX4_mostIn 3 = .ok (.istore_n 2, 1) := by decide +kernel
theorem dX4_mostIn_4 : decode cX4_mostIn 4 = .ok (.iload_n 2, 1) := by decide +kernel
theorem dX4_mostIn_5 : decode cX4_mostIn 5 = .ok (.aload_n 0, 1) := by decide +kernel
theorem dX4_mostIn_6 : decode cX4_mostIn 6 = .ok (.getfield 22, 3) := by decide +kernel
theorem dX4_mostIn_9 : decode cX4_mostIn 9 = .ok (.if_icmp .ge 14, 3) := by decide +kernel
theorem dX4_mostIn_12 : decode cX4_mostIn 12 = .ok (.iload_n 1, 1) := by decide +kernel
theorem dX4_mostIn_13 : decode cX4_mostIn 13 = .ok (.bipush 10, 2) := by decide +kernel
theorem dX4_mostIn_15 : decode cX4_mostIn 15 = .ok (.imul, 1) := by decide +kernel
theorem dX4_mostIn_16 : decode cX4_mostIn 16 = .ok (.istore_n 1, 1) := by decide +kernel
theorem dX4_mostIn_17 : decode cX4_mostIn 17 = .ok (.iinc 2 1, 3) := by decide +kernel
theorem dX4_mostIn_20 : decode cX4_mostIn 20 = .ok (.goto (-16), 3) := by decide +kernel
theorem dX4_mostIn_23 : decode cX4_mostIn 23 = .ok (.iload_n 1, 1) := by decide +kernel
theorem dX4_mostIn_24 : decode cX4_mostIn 24 = .ok (.iconst 1, 1) := by decide +kernel
theorem dX4_mostIn_25 : decode cX4_mostIn 25 = .ok (.isub, 1) := by decide +kernel
theorem dX4_mostIn_26 : decode cX4_mostIn 26 = .ok (.ireturn, 1) := by decide +kernel
theorem dX4_tellIn_0 : decode cX4_tellIn 0 = .ok (.iload_n 1, 1) := by decide +kernel
theorem dX4_tellIn_1 : decode cX4_tellIn 1 = .ok (.istore_n 3, 1) := by decide +kernel
theorem dX4_tellIn_2 : decode cX4_tellIn 2 = .ok (.aload_n 2, 1) := by decide +kernel
theorem dX4_tellIn_3 : decode cX4_tellIn 3 = .ok (.arraylength, 1) := by decide +kernel
theorem dX4_tellIn_4 : decode cX4_tellIn 4 = .ok (.iconst 1, 1) := by decide +kernel
theorem dX4_tellIn_5 : decode cX4_tellIn 5 = .ok (.isub, 1) := by decide +kernel
theorem dX4_tellIn_6 : decode cX4_tellIn 6 = .ok (.istore 4, 2) := by decide +kernel
theorem dX4_tellIn_8 : decode cX4_tellIn 8 = .ok (.iload 4, 2) := by decide +kernel
theorem dX4_tellIn_10 : decode cX4_tellIn 10 = .ok (.ifCond .lt 44, 3) := by decide +kernel
theorem dX4_tellIn_13 : decode cX4_tellIn 13 = .ok (.aload_n 2, 1) := by decide +kernel
theorem dX4_tellIn_14 : decode cX4_tellIn 14 = .ok (.iload 4, 2) := by decide +kernel
theorem dX4_tellIn_16 : decode cX4_tellIn 16 = .ok (.iload 4, 2) := by decide +kernel
theorem dX4_tellIn_18 : decode cX4_tellIn 18 = .ok (.aload_n 0, 1) := by decide +kernel
theorem dX4_tellIn_19 : decode cX4_tellIn 19 = .ok (.getfield 22, 3) := by decide +kernel
theorem dX4_tellIn_22 : decode cX4_tellIn 22 = .ok (.if_icmp .ge 10, 3) := by decide +kernel
theorem dX4_tellIn_25 : decode cX4_tellIn 25 = .ok (.iload_n 3, 1) := by decide +kernel
theorem dX4_tellIn_26 : decode cX4_tellIn 26 = .ok (.bipush 10, 2) := by decide +kernel
theorem dX4_tellIn_28 : decode cX4_tellIn 28 = .ok (.irem, 1) := by decide +kernel
theorem dX4_tellIn_29 : decode cX4_tellIn 29 = .ok (.goto 4, 3) := by decide +kernel
theorem dX4_tellIn_32 : decode cX4_tellIn 32 = .ok (.iconst 0, 1) := by decide +kernel
theorem dX4_tellIn_33 : decode cX4_tellIn 33 = .ok (.iastore, 1) := by decide +kernel
theorem dX4_tellIn_34 : decode cX4_tellIn 34 = .ok (.iload 4, 2) := by decide +kernel
theorem dX4_tellIn_36 : decode cX4_tellIn 36 = .ok (.aload_n 0, 1) := by decide +kernel
theorem dX4_tellIn_37 : decode cX4_tellIn 37 = .ok (.getfield 22, 3) := by decide +kernel
theorem dX4_tellIn_40 : decode cX4_tellIn 40 = .ok (.if_icmp .ge 8, 3) := by decide +kernel
theorem dX4_tellIn_43 : decode cX4_tellIn 43 = .ok (.iload_n 3, 1) := by decide +kernel
theorem dX4_tellIn_44 : decode cX4_tellIn 44 = .ok (.bipush 10, 2) := by decide +kernel
theorem dX4_tellIn_46 : decode cX4_tellIn 46 = .ok (.idiv, 1) := by decide +kernel
theorem dX4_tellIn_47 : decode cX4_tellIn 47 = .ok (.istore_n 3, 1) := by decide +kernel
theorem dX4_tellIn_48 : decode cX4_tellIn 48 = .ok (.iinc 4 (-1), 3) := by decide +kernel
theorem dX4_tellIn_51 : decode cX4_tellIn 51 = .ok (.goto (-43), 3) := by decide +kernel
theorem dX4_tellIn_54 : decode cX4_tellIn 54 = .ok (.return_, 1) := by decide +kernel
theorem dX4_mostLets_0 : decode cX4_mostLets 0 = .ok (.iconst 1, 1) := by decide +kernel
theorem dX4_mostLets_1 : decode cX4_mostLets 1 = .ok (.iconst 4, 1) := by decide +kernel
theorem dX4_mostLets_2 : decode cX4_mostLets 2 = .ok (.aload_n 0, 1) := by decide +kernel
theorem dX4_mostLets_3 : decode cX4_mostLets 3 = .ok (.getfield 22, 3) := by decide +kernel
theorem dX4_mostLets_6 : decode cX4_mostLets 6 = .ok (.imul, 1) := by decide +kernel
theorem dX4_mostLets_7 : decode cX4_mostLets 7 = .ok (.ishl, 1) := by decide +kernel
theorem dX4_mostLets_8 : decode cX4_mostLets 8 = .ok (.iconst 1, 1) := by decide +kernel
theorem dX4_mostLets_9 : decode cX4_mostLets 9 = .ok (.isub, 1) := by decide +kernel
theorem dX4_mostLets_10 : decode cX4_mostLets 10 = .ok (.ireturn, 1) := by decide +kernel
theorem dX4_allLets_0 : decode cX4_allLets 0 = .ok (.iload_n 1, 1) := by decide +kernel
theorem dX4_allLets_1 : decode cX4_allLets 1 = .ok (.iconst 4, 1) := by decide +kernel
theorem dX4_allLets_2 : decode cX4_allLets 2 = .ok (.iconst 3, 1) := by decide +kernel
theorem dX4_allLets_3 : decode cX4_allLets 3 = .ok (.aload_n 0, 1) := by decide +kernel
theorem dX4_allLets_4 : decode cX4_allLets 4 = .ok (.getfield 22, 3) := by decide +kernel
theorem dX4_allLets_7 : decode cX4_allLets 7 = .ok (.isub, 1) := by decide +kernel
theorem dX4_allLets_8 : decode cX4_allLets 8 = .ok (.imul, 1) := by decide +kernel
theorem dX4_allLets_9 : decode cX4_allLets 9 = .ok (.ishl, 1) := by decide +kernel
theorem dX4_allLets_10 : decode cX4_allLets 10 = .ok (.ireturn, 1) := by decide +kernel
theorem dX4_letOf_0 : decode cX4_letOf 0 = .ok (.iload_n 1, 1) := by decide +kernel
theorem dX4_letOf_1 : decode cX4_letOf 1 = .ok (.ifCond .lt 8, 3) := by decide +kernel
theorem dX4_letOf_4 : decode cX4_letOf 4 = .ok (.iload_n 1, 1) := by decide +kernel
theorem dX4_letOf_5 : decode cX4_letOf 5 = .ok (.iconst 3, 1) := by decide +kernel
theorem dX4_letOf_6 : decode cX4_letOf 6 = .ok (.if_icmp .lt 7, 3) := by decide +kernel
theorem dX4_letOf_9 : decode cX4_letOf 9 = .ok (.iconst 0, 1) := by decide +kernel
theorem dX4_letOf_10 : decode cX4_letOf 10 = .ok (.goto 13, 3) := by decide +kernel
theorem dX4_letOf_13 : decode cX4_letOf 13 = .ok (.iload_n 0, 1) := by decide +kernel
theorem dX4_letOf_14 : decode cX4_letOf 14 = .ok (.iconst 4, 1) := by decide +kernel
theorem dX4_letOf_15 : decode cX4_letOf 15 = .ok (.iconst 2, 1) := by decide +kernel
theorem dX4_letOf_16 : decode cX4_letOf 16 = .ok (.iload_n 1, 1) := by decide +kernel
theorem dX4_letOf_17 : decode cX4_letOf 17 = .ok (.isub, 1) := by decide +kernel
theorem dX4_letOf_18 : decode cX4_letOf 18 = .ok (.imul, 1) := by decide +kernel
theorem dX4_letOf_19 : decode cX4_letOf 19 = .ok (.ishr, 1) := by decide +kernel
theorem dX4_letOf_20 : decode cX4_letOf 20 = .ok (.bipush 15, 2) := by decide +kernel
theorem dX4_letOf_22 : decode cX4_letOf 22 = .ok (.iand, 1) := by decide +kernel
theorem dX4_letOf_23 : decode cX4_letOf 23 = .ok (.ireturn, 1) := by decide +kernel
theorem dX4_mayLet_0 : decode cX4_mayLet 0 = .ok (.iconst 0, 1) := by decide +kernel
theorem dX4_mayLet_1 : decode cX4_mayLet 1 = .ok (.istore_n 3, 1) := by decide +kernel
theorem dX4_mayLet_2 : decode cX4_mayLet 2 = .ok (.iload_n 3, 1) := by decide +kernel
theorem dX4_mayLet_3 : decode cX4_mayLet 3 = .ok (.aload_n 0, 1) := by decide +kernel
theorem dX4_mayLet_4 : decode cX4_mayLet 4 = .ok (.getfield 22, 3) := by decide +kernel
theorem dX4_mayLet_7 : decode cX4_mayLet 7 = .ok (.if_icmp .ge 58, 3) := by decide +kernel
theorem dX4_mayLet_10 : decode cX4_mayLet 10 = .ok (.aload_n 0, 1) := by decide +kernel
theorem dX4_mayLet_11 : decode cX4_mayLet 11 = .ok (.iload_n 1, 1) := by decide +kernel
theorem dX4_mayLet_12 : decode cX4_mayLet 12 = .ok (.iload_n 3, 1) := by decide +kernel
theorem dX4_mayLet_13 : decode cX4_mayLet 13 = .ok (.invokevirtual 40, 3) := by decide +kernel
theorem dX4_mayLet_16 : decode cX4_mayLet 16 = .ok (.istore 4, 2) := by decide +kernel
theorem dX4_mayLet_18 : decode cX4_mayLet 18 = .ok (.iload_n 2, 1) := by decide +kernel
theorem dX4_mayLet_19 : decode cX4_mayLet 19 = .ok (.iload_n 3, 1) := by decide +kernel
theorem dX4_mayLet_20 : decode cX4_mayLet 20 = .ok (.invokestatic 47, 3) := by decide +kernel
theorem dX4_mayLet_23 : decode cX4_mayLet 23 = .ok (.istore 5, 2) := by decide +kernel
theorem dX4_mayLet_25 : decode cX4_mayLet 25 = .ok (.iload 5, 2) := by decide +kernel
theorem dX4_mayLet_27 : decode cX4_mayLet 27 = .ok (.aload_n 0, 1) := by decide +kernel
theorem dX4_mayLet_28 : decode cX4_mayLet 28 = .ok (.getfield 11, 3) := by decide +kernel
theorem dX4_mayLet_31 : decode cX4_mayLet 31 = .ok (.iload_n 3, 1) := by decide +kernel
theorem dX4_mayLet_32 : decode cX4_mayLet 32 = .ok (.aaload, 1) := by decide +kernel
theorem dX4_mayLet_33 : decode cX4_mayLet 33 = .ok (.iload 4, 2) := by decide +kernel
theorem dX4_mayLet_35 : decode cX4_mayLet 35 = .ok (.invokevirtual 50, 3) := by decide +kernel
theorem dX4_mayLet_38 : decode cX4_mayLet 38 = .ok (.if_icmp .lt 19, 3) := by decide +kernel
theorem dX4_mayLet_41 : decode cX4_mayLet 41 = .ok (.iload 5, 2) := by decide +kernel
theorem dX4_mayLet_43 : decode cX4_mayLet 43 = .ok (.aload_n 0, 1) := by decide +kernel
theorem dX4_mayLet_44 : decode cX4_mayLet 44 = .ok (.getfield 11, 3) := by decide +kernel
theorem dX4_mayLet_47 : decode cX4_mayLet 47 = .ok (.iload_n 3, 1) := by decide +kernel
theorem dX4_mayLet_48 : decode cX4_mayLet 48 = .ok (.aaload, 1) := by decide +kernel
theorem dX4_mayLet_49 : decode cX4_mayLet 49 = .ok (.iload 4, 2) := by decide +kernel
theorem dX4_mayLet_51 : decode cX4_mayLet 51 = .ok (.invokevirtual 54, 3) := by decide +kernel
theorem dX4_mayLet_54 : decode cX4_mayLet 54 = .ok (.if_icmp .le 5, 3) := by decide +kernel
theorem dX4_mayLet_57 : decode cX4_mayLet 57 = .ok (.iconst 0, 1) := by decide +kernel
theorem dX4_mayLet_58 : decode cX4_mayLet 58 = .ok (.ireturn, 1) := by decide +kernel
theorem dX4_mayLet_59 : decode cX4_mayLet 59 = .ok (.iinc 3 1, 3) := by decide +kernel
theorem dX4_mayLet_62 : decode cX4_mayLet 62 = .ok (.goto (-60), 3) := by decide +kernel
theorem dX4_mayLet_65 : decode cX4_mayLet 65 = .ok (.iconst 1, 1) := by decide +kernel
theorem dX4_mayLet_66 : decode cX4_mayLet 66 = .ok (.ireturn, 1) := by decide +kernel
theorem dX4_ruleLets_0 : decode cX4_ruleLets 0 = .ok (.iconst 0, 1) := by decide +kernel
theorem dX4_ruleLets_1 : decode cX4_ruleLets 1 = .ok (.istore_n 2, 1) := by decide +kernel
theorem dX4_ruleLets_2 : decode cX4_ruleLets 2 = .ok (.iconst 0, 1) := by decide +kernel
theorem dX4_ruleLets_3 : decode cX4_ruleLets 3 = .ok (.istore_n 3, 1) := by decide +kernel
theorem dX4_ruleLets_4 : decode cX4_ruleLets 4 = .ok (.iload_n 3, 1) := by decide +kernel
theorem dX4_ruleLets_5 : decode cX4_ruleLets 5 = .ok (.aload_n 0, 1) := by decide +kernel
theorem dX4_ruleLets_6 : decode cX4_ruleLets 6 = .ok (.getfield 11, 3) := by decide +kernel
theorem dX4_ruleLets_9 : decode cX4_ruleLets 9 = .ok (.arraylength, 1) := by decide +kernel
theorem dX4_ruleLets_10 : decode cX4_ruleLets 10 = .ok (.if_icmp .ge 29, 3) := by decide +kernel
theorem dX4_ruleLets_13 : decode cX4_ruleLets 13 = .ok (.iload_n 2, 1) := by decide +kernel
theorem dX4_ruleLets_14 : decode cX4_ruleLets 14 = .ok (.iconst 4, 1) := by decide +kernel
theorem dX4_ruleLets_15 : decode cX4_ruleLets 15 = .ok (.ishl, 1) := by decide +kernel
theorem dX4_ruleLets_16 : decode cX4_ruleLets 16 = .ok (.aload_n 0, 1) := by decide +kernel
theorem dX4_ruleLets_17 : decode cX4_ruleLets 17 = .ok (.getfield 11, 3) := by decide +kernel
theorem dX4_ruleLets_20 : decode cX4_ruleLets 20 = .ok (.iload_n 3, 1) := by decide +kernel
theorem dX4_ruleLets_21 : decode cX4_ruleLets 21 = .ok (.aaload, 1) := by decide +kernel
theorem dX4_ruleLets_22 : decode cX4_ruleLets 22 = .ok (.aload_n 0, 1) := by decide +kernel
theorem dX4_ruleLets_23 : decode cX4_ruleLets 23 = .ok (.iload_n 1, 1) := by decide +kernel
theorem dX4_ruleLets_24 : decode cX4_ruleLets 24 = .ok (.iload_n 3, 1) := by decide +kernel
theorem dX4_ruleLets_25 : decode cX4_ruleLets 25 = .ok (.invokevirtual 40, 3) := by decide +kernel
theorem dX4_ruleLets_28 : decode cX4_ruleLets 28 = .ok (.invokevirtual 57, 3) := by decide +kernel
theorem dX4_ruleLets_31 : decode cX4_ruleLets 31 = .ok (.ior, 1) := by decide +kernel
theorem dX4_ruleLets_32 : decode cX4_ruleLets 32 = .ok (.istore_n 2, 1) := by decide +kernel
theorem dX4_ruleLets_33 : decode cX4_ruleLets 33 = .ok (.iinc 3 1, 3) := by decide +kernel
theorem dX4_ruleLets_36 : decode cX4_ruleLets 36 = .ok (.goto (-32), 3) := by decide +kernel
theorem dX4_ruleLets_39 : decode cX4_ruleLets 39 = .ok (.iload_n 2, 1) := by decide +kernel
theorem dX4_ruleLets_40 : decode cX4_ruleLets 40 = .ok (.ireturn, 1) := by decide +kernel
theorem dX4_headsTimesLets_0 : decode cX4_headsTimesLets 0 = .ok (.iconst 0, 1) := by decide +kernel
theorem dX4_headsTimesLets_1 : decode cX4_headsTimesLets 1 = .ok (.istore_n 3, 1) := by decide +kernel
theorem dX4_headsTimesLets_2 : decode cX4_headsTimesLets 2 = .ok (.iconst 0, 1) := by decide +kernel
theorem dX4_headsTimesLets_3 : decode cX4_headsTimesLets 3 = .ok (.istore 4, 2) := by decide +kernel
theorem dX4_headsTimesLets_5 : decode cX4_headsTimesLets 5 = .ok (.iload 4, 2) := by decide +kernel
theorem dX4_headsTimesLets_7 : decode cX4_headsTimesLets 7 = .ok (.aload_n 0, 1) := by decide +kernel
theorem dX4_headsTimesLets_8 : decode cX4_headsTimesLets 8 = .ok (.getfield 22, 3) := by decide +kernel
theorem dX4_headsTimesLets_11 : decode cX4_headsTimesLets 11 = .ok (.if_icmp .ge 36, 3) := by decide +kernel
theorem dX4_headsTimesLets_14 : decode cX4_headsTimesLets 14 = .ok (.iload_n 3, 1) := by decide +kernel
theorem dX4_headsTimesLets_15 : decode cX4_headsTimesLets 15 = .ok (.aload_n 0, 1) := by decide +kernel
theorem dX4_headsTimesLets_16 : decode cX4_headsTimesLets 16 = .ok (.getfield 11, 3) := by decide +kernel
theorem dX4_headsTimesLets_19 : decode cX4_headsTimesLets 19 = .ok (.iload 4, 2) := by decide +kernel
theorem dX4_headsTimesLets_21 : decode cX4_headsTimesLets 21 = .ok (.aaload, 1) := by decide +kernel
theorem dX4_headsTimesLets_22 : decode cX4_headsTimesLets 22 = .ok (.aload_n 0, 1) := by decide +kernel
theorem dX4_headsTimesLets_23 : decode cX4_headsTimesLets 23 = .ok (.iload_n 1, 1) := by decide +kernel
theorem dX4_headsTimesLets_24 : decode cX4_headsTimesLets 24 = .ok (.iload 4, 2) := by decide +kernel
theorem dX4_headsTimesLets_26 : decode cX4_headsTimesLets 26 = .ok (.invokevirtual 40, 3) := by decide +kernel
theorem dX4_headsTimesLets_29 : decode cX4_headsTimesLets 29 = .ok (.invokevirtual 60, 3) := by decide +kernel
theorem dX4_headsTimesLets_32 : decode cX4_headsTimesLets 32 = .ok (.iload_n 2, 1) := by decide +kernel
theorem dX4_headsTimesLets_33 : decode cX4_headsTimesLets 33 = .ok (.iload 4, 2) := by decide +kernel
theorem dX4_headsTimesLets_35 : decode cX4_headsTimesLets 35 = .ok (.invokestatic 47, 3) := by decide +kernel
theorem dX4_headsTimesLets_38 : decode cX4_headsTimesLets 38 = .ok (.imul, 1) := by decide +kernel
theorem dX4_headsTimesLets_39 : decode cX4_headsTimesLets 39 = .ok (.iadd, 1) := by decide +kernel
theorem dX4_headsTimesLets_40 : decode cX4_headsTimesLets 40 = .ok (.istore_n 3, 1) := by decide +kernel
theorem dX4_headsTimesLets_41 : decode cX4_headsTimesLets 41 = .ok (.iinc 4 1, 3) := by decide +kernel
theorem dX4_headsTimesLets_44 : decode cX4_headsTimesLets 44 = .ok (.goto (-39), 3) := by decide +kernel
theorem dX4_headsTimesLets_47 : decode cX4_headsTimesLets 47 = .ok (.iload_n 3, 1) := by decide +kernel
theorem dX4_headsTimesLets_48 : decode cX4_headsTimesLets 48 = .ok (.ireturn, 1) := by decide +kernel
theorem dX4_flow_0 : decode cX4_flow 0 = .ok (.iconst 0, 1) := by decide +kernel
theorem dX4_flow_1 : decode cX4_flow 1 = .ok (.istore 4, 2) := by decide +kernel
theorem dX4_flow_3 : decode cX4_flow 3 = .ok (.iconst 0, 1) := by decide +kernel
theorem dX4_flow_4 : decode cX4_flow 4 = .ok (.istore 5, 2) := by decide +kernel
theorem dX4_flow_6 : decode cX4_flow 6 = .ok (.iconst 0, 1) := by decide +kernel
theorem dX4_flow_7 : decode cX4_flow 7 = .ok (.istore 6, 2) := by decide +kernel
theorem dX4_flow_9 : decode cX4_flow 9 = .ok (.aload_n 0, 1) := by decide +kernel
theorem dX4_flow_10 : decode cX4_flow 10 = .ok (.iconst 0, 1) := by decide +kernel
theorem dX4_flow_11 : decode cX4_flow 11 = .ok (.putfield 63, 3) := by decide +kernel
theorem dX4_flow_14 : decode cX4_flow 14 = .ok (.iconst 0, 1) := by decide +kernel
theorem dX4_flow_15 : decode cX4_flow 15 = .ok (.istore 7, 2) := by decide +kernel
theorem dX4_flow_17 : decode cX4_flow 17 = .ok (.iload 7, 2) := by decide +kernel
theorem dX4_flow_19 : decode cX4_flow 19 = .ok (.aload_n 0, 1) := by decide +kernel
theorem dX4_flow_20 : decode cX4_flow 20 = .ok (.getfield 11, 3) := by decide +kernel
theorem dX4_flow_23 : decode cX4_flow 23 = .ok (.arraylength, 1) := by decide +kernel
theorem dX4_flow_24 : decode cX4_flow 24 = .ok (.if_icmp .ge 117, 3) := by decide +kernel
theorem dX4_flow_27 : decode cX4_flow 27 = .ok (.iload_n 2, 1) := by decide +kernel
theorem dX4_flow_28 : decode cX4_flow 28 = .ok (.iload 7, 2) := by decide +kernel
theorem dX4_flow_30 : decode cX4_flow 30 = .ok (.invokestatic 47, 3) := by decide +kernel
theorem dX4_flow_33 : decode cX4_flow 33 = .ok (.istore 8, 2) := by decide +kernel
theorem dX4_flow_35 : decode cX4_flow 35 = .ok (.aload_n 0, 1) := by decide +kernel
theorem dX4_flow_36 : decode cX4_flow 36 = .ok (.iload_n 1, 1) := by decide +kernel
theorem dX4_flow_37 : decode cX4_flow 37 = .ok (.iload 7, 2) := by decide +kernel
theorem dX4_flow_39 : decode cX4_flow 39 = .ok (.invokevirtual 40, 3) := by decide +kernel
theorem dX4_flow_42 : decode cX4_flow 42 = .ok (.iload 8, 2) := by decide +kernel
theorem dX4_flow_44 : decode cX4_flow 44 = .ok (.isub, 1) := by decide +kernel
theorem dX4_flow_45 : decode cX4_flow 45 = .ok (.iload 5, 2) := by decide +kernel
theorem dX4_flow_47 : decode cX4_flow 47 = .ok (.iadd, 1) := by decide +kernel
theorem dX4_flow_48 : decode cX4_flow 48 = .ok (.iload 6, 2) := by decide +kernel
theorem dX4_flow_50 : decode cX4_flow 50 = .ok (.iadd, 1) := by decide +kernel
theorem dX4_flow_51 : decode cX4_flow 51 = .ok (.iload 7, 2) := by decide +kernel
theorem dX4_flow_53 : decode cX4_flow 53 = .ok (.aload_n 3, 1) := by decide +kernel
theorem dX4_flow_54 : decode cX4_flow 54 = .ok (.arraylength, 1) := by decide +kernel
theorem dX4_flow_55 : decode cX4_flow 55 = .ok (.if_icmp .ge 10, 3) := by decide +kernel
theorem dX4_flow_58 : decode cX4_flow 58 = .ok (.aload_n 3, 1) := by decide +kernel
theorem dX4_flow_59 : decode cX4_flow 59 = .ok (.iload 7, 2) := by decide +kernel
theorem dX4_flow_61 : decode cX4_flow 61 = .ok (.iaload, 1) := by decide +kernel
theorem dX4_flow_62 : decode cX4_flow 62 = .ok (.goto 4, 3) := by decide +kernel
theorem dX4_flow_65 : decode cX4_flow 65 = .ok (.iconst 0, 1) := by decide +kernel
theorem dX4_flow_66 : decode cX4_flow 66 = .ok (.iadd, 1) := by decide +kernel
theorem dX4_flow_67 : decode cX4_flow 67 = .ok (.istore 9, 2) := by decide +kernel
theorem dX4_flow_69 : decode cX4_flow 69 = .ok (.iconst 0, 1) := by decide +kernel
theorem dX4_flow_70 : decode cX4_flow 70 = .ok (.iload 9, 2) := by decide +kernel
theorem dX4_flow_72 : decode cX4_flow 72 = .ok (.aload_n 0, 1) := by decide +kernel
theorem dX4_flow_73 : decode cX4_flow 73 = .ok (.getfield 11, 3) := by decide +kernel
theorem dX4_flow_76 : decode cX4_flow 76 = .ok (.iload 7, 2) := by decide +kernel
theorem dX4_flow_78 : decode cX4_flow 78 = .ok (.aaload, 1) := by decide +kernel
theorem dX4_flow_79 : decode cX4_flow 79 = .ok (.getfield 31, 3) := by decide +kernel
theorem dX4_flow_82 : decode cX4_flow 82 = .ok (.isub, 1) := by decide +kernel
theorem dX4_flow_83 : decode cX4_flow 83 = .ok (.invokestatic 66, 3) := by decide +kernel
theorem dX4_flow_86 : decode cX4_flow 86 = .ok (.istore 6, 2) := by decide +kernel
theorem dX4_flow_88 : decode cX4_flow 88 = .ok (.iload 7, 2) := by decide +kernel
theorem dX4_flow_90 : decode cX4_flow 90 = .ok (.aload_n 0, 1) := by decide +kernel
theorem dX4_flow_91 : decode cX4_flow 91 = .ok (.getfield 22, 3) := by decide +kernel
theorem dX4_flow_94 : decode cX4_flow 94 = .ok (.if_icmp .ge 14, 3) := by decide +kernel
theorem dX4_flow_97 : decode cX4_flow 97 = .ok (.aload_n 0, 1) := by decide +kernel
theorem dX4_flow_98 : decode cX4_flow 98 = .ok (.dup, 1) := by decide +kernel
theorem dX4_flow_99 : decode cX4_flow 99 = .ok (.getfield 63, 3) := by decide +kernel
theorem dX4_flow_102 : decode cX4_flow 102 = .ok (.iload 6, 2) := by decide +kernel
theorem dX4_flow_104 : decode cX4_flow 104 = .ok (.iadd, 1) := by decide +kernel
theorem dX4_flow_105 : decode cX4_flow 105 = .ok (.putfield 63, 3) := by decide +kernel
theorem dX4_flow_108 : decode cX4_flow 108 = .ok (.iload 4, 2) := by decide +kernel
theorem dX4_flow_110 : decode cX4_flow 110 = .ok (.aload_n 0, 1) := by decide +kernel
theorem dX4_flow_111 : decode cX4_flow 111 = .ok (.getfield 11, 3) := by decide +kernel
theorem dX4_flow_114 : decode cX4_flow 114 = .ok (.iload 7, 2) := by decide +kernel
theorem dX4_flow_116 : decode cX4_flow 116 = .ok (.aaload, 1) := by decide +kernel
theorem dX4_flow_117 : decode cX4_flow 117 = .ok (.getfield 31, 3) := by decide +kernel
theorem dX4_flow_120 : decode cX4_flow 120 = .ok (.iconst 1, 1) := by decide +kernel
theorem dX4_flow_121 : decode cX4_flow 121 = .ok (.iadd, 1) := by decide +kernel
theorem dX4_flow_122 : decode cX4_flow 122 = .ok (.imul, 1) := by decide +kernel
theorem dX4_flow_123 : decode cX4_flow 123 = .ok (.iload 9, 2) := by decide +kernel
theorem dX4_flow_125 : decode cX4_flow 125 = .ok (.iadd, 1) := by decide +kernel
theorem dX4_flow_126 : decode cX4_flow 126 = .ok (.iload 6, 2) := by decide +kernel
theorem dX4_flow_128 : decode cX4_flow 128 = .ok (.isub, 1) := by decide +kernel
theorem dX4_flow_129 : decode cX4_flow 129 = .ok (.istore 4, 2) := by decide +kernel
theorem dX4_flow_131 : decode cX4_flow 131 = .ok (.iload 8, 2) := by decide +kernel
theorem dX4_flow_133 : decode cX4_flow 133 = .ok (.istore 5, 2) := by decide +kernel
theorem dX4_flow_135 : decode cX4_flow 135 = .ok (.iinc 7 1, 3) := by decide +kernel
theorem dX4_flow_138 : decode cX4_flow 138 = .ok (.goto (-121), 3) := by decide +kernel
theorem dX4_flow_141 : decode cX4_flow 141 = .ok (.iload 4, 2) := by decide +kernel
theorem dX4_flow_143 : decode cX4_flow 143 = .ok (.ireturn, 1) := by decide +kernel
theorem dX5_init_0 : decode cX5_init 0 = .ok (.aload_n 0, 1) := by decide +kernel
theorem dX5_init_1 : decode cX5_init 1 = .ok (.invokespecial 3, 3) := by decide +kernel
theorem dX5_init_4 : decode cX5_init 4 = .ok (.aload_n 0, 1) := by decide +kernel
theorem dX5_init_5 : decode cX5_init 5 = .ok (.aload_n 1, 1) := by decide +kernel
theorem dX5_init_6 : decode cX5_init 6 = .ok (.putfield 9, 3) := by decide +kernel
theorem dX5_init_9 : decode cX5_init 9 = .ok (.aload_n 0, 1) := by decide +kernel
theorem dX5_init_10 : decode cX5_init 10 = .ok (.aload_n 2, 1) := by decide +kernel
theorem dX5_init_11 : decode cX5_init 11 = .ok (.putfield 15, 3) := by decide +kernel
theorem dX5_init_14 : decode cX5_init 14 = .ok (.return_, 1) := by decide +kernel
theorem dX5_go_0 : decode cX5_go 0 = .ok (.aload_n 1, 1) := by decide +kernel
theorem dX5_go_1 : decode cX5_go 1 = .ok (.ifnonnull 4, 3) := by decide +kernel
theorem dX5_go_4 : decode cX5_go 4 = .ok (.return_, 1) := by decide +kernel
theorem dX5_go_5 : decode cX5_go 5 = .ok (.iconst 0, 1) := by decide +kernel
theorem dX5_go_6 : decode cX5_go 6 = .ok (.istore_n 3, 1) := by decide +kernel
theorem dX5_go_7 : decode cX5_go 7 = .ok (.iload_n 3, 1) := by decide +kernel
theorem dX5_go_8 : decode cX5_go 8 = .ok (.aload_n 0, 1) := by decide +kernel
theorem dX5_go_9 : decode cX5_go 9 = .ok (.getfield 15, 3) := by decide +kernel
theorem dX5_go_12 : decode cX5_go 12 = .ok (.getfield 19, 3) := by decide +kernel
theorem dX5_go_15 : decode cX5_go 15 = .ok (.if_icmp .ge 22, 3) := by decide +kernel
theorem dX5_go_18 : decode cX5_go 18 = .ok (.aload_n 0, 1) := by decide +kernel
theorem dX5_go_19 : decode cX5_go 19 = .ok (.getfield 15, 3) := by decide +kernel
theorem dX5_go_22 : decode cX5_go 22 = .ok (.getfield 25, 3) := by decide +kernel
theorem dX5_go_25 : decode cX5_go 25 = .ok (.iload_n 3, 1) := by decide +kernel
theorem dX5_go_26 : decode cX5_go 26 = .ok (.aaload, 1) := by decide +kernel
theorem dX5_go_27 : decode cX5_go 27 = .ok (.iconst 0, 1) := by decide +kernel
theorem dX5_go_28 : decode cX5_go 28 = .ok (.putfield 29, 3) := by decide +kernel
theorem dX5_go_31 : decode cX5_go 31 = .ok (.iinc 3 1, 3) := by decide +kernel
theorem dX5_go_34 : decode cX5_go 34 = .ok (.goto (-27), 3) := by decide +kernel
theorem dX5_go_37 : decode cX5_go 37 = .ok (.aload_n 1, 1) := by decide +kernel
theorem dX5_go_38 : decode cX5_go 38 = .ok (.iconst 1, 1) := by decide +kernel
theorem dX5_go_39 : decode cX5_go 39 = .ok (.putfield 29, 3) := by decide +kernel
theorem dX5_go_42 : decode cX5_go 42 = .ok (.aload_n 1, 1) := by decide +kernel
theorem dX5_go_43 : decode cX5_go 43 = .ok (.iload_n 2, 1) := by decide +kernel
theorem dX5_go_44 : decode cX5_go 44 = .ok (.putfield 35, 3) := by decide +kernel
theorem dX5_go_47 : decode cX5_go 47 = .ok (.aload_n 1, 1) := by decide +kernel
theorem dX5_go_48 : decode cX5_go 48 = .ok (.iconst 0, 1) := by decide +kernel
theorem dX5_go_49 : decode cX5_go 49 = .ok (.putfield 38, 3) := by decide +kernel
theorem dX5_go_52 : decode cX5_go 52 = .ok (.aload_n 1, 1) := by decide +kernel
theorem dX5_go_53 : decode cX5_go 53 = .ok (.lconst 1, 1) := by decide +kernel
theorem dX5_go_54 : decode cX5_go 54 = .ok (.putfield 41, 3) := by decide +kernel
theorem dX5_go_57 : decode cX5_go 57 = .ok (.aload_n 1, 1) := by decide +kernel
theorem dX5_go_58 : decode cX5_go 58 = .ok (.iconst 0, 1) := by decide +kernel
theorem dX5_go_59 : decode cX5_go 59 = .ok (.putfield 45, 3) := by decide +kernel
theorem dX5_go_62 : decode cX5_go 62 = .ok (.iconst 1, 1) := by decide +kernel
theorem dX5_go_63 : decode cX5_go 63 = .ok (.istore_n 3, 1) := by decide +kernel
theorem dX5_go_64 : decode cX5_go 64 = .ok (.iload_n 3, 1) := by decide +kernel
theorem dX5_go_65 : decode cX5_go 65 = .ok (.aload_n 0, 1) := by decide +kernel
theorem dX5_go_66 : decode cX5_go 66 = .ok (.getfield 15, 3) := by decide +kernel
theorem dX5_go_69 : decode cX5_go 69 = .ok (.getfield 19, 3) := by decide +kernel
theorem dX5_go_72 : decode cX5_go 72 = .ok (.if_icmp .ge 50, 3) := by decide +kernel
theorem dX5_go_75 : decode cX5_go 75 = .ok (.aload_n 0, 1) := by decide +kernel
theorem dX5_go_76 : decode cX5_go 76 = .ok (.getfield 15, 3) := by decide +kernel
theorem dX5_go_79 : decode cX5_go 79 = .ok (.getfield 25, 3) := by decide +kernel
theorem dX5_go_82 : decode cX5_go 82 = .ok (.iload_n 3, 1) := by decide +kernel
theorem dX5_go_83 : decode cX5_go 83 = .ok (.aaload, 1) := by decide +kernel
theorem dX5_go_84 : decode cX5_go 84 = .ok (.astore 4, 2) := by decide +kernel
theorem dX5_go_86 : decode cX5_go 86 = .ok (.aload 4, 2) := by decide +kernel
theorem dX5_go_88 : decode cX5_go 88 = .ok (.getfield 48, 3) := by decide +kernel
theorem dX5_go_91 : decode cX5_go 91 = .ok (.ifnull 25, 3) := by decide +kernel
theorem dX5_go_94 : decode cX5_go 94 = .ok (.aload 4, 2) := by decide +kernel
theorem dX5_go_96 : decode cX5_go 96 = .ok (.getfield 48, 3) := by decide +kernel
theorem dX5_go_99 : decode cX5_go 99 = .ok (.getfield 29, 3) := by decide +kernel
theorem dX5_go_102 : decode cX5_go 102 = .ok (.ifCond .eq 14, 3) := by decide +kernel
theorem dX5_go_105 : decode cX5_go 105 = .ok (.aload_n 0, 1) := by decide +kernel
theorem dX5_go_106 : decode cX5_go 106 = .ok (.aload 4, 2) := by decide +kernel
theorem dX5_go_108 : decode cX5_go 108 = .ok (.aload 4, 2) := by decide +kernel
theorem dX5_go_110 : decode cX5_go 110 = .ok (.getfield 48, 3) := by decide +kernel
theorem dX5_go_113 : decode cX5_go 113 = .ok (.invokevirtual 52, 3) := by decide +kernel
theorem dX5_go_116 : decode cX5_go 116 = .ok (.iinc 3 1, 3) := by decide +kernel
theorem dX5_go_119 : decode cX5_go 119 = .ok (.goto (-55), 3) := by decide +kernel
theorem dX5_go_122 : decode cX5_go 122 = .ok (.return_, 1) := by decide +kernel
theorem dX5_stepTo_0 : decode cX5_stepTo 0 = .ok (.aload_n 0, 1) := by decide +kernel
theorem dX5_stepTo_1 : decode cX5_stepTo 1 = .ok (.getfield 9, 3) := by decide +kernel
theorem dX5_stepTo_4 : decode cX5_stepTo 4 = .ok (.aload_n 2, 1) := by decide +kernel
theorem dX5_stepTo_5 : decode cX5_stepTo 5 = .ok (.getfield 35, 3) := by decide +kernel
theorem dX5_stepTo_8 : decode cX5_stepTo 8 = .ok (.invokevirtual 56, 3) := by decide +kernel
theorem dX5_stepTo_11 : decode cX5_stepTo 11 = .ok (.istore_n 3, 1) := by decide +kernel
theorem dX5_stepTo_12 : decode cX5_stepTo 12 = .ok (.aload_n 1, 1) := by decide +kernel
theorem dX5_stepTo_13 : decode cX5_stepTo 13 = .ok (.iconst 1, 1) := by decide +kernel
theorem dX5_stepTo_14 : decode cX5_stepTo 14 = .ok (.putfield 29, 3) := by decide +kernel
theorem dX5_stepTo_17 : decode cX5_stepTo 17 = .ok (.aload_n 1, 1) := by decide +kernel
theorem dX5_stepTo_18 : decode cX5_stepTo 18 = .ok (.aload_n 0, 1) := by decide +kernel
theorem dX5_stepTo_19 : decode cX5_stepTo 19 = .ok (.getfield 9, 3) := by decide +kernel
theorem dX5_stepTo_22 : decode cX5_stepTo 22 = .ok (.aload_n 2, 1) := by decide +kernel
theorem dX5_stepTo_23 : decode cX5_stepTo 23 = .ok (.getfield 35, 3) := by decide +kernel
theorem dX5_stepTo_26 : decode cX5_stepTo 26 = .ok (.iload_n 3, 1) := by decide +kernel
theorem dX5_stepTo_27 : decode cX5_stepTo 27 = .ok (.aload_n 1, 1) := by decide +kernel
theorem dX5_stepTo_28 : decode cX5_stepTo 28 = .ok (.getfield 62, 3) := by decide +kernel
theorem dX5_stepTo_31 : decode cX5_stepTo 31 = .ok (.invokevirtual 66, 3) := by decide +kernel
theorem dX5_stepTo_34 : decode cX5_stepTo 34 = .ok (.putfield 35, 3) := by decide +kernel
theorem dX5_stepTo_37 : decode cX5_stepTo 37 = .ok (.aload_n 1, 1) := by decide +kernel
theorem dX5_stepTo_38 : decode cX5_stepTo 38 = .ok (.aload_n 2, 1) := by decide +kernel
theorem dX5_stepTo_39 : decode cX5_stepTo 39 = .ok (.getfield 38, 3) := by decide +kernel
theorem dX5_stepTo_42 : decode cX5_stepTo 42 = .ok (.aload_n 0, 1) := by decide +kernel
theorem dX5_stepTo_43 : decode cX5_stepTo 43 = .ok (.getfield 15, 3) := by decide +kernel
theorem dX5_stepTo_46 : decode cX5_stepTo 46 = .ok (.aload_n 2, 1) := by decide +kernel
theorem dX5_stepTo_47 : decode cX5_stepTo 47 = .ok (.invokevirtual 70, 3) := by decide +kernel
theorem dX5_stepTo_50 : decode cX5_stepTo 50 = .ok (.aload_n 0, 1) := by decide +kernel
theorem dX5_stepTo_51 : decode cX5_stepTo 51 = .ok (.getfield 9, 3) := by decide +kernel
theorem dX5_stepTo_54 : decode cX5_stepTo 54 = .ok (.aload_n 2, 1) := by decide +kernel
theorem dX5_stepTo_55 : decode cX5_stepTo 55 = .ok (.getfield 35, 3) := by decide +kernel
theorem dX5_stepTo_58 : decode cX5_stepTo 58 = .ok (.iload_n 3, 1) := by decide +kernel
theorem dX5_stepTo_59 : decode cX5_stepTo 59 = .ok (.invokevirtual 74, 3) := by decide +kernel
theorem dX5_stepTo_62 : decode cX5_stepTo 62 = .ok (.imul, 1) := by decide +kernel
theorem dX5_stepTo_63 : decode cX5_stepTo 63 = .ok (.iadd, 1) := by decide +kernel
theorem dX5_stepTo_64 : decode cX5_stepTo 64 = .ok (.putfield 38, 3) := by decide +kernel
theorem dX5_stepTo_67 : decode cX5_stepTo 67 = .ok (.aload_n 1, 1) := by decide +kernel
theorem dX5_stepTo_68 : decode cX5_stepTo 68 = .ok (.aload_n 2, 1) := by decide +kernel
theorem dX5_stepTo_69 : decode cX5_stepTo 69 = .ok (.getfield 41, 3) := by decide +kernel
theorem dX5_stepTo_72 : decode cX5_stepTo 72 = .ok (.aload_n 1, 1) := by decide +kernel
theorem dX5_stepTo_73 : decode cX5_stepTo 73 = .ok (.getfield 78, 3) := by decide +kernel
theorem dX5_stepTo_76 : decode cX5_stepTo 76 = .ok (.i2l, 1) := by decide +kernel
theorem dX5_stepTo_77 : decode cX5_stepTo 77 = .ok (.lmul, 1) := by decide +kernel
theorem dX5_stepTo_78 : decode cX5_stepTo 78 = .ok (.putfield 41, 3) := by decide +kernel
theorem dX5_stepTo_81 : decode cX5_stepTo 81 = .ok (.aload_n 1, 1) := by decide +kernel
theorem dX5_stepTo_82 : decode cX5_stepTo 82 = .ok (.aload_n 2, 1) := by decide +kernel
theorem dX5_stepTo_83 : decode cX5_stepTo 83 = .ok (.getfield 45, 3) := by decide +kernel
theorem dX5_stepTo_86 : decode cX5_stepTo 86 = .ok (.ifCond .ne 17, 3) := by decide +kernel
theorem dX5_stepTo_89 : decode cX5_stepTo 89 = .ok (.aload_n 0, 1) := by decide +kernel
theorem dX5_stepTo_90 : decode cX5_stepTo 90 = .ok (.getfield 9, 3) := by decide +kernel
theorem dX5_stepTo_93 : decode cX5_stepTo 93 = .ok (.aload_n 1, 1) := by decide +kernel
theorem dX5_stepTo_94 : decode cX5_stepTo 94 = .ok (.getfield 35, 3) := by decide +kernel
theorem dX5_stepTo_97 : decode cX5_stepTo 97 = .ok (.invokevirtual 81, 3) := by decide +kernel
theorem dX5_stepTo_100 : decode cX5_stepTo 100 = .ok (.ifCond .eq 7, 3) := by decide +kernel
theorem dX5_stepTo_103 : decode cX5_stepTo 103 = .ok (.iconst 1, 1) := by decide +kernel
theorem dX5_stepTo_104 : decode cX5_stepTo 104 = .ok (.goto 4, 3) := by decide +kernel
theorem dX5_stepTo_107 : decode cX5_stepTo 107 = .ok (.iconst 0, 1) := by decide +kernel
theorem dX5_stepTo_108 : decode cX5_stepTo 108 = .ok (.putfield 45, 3) := by decide +kernel
theorem dX5_stepTo_111 : decode cX5_stepTo 111 = .ok (.return_, 1) := by decide +kernel
theorem dX5_endsCase_0 : decode cX5_endsCase 0 = .ok (.aload_n 1, 1) := by decide +kernel
theorem dX5_endsCase_1 : decode cX5_endsCase 1 = .ok (.getfield 29, 3) := by decide +kernel
theorem dX5_endsCase_4 : decode cX5_endsCase 4 = .ok (.ifCond .eq 18, 3) := by decide +kernel
theorem dX5_endsCase_7 : decode cX5_endsCase 7 = .ok (.aload_n 0, 1) := by decide +kernel
theorem dX5_endsCase_8 : decode cX5_endsCase 8 = .ok (.getfield 15, 3) := by decide +kernel
theorem dX5_endsCase_11 : decode cX5_endsCase 11 = .ok (.aload_n 1, 1) := by decide +kernel
theorem dX5_endsCase_12 : decode cX5_endsCase 12 = .ok (.invokevirtual 85, 3) := by decide +kernel
theorem dX5_endsCase_15 : decode cX5_endsCase 15 = .ok (.ifCond .eq 7, 3) := by decide +kernel
theorem dX5_endsCase_18 : decode cX5_endsCase 18 = .ok (.iconst 1, 1) := by decide +kernel
theorem dX5_endsCase_19 : decode cX5_endsCase 19 = .ok (.goto 4, 3) := by decide +kernel
theorem dX5_endsCase_22 : decode cX5_endsCase 22 = .ok (.iconst 0, 1) := by decide +kernel
theorem dX5_endsCase_23 : decode cX5_endsCase 23 = .ok (.ireturn, 1) := by decide +kernel
theorem dX5_totalOf_0 : decode cX5_totalOf 0 = .ok (.aload_n 1, 1) := by decide +kernel
theorem dX5_totalOf_1 : decode cX5_totalOf 1 = .ok (.getfield 38, 3) := by decide +kernel
theorem dX5_totalOf_4 : decode cX5_totalOf 4 = .ok (.i2l, 1) := by decide +kernel
theorem dX5_totalOf_5 : decode cX5_totalOf 5 = .ok (.aload_n 0, 1) := by decide +kernel
theorem dX5_totalOf_6 : decode cX5_totalOf 6 = .ok (.getfield 9, 3) := by decide +kernel
theorem dX5_totalOf_9 : decode cX5_totalOf 9 = .ok (.aload_n 1, 1) := by decide +kernel
theorem dX5_totalOf_10 : decode cX5_totalOf 10 = .ok (.getfield 35, 3) := by decide +kernel
theorem dX5_totalOf_13 : decode cX5_totalOf 13 = .ok (.invokevirtual 89, 3) := by decide +kernel
theorem dX5_totalOf_16 : decode cX5_totalOf 16 = .ok (.ladd, 1) := by decide +kernel
theorem dX5_totalOf_17 : decode cX5_totalOf 17 = .ok (.lreturn, 1) := by decide +kernel
theorem dX5_allCases_0 : decode cX5_allCases 0 = .ok (.iconst 0, 1) := by decide +kernel
theorem dX5_allCases_1 : decode cX5_allCases 1 = .ok (.istore_n 1, 1) := by decide +kernel
theorem dX5_allCases_2 : decode cX5_allCases 2 = .ok (.iconst 0, 1) := by decide +kernel
theorem dX5_allCases_3 : decode cX5_allCases 3 = .ok (.istore_n 2, 1) := by decide +kernel
theorem dX5_allCases_4 : decode cX5_allCases 4 = .ok (.iload_n 2, 1) := by decide +kernel
theorem dX5_allCases_5 : decode cX5_allCases 5 = .ok (.aload_n 0, 1) := by decide +kernel
theorem dX5_allCases_6 : decode cX5_allCases 6 = .ok (.getfield 15, 3) := by decide +kernel
theorem dX5_allCases_9 : decode cX5_allCases 9 = .ok (.getfield 19, 3) := by decide +kernel
theorem dX5_allCases_12 : decode cX5_allCases 12 = .ok (.if_icmp .ge 28, 3) := by decide +kernel
theorem dX5_allCases_15 : decode cX5_allCases 15 = .ok (.aload_n 0, 1) := by decide +kernel
theorem dX5_allCases_16 : decode cX5_allCases 16 = .ok (.aload_n 0, 1) := by decide +kernel
theorem dX5_allCases_17 : decode cX5_allCases 17 = .ok (.getfield 15, 3) := by decide +kernel
theorem dX5_allCases_20 : decode cX5_allCases 20 = .ok (.getfield 25, 3) := by decide +kernel
theorem dX5_allCases_23 : decode cX5_allCases 23 = .ok (.iload_n 2, 1) := by decide +kernel
theorem dX5_allCases_24 : decode cX5_allCases 24 = .ok (.aaload, 1) := by decide +kernel
theorem dX5_allCases_25 : decode cX5_allCases 25 = .ok (.invokevirtual 93, 3) := by decide +kernel
theorem dX5_allCases_28 : decode cX5_allCases 28 = .ok (.ifCond .eq 6, 3) := by decide +kernel
theorem dX5_allCases_31 : decode cX5_allCases 31 = .ok (.iinc 1 1, 3) := by decide +kernel
theorem dX5_allCases_34 : decode cX5_allCases 34 = .ok (.iinc 2 1, 3) := by decide +kernel
theorem dX5_allCases_37 : decode cX5_allCases 37 = .ok (.goto (-33), 3) := by decide +kernel
theorem dX5_allCases_40 : decode cX5_allCases 40 = .ok (.iload_n 1, 1) := by decide +kernel
theorem dX5_allCases_41 : decode cX5_allCases 41 = .ok (.ireturn, 1) := by decide +kernel
theorem dX5_meanOfCases_0 : decode cX5_meanOfCases 0 = .ok (.lconst 0, 1) := by decide +kernel
theorem dX5_meanOfCases_1 : decode cX5_meanOfCases 1 = .ok (.lstore_n 1, 1) := by decide +kernel
theorem dX5_meanOfCases_2 : decode cX5_meanOfCases 2 = .ok (.iconst 0, 1) := by decide +kernel
theorem dX5_meanOfCases_3 : decode cX5_meanOfCases 3 = .ok (.istore_n 3, 1) := by decide +kernel
theorem dX5_meanOfCases_4 : decode cX5_meanOfCases 4 = .ok (.iload_n 3, 1) := by decide +kernel
theorem dX5_meanOfCases_5 : decode cX5_meanOfCases 5 = .ok (.aload_n 0, 1) := by decide +kernel
theorem dX5_meanOfCases_6 : decode cX5_meanOfCases 6 = .ok (.getfield 15, 3) := by decide +kernel
theorem dX5_meanOfCases_9 : decode cX5_meanOfCases 9 = .ok (.getfield 19, 3) := by decide +kernel
theorem dX5_meanOfCases_12 : decode cX5_meanOfCases 12 = .ok (.if_icmp .ge 44, 3) := by decide +kernel
theorem dX5_meanOfCases_15 : decode cX5_meanOfCases 15 = .ok (.aload_n 0, 1) := by decide +kernel
theorem dX5_meanOfCases_16 : decode cX5_meanOfCases 16 = .ok (.getfield 15, 3) := by decide +kernel
theorem dX5_meanOfCases_19 : decode cX5_meanOfCases 19 = .ok (.getfield 25, 3) := by decide +kernel
theorem dX5_meanOfCases_22 : decode cX5_meanOfCases 22 = .ok (.iload_n 3, 1) := by decide +kernel
theorem dX5_meanOfCases_23 : decode cX5_meanOfCases 23 = .ok (.aaload, 1) := by decide +kernel
theorem dX5_meanOfCases_24 : decode cX5_meanOfCases 24 = .ok (.astore 4, 2) := by decide +kernel
theorem dX5_meanOfCases_26 : decode cX5_meanOfCases 26 = .ok (.aload_n 0, 1) := by decide +kernel
theorem dX5_meanOfCases_27 : decode cX5_meanOfCases 27 = .ok (.aload 4, 2) := by decide +kernel
theorem dX5_meanOfCases_29 : decode cX5_meanOfCases 29 = .ok (.invokevirtual 93, 3) := by decide +kernel
theorem dX5_meanOfCases_32 : decode cX5_meanOfCases 32 = .ok (.ifCond .eq 18, 3) := by decide +kernel
theorem dX5_meanOfCases_35 : decode cX5_meanOfCases 35 = .ok (.lload_n 1, 1) := by decide +kernel
theorem dX5_meanOfCases_36 : decode cX5_meanOfCases 36 = .ok (.aload 4, 2) := by decide +kernel
theorem dX5_meanOfCases_38 : decode cX5_meanOfCases 38 = .ok (.getfield 41, 3) := by decide +kernel
theorem dX5_meanOfCases_41 : decode cX5_meanOfCases 41 = .ok (.aload_n 0, 1) := by decide +kernel
theorem dX5_meanOfCases_42 : decode cX5_meanOfCases 42 = .ok (.aload 4, 2) := by decide +kernel
theorem dX5_meanOfCases_44 : decode cX5_meanOfCases 44 = .ok (.invokevirtual 96, 3) := by decide +kernel
theorem dX5_meanOfCases_47 : decode cX5_meanOfCases 47 = .ok (.lmul, 1) := by decide +kernel
theorem dX5_meanOfCases_48 : decode cX5_meanOfCases 48 = .ok (.ladd, 1) := by decide +kernel
theorem dX5_meanOfCases_49 : decode cX5_meanOfCases 49 = .ok (.lstore_n 1, 1) := by decide +kernel
theorem dX5_meanOfCases_50 : decode cX5_meanOfCases 50 = .ok (.iinc 3 1, 3) := by decide +kernel
theorem dX5_meanOfCases_53 : decode cX5_meanOfCases 53 = .ok (.goto (-49), 3) := by decide +kernel
theorem dX5_meanOfCases_56 : decode cX5_meanOfCases 56 = .ok (.lload_n 1, 1) := by decide +kernel
theorem dX5_meanOfCases_57 : decode cX5_meanOfCases 57 = .ok (.lreturn, 1) := by decide +kernel
theorem dX5_leastOfCases_0 : decode cX5_leastOfCases 0 = .ok (.ldc2_w 100, 3) := by decide +kernel
theorem dX5_leastOfCases_3 : decode cX5_leastOfCases 3 = .ok (.lstore_n 1, 1) := by decide +kernel
theorem dX5_leastOfCases_4 : decode cX5_leastOfCases 4 = .ok (.iconst 0, 1) := by decide +kernel
theorem dX5_leastOfCases_5 : decode cX5_leastOfCases 5 = .ok (.istore_n 3, 1) := by decide +kernel
theorem dX5_leastOfCases_6 : decode cX5_leastOfCases 6 = .ok (.iload_n 3, 1) := by decide +kernel
theorem dX5_leastOfCases_7 : decode cX5_leastOfCases 7 = .ok (.aload_n 0, 1) := by decide +kernel
theorem dX5_leastOfCases_8 : decode cX5_leastOfCases 8 = .ok (.getfield 15, 3) := by decide +kernel
theorem dX5_leastOfCases_11 : decode cX5_leastOfCases 11 = .ok (.getfield 19, 3) := by decide +kernel
theorem dX5_leastOfCases_14 : decode cX5_leastOfCases 14 = .ok (.if_icmp .ge 53, 3) := by decide +kernel
theorem dX5_leastOfCases_17 : decode cX5_leastOfCases 17 = .ok (.aload_n 0, 1) := by decide +kernel
theorem dX5_leastOfCases_18 : decode cX5_leastOfCases 18 = .ok (.getfield 15, 3) := by decide +kernel
theorem dX5_leastOfCases_21 : decode cX5_leastOfCases 21 = .ok (.getfield 25, 3) := by decide +kernel
theorem dX5_leastOfCases_24 : decode cX5_leastOfCases 24 = .ok (.iload_n 3, 1) := by decide +kernel
theorem dX5_leastOfCases_25 : decode cX5_leastOfCases 25 = .ok (.aaload, 1) := by decide +kernel
theorem dX5_leastOfCases_26 : decode cX5_leastOfCases 26 = .ok (.astore 4, 2) := by decide +kernel
theorem dX5_leastOfCases_28 : decode cX5_leastOfCases 28 = .ok (.aload_n 0, 1) := by decide +kernel
theorem dX5_leastOfCases_29 : decode cX5_leastOfCases 29 = .ok (.aload 4, 2) := by decide +kernel
theorem dX5_leastOfCases_31 : decode cX5_leastOfCases 31 = .ok (.invokevirtual 93, 3) := by decide +kernel
theorem dX5_leastOfCases_34 : decode cX5_leastOfCases 34 = .ok (.ifCond .eq 27, 3) := by decide +kernel
theorem dX5_leastOfCases_37 : decode cX5_leastOfCases 37 = .ok (.lload_n 1, 1) := by decide +kernel
theorem dX5_leastOfCases_38 : decode cX5_leastOfCases 38 = .ok (.lconst 0, 1) := by decide +kernel
theorem dX5_leastOfCases_39 : decode cX5_leastOfCases 39 = .ok (.lcmp, 1) := by decide +kernel
theorem dX5_leastOfCases_40 : decode cX5_leastOfCases 40 = .ok (.ifCond .lt 14, 3) := by decide +kernel
theorem dX5_leastOfCases_43 : decode cX5_leastOfCases 43 = .ok (.aload_n 0, 1) := by decide +kernel
theorem dX5_leastOfCases_44 : decode cX5_leastOfCases 44 = .ok (.aload 4, 2) := by decide +kernel
theorem dX5_leastOfCases_46 : decode cX5_leastOfCases 46 = .ok (.invokevirtual 96, 3) := by decide +kernel
theorem dX5_leastOfCases_49 : decode cX5_leastOfCases 49 = .ok (.lload_n 1, 1) := by decide +kernel
theorem dX5_leastOfCases_50 : decode cX5_leastOfCases 50 = .ok (.lcmp, 1) := by decide +kernel
theorem dX5_leastOfCases_51 : decode cX5_leastOfCases 51 = .ok (.ifCond .ge 10, 3) := by decide +kernel
theorem dX5_leastOfCases_54 : decode cX5_leastOfCases 54 = .ok (.aload_n 0, 1) := by decide +kernel
theorem dX5_leastOfCases_55 : decode cX5_leastOfCases 55 = .ok (.aload 4, 2) := by decide +kernel
theorem dX5_leastOfCases_57 : decode cX5_leastOfCases 57 = .ok (.invokevirtual 96, 3) := by decide +kernel
theorem dX5_leastOfCases_60 : decode cX5_leastOfCases 60 = .ok (.lstore_n 1, 1) := by decide +kernel
theorem dX5_leastOfCases_61 : decode cX5_leastOfCases 61 = .ok (.iinc 3 1, 3) := by decide +kernel
theorem dX5_leastOfCases_64 : decode cX5_leastOfCases 64 = .ok (.goto (-58), 3) := by decide +kernel
theorem dX5_leastOfCases_67 : decode cX5_leastOfCases 67 = .ok (.lload_n 1, 1) := by decide +kernel
theorem dX5_leastOfCases_68 : decode cX5_leastOfCases 68 = .ok (.lreturn, 1) := by decide +kernel
theorem dX5_casesOfLack_0 : decode cX5_casesOfLack 0 = .ok (.iconst 0, 1) := by decide +kernel
theorem dX5_casesOfLack_1 : decode cX5_casesOfLack 1 = .ok (.istore_n 1, 1) := by decide +kernel
theorem dX5_casesOfLack_2 : decode cX5_casesOfLack 2 = .ok (.iconst 0, 1) := by decide +kernel
theorem dX5_casesOfLack_3 : decode cX5_casesOfLack 3 = .ok (.istore_n 2, 1) := by decide +kernel
theorem dX5_casesOfLack_4 : decode cX5_casesOfLack 4 = .ok (.iload_n 2, 1) := by decide +kernel
theorem dX5_casesOfLack_5 : decode cX5_casesOfLack 5 = .ok (.aload_n 0, 1) := by decide +kernel
theorem dX5_casesOfLack_6 : decode cX5_casesOfLack 6 = .ok (.getfield 15, 3) := by decide +kernel
theorem dX5_casesOfLack_9 : decode cX5_casesOfLack 9 = .ok (.getfield 19, 3) := by decide +kernel
theorem dX5_casesOfLack_12 : decode cX5_casesOfLack 12 = .ok (.if_icmp .ge 43, 3) := by decide +kernel
theorem dX5_casesOfLack_15 : decode cX5_casesOfLack 15 = .ok (.aload_n 0, 1) := by decide +kernel
theorem dX5_casesOfLack_16 : decode cX5_casesOfLack 16 = .ok (.aload_n 0, 1) := by decide +kernel
theorem dX5_casesOfLack_17 : decode cX5_casesOfLack 17 = .ok (.getfield 15, 3) := by decide +kernel
theorem dX5_casesOfLack_20 : decode cX5_casesOfLack 20 = .ok (.getfield 25, 3) := by decide +kernel
theorem dX5_casesOfLack_23 : decode cX5_casesOfLack 23 = .ok (.iload_n 2, 1) := by decide +kernel
theorem dX5_casesOfLack_24 : decode cX5_casesOfLack 24 = .ok (.aaload, 1) := by decide +kernel
theorem dX5_casesOfLack_25 : decode cX5_casesOfLack 25 = .ok (.invokevirtual 93, 3) := by decide +kernel
theorem dX5_casesOfLack_28 : decode cX5_casesOfLack 28 = .ok (.ifCond .eq 21, 3) := by decide +kernel
theorem dX5_casesOfLack_31 : decode cX5_casesOfLack 31 = .ok (.aload_n 0, 1) := by decide +kernel
theorem dX5_casesOfLack_32 : decode cX5_casesOfLack 32 = .ok (.getfield 15, 3) := by decide +kernel
theorem dX5_casesOfLack_35 : decode cX5_casesOfLack 35 = .ok (.getfield 25, 3) := by decide +kernel
theorem dX5_casesOfLack_38 : decode cX5_casesOfLack 38 = .ok (.iload_n 2, 1) := by decide +kernel
theorem dX5_casesOfLack_39 : decode cX5_casesOfLack 39 = .ok (.aaload, 1) := by decide +kernel
theorem dX5_casesOfLack_40 : decode cX5_casesOfLack 40 = .ok (.getfield 45, 3) := by decide +kernel
theorem dX5_casesOfLack_43 : decode cX5_casesOfLack 43 = .ok (.ifCond .eq 6, 3) := by decide +kernel
theorem dX5_casesOfLack_46 : decode cX5_casesOfLack 46 = .ok (.iinc 1 1, 3) := by decide +kernel
theorem dX5_casesOfLack_49 : decode cX5_casesOfLack 49 = .ok (.iinc 2 1, 3) := by decide +kernel
theorem dX5_casesOfLack_52 : decode cX5_casesOfLack 52 = .ok (.goto (-48), 3) := by decide +kernel
theorem dX5_casesOfLack_55 : decode cX5_casesOfLack 55 = .ok (.iload_n 1, 1) := by decide +kernel
theorem dX5_casesOfLack_56 : decode cX5_casesOfLack 56 = .ok (.ireturn, 1) := by decide +kernel
theorem dX5_casesOfFlood_0 : decode cX5_casesOfFlood 0 = .ok (.iconst 0, 1) := by decide +kernel
theorem dX5_casesOfFlood_1 : decode cX5_casesOfFlood 1 = .ok (.istore 4, 2) := by decide +kernel
theorem dX5_casesOfFlood_3 : decode cX5_casesOfFlood 3 = .ok (.iconst 0, 1) := by decide +kernel
theorem dX5_casesOfFlood_4 : decode cX5_casesOfFlood 4 = .ok (.istore 5, 2) := by decide +kernel
theorem dX5_casesOfFlood_6 : decode cX5_casesOfFlood 6 = .ok (.iload 5, 2) := by decide +kernel
theorem dX5_casesOfFlood_8 : decode cX5_casesOfFlood 8 = .ok (.aload_n 0, 1) := by decide +kernel
theorem dX5_casesOfFlood_9 : decode cX5_casesOfFlood 9 = .ok (.getfield 15, 3) := by decide +kernel
theorem dX5_casesOfFlood_12 : decode cX5_casesOfFlood 12 = .ok (.getfield 19, 3) := by decide +kernel
theorem dX5_casesOfFlood_15 : decode cX5_casesOfFlood 15 = .ok (.if_icmp .ge 49, 3) := by decide +kernel
theorem dX5_casesOfFlood_18 : decode cX5_casesOfFlood 18 = .ok (.aload_n 0, 1) := by decide +kernel
theorem dX5_casesOfFlood_19 : decode cX5_casesOfFlood 19 = .ok (.aload_n 0, 1) := by decide +kernel
theorem dX5_casesOfFlood_20 : decode cX5_casesOfFlood 20 = .ok (.getfield 15, 3) := by decide +kernel
theorem dX5_casesOfFlood_23 : decode cX5_casesOfFlood 23 = .ok (.getfield 25, 3) := by decide +kernel
theorem dX5_casesOfFlood_26 : decode cX5_casesOfFlood 26 = .ok (.iload 5, 2) := by decide +kernel
theorem dX5_casesOfFlood_28 : decode cX5_casesOfFlood 28 = .ok (.aaload, 1) := by decide +kernel
theorem dX5_casesOfFlood_29 : decode cX5_casesOfFlood 29 = .ok (.invokevirtual 93, 3) := by decide +kernel
theorem dX5_casesOfFlood_32 : decode cX5_casesOfFlood 32 = .ok (.ifCond .eq 26, 3) := by decide +kernel
theorem dX5_casesOfFlood_35 : decode cX5_casesOfFlood 35 = .ok (.aload_n 0, 1) := by decide +kernel
theorem dX5_casesOfFlood_36 : decode cX5_casesOfFlood 36 = .ok (.aload_n 0, 1) := by decide +kernel
theorem dX5_casesOfFlood_37 : decode cX5_casesOfFlood 37 = .ok (.getfield 15, 3) := by decide +kernel
theorem dX5_casesOfFlood_40 : decode cX5_casesOfFlood 40 = .ok (.getfield 25, 3) := by decide +kernel
theorem dX5_casesOfFlood_43 : decode cX5_casesOfFlood 43 = .ok (.iload 5, 2) := by decide +kernel
theorem dX5_casesOfFlood_45 : decode cX5_casesOfFlood 45 = .ok (.aaload, 1) := by decide +kernel
theorem dX5_casesOfFlood_46 : decode cX5_casesOfFlood 46 = .ok (.iload_n 1, 1) := by decide +kernel
theorem dX5_casesOfFlood_47 : decode cX5_casesOfFlood 47 = .ok (.iload_n 2, 1) := by decide +kernel
theorem dX5_casesOfFlood_48 : decode cX5_casesOfFlood 48 = .ok (.iload_n 3, 1) := by decide +kernel
theorem dX5_casesOfFlood_49 : decode cX5_casesOfFlood 49 = .ok (.invokevirtual 102, 3) := by decide +kernel
theorem dX5_casesOfFlood_52 : decode cX5_casesOfFlood 52 = .ok (.ifCond .eq 6, 3) := by decide +kernel
theorem dX5_casesOfFlood_55 : decode cX5_casesOfFlood 55 = .ok (.iinc 4 1, 3) := by decide +kernel
theorem dX5_casesOfFlood_58 : decode cX5_casesOfFlood 58 = .ok (.iinc 5 1, 3) := by decide +kernel
theorem dX5_casesOfFlood_61 : decode cX5_casesOfFlood 61 = .ok (.goto (-55), 3) := by decide +kernel
theorem dX5_casesOfFlood_64 : decode cX5_casesOfFlood 64 = .ok (.iload 4, 2) := by decide +kernel
theorem dX5_casesOfFlood_66 : decode cX5_casesOfFlood 66 = .ok (.ireturn, 1) := by decide +kernel
theorem dX5_stoodAbove_0 : decode cX5_stoodAbove 0 = .ok (.aload_n 1, 1) := by decide +kernel
theorem dX5_stoodAbove_1 : decode cX5_stoodAbove 1 = .ok (.astore 5, 2) := by decide +kernel
theorem dX5_stoodAbove_3 : decode cX5_stoodAbove 3 = .ok (.iconst 0, 1) := by decide +kernel
theorem dX5_stoodAbove_4 : decode cX5_stoodAbove 4 = .ok (.istore 6, 2) := by decide +kernel
theorem dX5_stoodAbove_6 : decode cX5_stoodAbove 6 = .ok (.iload 6, 2) := by decide +kernel
theorem dX5_stoodAbove_8 : decode cX5_stoodAbove 8 = .ok (.bipush 10, 2) := by decide +kernel
theorem dX5_stoodAbove_10 : decode cX5_stoodAbove 10 = .ok (.if_icmp .ge 34, 3) := by decide +kernel
theorem dX5_stoodAbove_13 : decode cX5_stoodAbove 13 = .ok (.aload 5, 2) := by decide +kernel
theorem dX5_stoodAbove_15 : decode cX5_stoodAbove 15 = .ok (.getfield 106, 3) := by decide +kernel
theorem dX5_stoodAbove_18 : decode cX5_stoodAbove 18 = .ok (.iload 4, 2) := by decide +kernel
theorem dX5_stoodAbove_20 : decode cX5_stoodAbove 20 = .ok (.if_icmp .le 24, 3) := by decide +kernel
theorem dX5_stoodAbove_23 : decode cX5_stoodAbove 23 = .ok (.aload 5, 2) := by decide +kernel
theorem dX5_stoodAbove_25 : decode cX5_stoodAbove 25 = .ok (.getfield 48, 3) := by decide +kernel
theorem dX5_stoodAbove_28 : decode cX5_stoodAbove 28 = .ok (.ifnull 16, 3) := by decide +kernel
theorem dX5_stoodAbove_31 : decode cX5_stoodAbove 31 = .ok (.aload 5, 2) := by decide +kernel
theorem dX5_stoodAbove_33 : decode cX5_stoodAbove 33 = .ok (.getfield 48, 3) := by decide +kernel
theorem dX5_stoodAbove_36 : decode cX5_stoodAbove 36 = .ok (.astore 5, 2) := by decide +kernel
theorem dX5_stoodAbove_38 : decode cX5_stoodAbove 38 = .ok (.iinc 6 1, 3) := by decide +kernel
theorem dX5_stoodAbove_41 : decode cX5_stoodAbove 41 = .ok (.goto (-35), 3) := by decide +kernel
theorem dX5_stoodAbove_44 : decode cX5_stoodAbove 44 = .ok (.aload_n 0, 1) := by decide +kernel
theorem dX5_stoodAbove_45 : decode cX5_stoodAbove 45 = .ok (.getfield 9, 3) := by decide +kernel
theorem dX5_stoodAbove_48 : decode cX5_stoodAbove 48 = .ok (.aload 5, 2) := by decide +kernel
theorem dX5_stoodAbove_50 : decode cX5_stoodAbove 50 = .ok (.getfield 35, 3) := by decide +kernel
theorem dX5_stoodAbove_53 : decode cX5_stoodAbove 53 = .ok (.iload_n 2, 1) := by decide +kernel
theorem dX5_stoodAbove_54 : decode cX5_stoodAbove 54 = .ok (.invokevirtual 109, 3) := by decide +kernel
theorem dX5_stoodAbove_57 : decode cX5_stoodAbove 57 = .ok (.iload_n 3, 1) := by decide +kernel
theorem dX5_stoodAbove_58 : decode cX5_stoodAbove 58 = .ok (.if_icmp .le 7, 3) := by decide +kernel
theorem dX5_stoodAbove_61 : decode cX5_stoodAbove 61 = .ok (.iconst 1, 1) := by decide +kernel
theorem dX5_stoodAbove_62 : decode cX5_stoodAbove 62 = .ok (.goto 4, 3) := by decide +kernel
theorem dX5_stoodAbove_65 : decode cX5_stoodAbove 65 = .ok (.iconst 0, 1) := by decide +kernel
theorem dX5_stoodAbove_66 : decode cX5_stoodAbove 66 = .ok (.ireturn, 1) := by decide +kernel
theorem dX6_init_0 : decode cX6_init 0 = .ok (.aload_n 0, 1) := by decide +kernel
theorem dX6_init_1 : decode cX6_init 1 = .ok (.invokespecial 1, 3) := by decide +kernel
theorem dX6_init_4 : decode cX6_init 4 = .ok (.aload_n 0, 1) := by decide +kernel
theorem dX6_init_5 : decode cX6_init 5 = .ok (.iconst 1, 1) := by decide +kernel
theorem dX6_init_6 : decode cX6_init 6 = .ok (.putfield 7, 3) := by decide +kernel
theorem dX6_init_9 : decode cX6_init 9 = .ok (.aload_n 0, 1) := by decide +kernel
theorem dX6_init_10 : decode cX6_init 10 = .ok (.aload_n 1, 1) := by decide +kernel
theorem dX6_init_11 : decode cX6_init 11 = .ok (.putfield 13, 3) := by decide +kernel
theorem dX6_init_14 : decode cX6_init 14 = .ok (.aload_n 0, 1) := by decide +kernel
theorem dX6_init_15 : decode cX6_init 15 = .ok (.aload_n 2, 1) := by decide +kernel
theorem dX6_init_16 : decode cX6_init 16 = .ok (.putfield 17, 3) := by decide +kernel
theorem dX6_init_19 : decode cX6_init 19 = .ok (.return_, 1) := by decide +kernel
theorem dX6_forget_0 : decode cX6_forget 0 = .ok (.aload_n 0, 1) := by decide +kernel
theorem dX6_forget_1 : decode cX6_forget 1 = .ok (.dup, 1) := by decide +kernel
theorem dX6_forget_2 : decode cX6_forget 2 = .ok (.getfield 7, 3) := by decide +kernel
theorem dX6_forget_5 : decode cX6_forget 5 = .ok (.iconst 1, 1) := by decide +kernel
theorem dX6_forget_6 : decode cX6_forget 6 = .ok (.iadd, 1) := by decide +kernel
theorem dX6_forget_7 : decode cX6_forget 7 = .ok (.putfield 7, 3) := by decide +kernel
theorem dX6_forget_10 : decode cX6_forget 10 = .ok (.return_, 1) := by decide +kernel
theorem dX6_bestLets_0 : decode cX6_bestLets 0 = .ok (.aload_n 0, 1) := by decide +kernel
theorem dX6_bestLets_1 : decode cX6_bestLets 1 = .ok (.aload_n 1, 1) := by decide +kernel
theorem dX6_bestLets_2 : decode cX6_bestLets 2 = .ok (.invokevirtual 21, 3) := by decide +kernel
theorem dX6_bestLets_5 : decode cX6_bestLets 5 = .ok (.aload_n 0, 1) := by decide +kernel
theorem dX6_bestLets_6 : decode cX6_bestLets 6 = .ok (.aload_n 1, 1) := by decide +kernel
theorem dX6_bestLets_7 : decode cX6_bestLets 7 = .ok (.iload_n 2, 1) := by decide +kernel
theorem dX6_bestLets_8 : decode cX6_bestLets 8 = .ok (.aload_n 0, 1) := by decide +kernel
theorem dX6_bestLets_9 : decode cX6_bestLets 9 = .ok (.getfield 17, 3) := by decide +kernel
theorem dX6_bestLets_12 : decode cX6_bestLets 12 = .ok (.aload_n 1, 1) := by decide +kernel
theorem dX6_bestLets_13 : decode cX6_bestLets 13 = .ok (.invokevirtual 25, 3) := by decide +kernel
theorem dX6_bestLets_16 : decode cX6_bestLets 16 = .ok (.invokevirtual 31, 3) := by decide +kernel
theorem dX6_bestLets_19 : decode cX6_bestLets 19 = .ok (.pop2, 1) := by decide +kernel
theorem dX6_bestLets_20 : decode cX6_bestLets 20 = .ok (.aload_n 0, 1) := by decide +kernel
theorem dX6_bestLets_21 : decode cX6_bestLets 21 = .ok (.getfield 35, 3) := by decide +kernel
theorem dX6_bestLets_24 : decode cX6_bestLets 24 = .ok (.ireturn, 1) := by decide +kernel
theorem dX6_worthAt_0 : decode cX6_worthAt 0 = .ok (.aload_n 0, 1) := by decide +kernel
theorem dX6_worthAt_1 : decode cX6_worthAt 1 = .ok (.aload_n 1, 1) := by decide +kernel
theorem dX6_worthAt_2 : decode cX6_worthAt 2 = .ok (.iload_n 2, 1) := by decide +kernel
theorem dX6_worthAt_3 : decode cX6_worthAt 3 = .ok (.aload_n 0, 1) := by decide +kernel
theorem dX6_worthAt_4 : decode cX6_worthAt 4 = .ok (.getfield 17, 3) := by decide +kernel
theorem dX6_worthAt_7 : decode cX6_worthAt 7 = .ok (.aload_n 1, 1) := by decide +kernel
theorem dX6_worthAt_8 : decode cX6_worthAt 8 = .ok (.invokevirtual 25, 3) := by decide +kernel
theorem dX6_worthAt_11 : decode cX6_worthAt 11 = .ok (.invokevirtual 38, 3) := by decide +kernel
theorem dX6_worthAt_14 : decode cX6_worthAt 14 = .ok (.lreturn, 1) := by decide +kernel
theorem dX6_worthOf_0 : decode cX6_worthOf 0 = .ok (.iload_n 3, 1) := by decide +kernel
theorem dX6_worthOf_1 : decode cX6_worthOf 1 = .ok (.ifCond .gt 12, 3) := by decide +kernel
theorem dX6_worthOf_4 : decode cX6_worthOf 4 = .ok (.aload_n 0, 1) := by decide +kernel
theorem dX6_worthOf_5 : decode cX6_worthOf 5 = .ok (.getfield 13, 3) := by decide +kernel
theorem dX6_worthOf_8 : decode cX6_worthOf 8 = .ok (.iload_n 2, 1) := by decide +kernel
theorem dX6_worthOf_9 : decode cX6_worthOf 9 = .ok (.invokevirtual 41, 3) := by decide +kernel
theorem dX6_worthOf_12 : decode cX6_worthOf 12 = .ok (.lreturn, 1) := by decide +kernel
theorem dX6_worthOf_13 : decode cX6_worthOf 13 = .ok (.aload_n 0, 1) := by decide +kernel
theorem dX6_worthOf_14 : decode cX6_worthOf 14 = .ok (.aload_n 1, 1) := by decide +kernel
theorem dX6_worthOf_15 : decode cX6_worthOf 15 = .ok (.invokevirtual 21, 3) := by decide +kernel
theorem dX6_worthOf_18 : decode cX6_worthOf 18 = .ok (.aload_n 1, 1) := by decide +kernel
theorem dX6_worthOf_19 : decode cX6_worthOf 19 = .ok (.getfield 47, 3) := by decide +kernel
theorem dX6_worthOf_22 : decode cX6_worthOf 22 = .ok (.astore 4, 2) := by decide +kernel
theorem dX6_worthOf_24 : decode cX6_worthOf 24 = .ok (.aload 4, 2) := by decide +kernel
theorem dX6_worthOf_26 : decode cX6_worthOf 26 = .ok (.ifnull 14, 3) := by decide +kernel
theorem dX6_worthOf_29 : decode cX6_worthOf 29 = .ok (.iload_n 2, 1) := by decide +kernel
theorem dX6_worthOf_30 : decode cX6_worthOf 30 = .ok (.ifCond .lt 10, 3) := by decide +kernel
theorem dX6_worthOf_33 : decode cX6_worthOf 33 = .ok (.iload_n 2, 1) := by decide +kernel
theorem dX6_worthOf_34 : decode cX6_worthOf 34 = .ok (.aload 4, 2) := by decide +kernel
theorem dX6_worthOf_36 : decode cX6_worthOf 36 = .ok (.arraylength, 1) := by decide +kernel
theorem dX6_worthOf_37 : decode cX6_worthOf 37 = .ok (.if_icmp .lt 5, 3) := by decide +kernel
theorem dX6_worthOf_40 : decode cX6_worthOf 40 = .ok (.lconst 0, 1) := by decide +kernel
theorem dX6_worthOf_41 : decode cX6_worthOf 41 = .ok (.lreturn, 1) := by decide +kernel
theorem dX6_worthOf_42 : decode cX6_worthOf 42 = .ok (.aload 4, 2) := by decide +kernel
theorem dX6_worthOf_44 : decode cX6_worthOf 44 = .ok (.iload_n 2, 1) := by decide +kernel
theorem dX6_worthOf_45 : decode cX6_worthOf 45 = .ok (.laload, 1) := by decide +kernel
theorem dX6_worthOf_46 : decode cX6_worthOf 46 = .ok (.ldc2_w 53, 3) := by decide +kernel
theorem dX6_worthOf_49 : decode cX6_worthOf 49 = .ok (.lcmp, 1) := by decide +kernel
theorem dX6_worthOf_50 : decode cX6_worthOf 50 = .ok (.ifCond .ne 14, 3) := by decide +kernel
