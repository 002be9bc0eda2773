theorem memW {w : Cond} (i : Nat) (h : lw_tbl[i]? = some w) (hg : goodWord w = true) : w ∈ tb := tb_mem i h hg
theorem inT0 : ∀ w ∈ u_ws RX0 TX0 9, w ∈ tb := by
  intro w h
  refine List.mem_filter.mpr ⟨?_, ?_⟩
  · exact (by decide +kernel : ∀ w ∈ u_ws RX0 TX0 9, w ∈ lw_tbl) w h
  · exact (by decide +kernel : ∀ w ∈ u_ws RX0 TX0 9, goodWord w = true) w h
theorem cf0 : CFt 0 RX0 TX0 9 tyX0 := ⟨rfl, inT0, tyX0_ok, nmX0, rfl, rfl, by decide⟩
theorem inT1 : ∀ w ∈ u_ws RX1 TX1 16, w ∈ tb := by
  intro w h
  refine List.mem_filter.mpr ⟨?_, ?_⟩
  · exact (by decide +kernel : ∀ w ∈ u_ws RX1 TX1 16, w ∈ lw_tbl) w h
  · exact (by decide +kernel : ∀ w ∈ u_ws RX1 TX1 16, goodWord w = true) w h
theorem cf1 : CFt 1 RX1 TX1 16 tyX1 := ⟨rfl, inT1, tyX1_ok, nmX1, rfl, rfl, by decide⟩
theorem inT2 : ∀ w ∈ u_ws RX2 TX2 8, w ∈ tb := by
  intro w h
  refine List.mem_filter.mpr ⟨?_, ?_⟩
  · exact (by decide +kernel : ∀ w ∈ u_ws RX2 TX2 8, w ∈ lw_tbl) w h
  · exact (by decide +kernel : ∀ w ∈ u_ws RX2 TX2 8, goodWord w = true) w h
theorem cf2 : CFt 2 RX2 TX2 8 tyX2 := ⟨rfl, inT2, tyX2_ok, nmX2, rfl, rfl, by decide⟩
theorem inT3 : ∀ w ∈ u_ws RX3 TX3 5, w ∈ tb := by
  intro w h
  refine List.mem_filter.mpr ⟨?_, ?_⟩
  · exact (by decide +kernel : ∀ w ∈ u_ws RX3 TX3 5, w ∈ lw_tbl) w h
  · exact (by decide +kernel : ∀ w ∈ u_ws RX3 TX3 5, goodWord w = true) w h
theorem cf3 : CFt 3 RX3 TX3 5 tyX3 := ⟨rfl, inT3, tyX3_ok, nmX3, rfl, rfl, by decide⟩
theorem inT4 : ∀ w ∈ u_ws RX4 TX4 4, w ∈ tb := by
  intro w h
  refine List.mem_filter.mpr ⟨?_, ?_⟩
  · exact (by decide +kernel : ∀ w ∈ u_ws RX4 TX4 4, w ∈ lw_tbl) w h
  · exact (by decide +kernel : ∀ w ∈ u_ws RX4 TX4 4, goodWord w = true) w h
theorem cf4 : CFt 4 RX4 TX4 4 tyX4 := ⟨rfl, inT4, tyX4_ok, nmX4, rfl, rfl, by decide⟩
theorem inT5 : ∀ w ∈ u_ws RX5 TX5 2, w ∈ tb := by
  intro w h
  refine List.mem_filter.mpr ⟨?_, ?_⟩
  · exact (by decide +kernel : ∀ w ∈ u_ws RX5 TX5 2, w ∈ lw_tbl) w h
  · exact (by decide +kernel : ∀ w ∈ u_ws RX5 TX5 2, goodWord w = true) w h
theorem cf5 : CFt 5 RX5 TX5 2 tyX5 := ⟨rfl, inT5, tyX5_ok, nmX5, rfl, rfl, by decide⟩
theorem inT6 : ∀ w ∈ u_ws RX6 TX6 4, w ∈ tb := by
  intro w h
  refine List.mem_filter.mpr ⟨?_, ?_⟩
  · exact (by decide +kernel : ∀ w ∈ u_ws RX6 TX6 4, w ∈ lw_tbl) w h
  · exact (by decide +kernel : ∀ w ∈ u_ws RX6 TX6 4, goodWord w = true) w h
theorem cf6 : CFt 6 RX6 TX6 4 tyX6 := ⟨rfl, inT6, tyX6_ok, nmX6, rfl, rfl, by decide⟩
theorem inT7 : ∀ w ∈ u_ws RX7 TX7 5, w ∈ tb := by
  intro w h
  refine List.mem_filter.mpr ⟨?_, ?_⟩
  · exact (by decide +kernel : ∀ w ∈ u_ws RX7 TX7 5, w ∈ lw_tbl) w h
  · exact (by decide +kernel : ∀ w ∈ u_ws RX7 TX7 5, goodWord w = true) w h
theorem cf7 : CFt 7 RX7 TX7 5 tyX7 := ⟨rfl, inT7, tyX7_ok, nmX7, rfl, rfl, by decide⟩
theorem inT8 : ∀ w ∈ u_ws RX8 TX8 40, w ∈ tb := by
  intro w h
  refine List.mem_filter.mpr ⟨?_, ?_⟩
  · exact (by decide +kernel : ∀ w ∈ u_ws RX8 TX8 40, w ∈ lw_tbl) w h
  · exact (by decide +kernel : ∀ w ∈ u_ws RX8 TX8 40, goodWord w = true) w h
theorem cf8 : CFt 8 RX8 TX8 40 tyX8 := ⟨rfl, inT8, tyX8_ok, nmX8, rfl, rfl, by decide⟩
theorem wl_X0_9 : Cond.fieldLink RX0 9 (TX0 0).1 (TX0 0).2.1 (TX0 0).2.2.1 ∈ tb := memW 76 (by decide +kernel) (by decide)
theorem fl_X0_9 : FL RX0 9 0 0 2 := ⟨_, _, _, _, cf0, by decide, wl_X0_9, rfl⟩
theorem fp_X0_9 : FF RX0 9 0 0 2 := ⟨_, _, _, _, cf0, by decide, wl_X0_9, rfl, rfl, rfl, rfl⟩
theorem wl_X7_85 : Cond.fieldLink RX7 85 (TX0 0).1 (TX0 0).2.1 (TX0 0).2.2.1 ∈ tb := memW 77 (by decide +kernel) (by decide)
theorem fl_X7_85 : FL RX7 85 0 0 2 := ⟨_, _, _, _, cf0, by decide, wl_X7_85, rfl⟩
theorem wl_X4_28 : Cond.fieldLink RX4 28 (TX0 1).1 (TX0 1).2.1 (TX0 1).2.2.1 ∈ tb := memW 78 (by decide +kernel) (by decide)
theorem fl_X4_28 : FL RX4 28 0 1 0 := ⟨_, _, _, _, cf0, by decide, wl_X4_28, rfl⟩
theorem fp_X4_28 : FP RX4 28 0 1 0 := ⟨_, _, _, _, cf0, by decide, wl_X4_28, rfl, rfl, rfl⟩
theorem wl_X0_50 : Cond.fieldLink RX0 50 (TX0 1).1 (TX0 1).2.1 (TX0 1).2.2.1 ∈ tb := memW 79 (by decide +kernel) (by decide)
theorem fl_X0_50 : FL RX0 50 0 1 0 := ⟨_, _, _, _, cf0, by decide, wl_X0_50, rfl⟩
theorem fp_X0_50 : FP RX0 50 0 1 0 := ⟨_, _, _, _, cf0, by decide, wl_X0_50, rfl, rfl, rfl⟩
theorem wl_X4_31 : Cond.fieldLink RX4 31 (TX0 2).1 (TX0 2).2.1 (TX0 2).2.2.1 ∈ tb := memW 80 (by decide +kernel) (by decide)
theorem fl_X4_31 : FL RX4 31 0 2 0 := ⟨_, _, _, _, cf0, by decide, wl_X4_31, rfl⟩
theorem fp_X4_31 : FP RX4 31 0 2 0 := ⟨_, _, _, _, cf0, by decide, wl_X4_31, rfl, rfl, rfl⟩
theorem wl_X7_73 : Cond.fieldLink RX7 73 (TX0 2).1 (TX0 2).2.1 (TX0 2).2.2.1 ∈ tb := memW 81 (by decide +kernel) (by decide)
theorem fl_X7_73 : FL RX7 73 0 2 0 := ⟨_, _, _, _, cf0, by decide, wl_X7_73, rfl⟩
theorem fp_X7_73 : FP RX7 73 0 2 0 := ⟨_, _, _, _, cf0, by decide, wl_X7_73, rfl, rfl, rfl⟩
theorem wl_X0_32 : Cond.fieldLink RX0 32 (TX0 2).1 (TX0 2).2.1 (TX0 2).2.2.1 ∈ tb := memW 82 (by decide +kernel) (by decide)
theorem fl_X0_32 : FL RX0 32 0 2 0 := ⟨_, _, _, _, cf0, by decide, wl_X0_32, rfl⟩
theorem fp_X0_32 : FP RX0 32 0 2 0 := ⟨_, _, _, _, cf0, by decide, wl_X0_32, rfl, rfl, rfl⟩
theorem wl_X6_96 : Cond.fieldLink RX6 96 (TX0 2).1 (TX0 2).2.1 (TX0 2).2.2.1 ∈ tb := memW 83 (by decide +kernel) (by decide)
theorem fl_X6_96 : FL RX6 96 0 2 0 := ⟨_, _, _, _, cf0, by decide, wl_X6_96, rfl⟩
theorem fp_X6_96 : FP RX6 96 0 2 0 := ⟨_, _, _, _, cf0, by decide, wl_X6_96, rfl, rfl, rfl⟩
theorem wl_X4_34 : Cond.fieldLink RX4 34 (TX0 3).1 (TX0 3).2.1 (TX0 3).2.2.1 ∈ tb := memW 84 (by decide +kernel) (by decide)
theorem fl_X4_34 : FL RX4 34 0 3 0 := ⟨_, _, _, _, cf0, by decide, wl_X4_34, rfl⟩
theorem fp_X4_34 : FP RX4 34 0 3 0 := ⟨_, _, _, _, cf0, by decide, wl_X4_34, rfl, rfl, rfl⟩
theorem wl_X0_47 : Cond.fieldLink RX0 47 (TX0 3).1 (TX0 3).2.1 (TX0 3).2.2.1 ∈ tb := memW 85 (by decide +kernel) (by decide)
theorem fl_X0_47 : FL RX0 47 0 3 0 := ⟨_, _, _, _, cf0, by decide, wl_X0_47, rfl⟩
theorem fp_X0_47 : FP RX0 47 0 3 0 := ⟨_, _, _, _, cf0, by decide, wl_X0_47, rfl, rfl, rfl⟩
theorem wl_X4_37 : Cond.fieldLink RX4 37 (TX0 4).1 (TX0 4).2.1 (TX0 4).2.2.1 ∈ tb := memW 86 (by decide +kernel) (by decide)
theorem fl_X4_37 : FL RX4 37 0 4 0 := ⟨_, _, _, _, cf0, by decide, wl_X4_37, rfl⟩
theorem fp_X4_37 : FP RX4 37 0 4 0 := ⟨_, _, _, _, cf0, by decide, wl_X4_37, rfl, rfl, rfl⟩
theorem wl_X0_35 : Cond.fieldLink RX0 35 (TX0 4).1 (TX0 4).2.1 (TX0 4).2.2.1 ∈ tb := memW 87 (by decide +kernel) (by decide)
theorem fl_X0_35 : FL RX0 35 0 4 0 := ⟨_, _, _, _, cf0, by decide, wl_X0_35, rfl⟩
theorem fp_X0_35 : FP RX0 35 0 4 0 := ⟨_, _, _, _, cf0, by decide, wl_X0_35, rfl, rfl, rfl⟩
theorem wl_X7_89 : Cond.fieldLink RX7 89 (TX0 5).1 (TX0 5).2.1 (TX0 5).2.2.1 ∈ tb := memW 88 (by decide +kernel) (by decide)
theorem fl_X7_89 : FL RX7 89 0 5 0 := ⟨_, _, _, _, cf0, by decide, wl_X7_89, rfl⟩
theorem fp_X7_89 : FP RX7 89 0 5 0 := ⟨_, _, _, _, cf0, by decide, wl_X7_89, rfl, rfl, rfl⟩
theorem wl_X4_44 : Cond.fieldLink RX4 44 (TX0 5).1 (TX0 5).2.1 (TX0 5).2.2.1 ∈ tb := memW 89 (by decide +kernel) (by decide)
theorem fl_X4_44 : FL RX4 44 0 5 0 := ⟨_, _, _, _, cf0, by decide, wl_X4_44, rfl⟩
theorem fp_X4_44 : FP RX4 44 0 5 0 := ⟨_, _, _, _, cf0, by decide, wl_X4_44, rfl, rfl, rfl⟩
theorem wl_X0_56 : Cond.fieldLink RX0 56 (TX0 6).1 (TX0 6).2.1 (TX0 6).2.2.1 ∈ tb := memW 90 (by decide +kernel) (by decide)
theorem fl_X0_56 : FL RX0 56 0 6 0 := ⟨_, _, _, _, cf0, by decide, wl_X0_56, rfl⟩
theorem fp_X0_56 : FP RX0 56 0 6 0 := ⟨_, _, _, _, cf0, by decide, wl_X0_56, rfl, rfl, rfl⟩
theorem wl_X7_180 : Cond.fieldLink RX7 180 (TX0 6).1 (TX0 6).2.1 (TX0 6).2.2.1 ∈ tb := memW 91 (by decide +kernel) (by decide)
theorem fl_X7_180 : FL RX7 180 0 6 0 := ⟨_, _, _, _, cf0, by decide, wl_X7_180, rfl⟩
theorem fp_X7_180 : FP RX7 180 0 6 0 := ⟨_, _, _, _, cf0, by decide, wl_X7_180, rfl, rfl, rfl⟩
theorem wl_X0_15 : Cond.fieldLink RX0 15 (TX0 7).1 (TX0 7).2.1 (TX0 7).2.2.1 ∈ tb := memW 92 (by decide +kernel) (by decide)
theorem fl_X0_15 : FL RX0 15 0 7 0 := ⟨_, _, _, _, cf0, by decide, wl_X0_15, rfl⟩
theorem fp_X0_15 : FP RX0 15 0 7 0 := ⟨_, _, _, _, cf0, by decide, wl_X0_15, rfl, rfl, rfl⟩
theorem wl_X7_183 : Cond.fieldLink RX7 183 (TX0 7).1 (TX0 7).2.1 (TX0 7).2.2.1 ∈ tb := memW 93 (by decide +kernel) (by decide)
theorem fl_X7_183 : FL RX7 183 0 7 0 := ⟨_, _, _, _, cf0, by decide, wl_X7_183, rfl⟩
theorem fp_X7_183 : FP RX7 183 0 7 0 := ⟨_, _, _, _, cf0, by decide, wl_X7_183, rfl, rfl, rfl⟩
theorem wl_X0_19 : Cond.fieldLink RX0 19 (TX0 8).1 (TX0 8).2.1 (TX0 8).2.2.1 ∈ tb := memW 94 (by decide +kernel) (by decide)
theorem fl_X0_19 : FL RX0 19 0 8 0 := ⟨_, _, _, _, cf0, by decide, wl_X0_19, rfl⟩
theorem fp_X0_19 : FP RX0 19 0 8 0 := ⟨_, _, _, _, cf0, by decide, wl_X0_19, rfl, rfl, rfl⟩
theorem wl_X4_25 : Cond.fieldLink RX4 25 (TX0 8).1 (TX0 8).2.1 (TX0 8).2.2.1 ∈ tb := memW 95 (by decide +kernel) (by decide)
theorem fl_X4_25 : FL RX4 25 0 8 0 := ⟨_, _, _, _, cf0, by decide, wl_X4_25, rfl⟩
theorem fp_X4_25 : FP RX4 25 0 8 0 := ⟨_, _, _, _, cf0, by decide, wl_X4_25, rfl, rfl, rfl⟩
theorem wl_X6_104 : Cond.fieldLink RX6 104 (TX0 8).1 (TX0 8).2.1 (TX0 8).2.2.1 ∈ tb := memW 96 (by decide +kernel) (by decide)
theorem fl_X6_104 : FL RX6 104 0 8 0 := ⟨_, _, _, _, cf0, by decide, wl_X6_104, rfl⟩
theorem fp_X6_104 : FP RX6 104 0 8 0 := ⟨_, _, _, _, cf0, by decide, wl_X6_104, rfl, rfl, rfl⟩
theorem wl_X7_174 : Cond.fieldLink RX7 174 (TX0 8).1 (TX0 8).2.1 (TX0 8).2.2.1 ∈ tb := memW 97 (by decide +kernel) (by decide)
theorem fl_X7_174 : FL RX7 174 0 8 0 := ⟨_, _, _, _, cf0, by decide, wl_X7_174, rfl⟩
theorem fp_X7_174 : FP RX7 174 0 8 0 := ⟨_, _, _, _, cf0, by decide, wl_X7_174, rfl, rfl, rfl⟩
theorem wl_X4_11 : Cond.fieldLink RX4 11 (TX4 0).1 (TX4 0).2.1 (TX4 0).2.2.1 ∈ tb := memW 118 (by decide +kernel) (by decide)
theorem fl_X4_11 : FL RX4 11 4 0 2 := ⟨_, _, _, _, cf4, by decide, wl_X4_11, rfl⟩
theorem fp_X4_11 : FF RX4 11 4 0 2 := ⟨_, _, _, _, cf4, by decide, wl_X4_11, rfl, rfl, rfl, rfl⟩
theorem wl_X6_70 : Cond.fieldLink RX6 70 (TX4 0).1 (TX4 0).2.1 (TX4 0).2.2.1 ∈ tb := memW 119 (by decide +kernel) (by decide)
theorem fl_X6_70 : FL RX6 70 4 0 2 := ⟨_, _, _, _, cf4, by decide, wl_X6_70, rfl⟩
theorem wl_X4_22 : Cond.fieldLink RX4 22 (TX4 1).1 (TX4 1).2.1 (TX4 1).2.2.1 ∈ tb := memW 120 (by decide +kernel) (by decide)
theorem fl_X4_22 : FL RX4 22 4 1 0 := ⟨_, _, _, _, cf4, by decide, wl_X4_22, rfl⟩
theorem fp_X4_22 : FP RX4 22 4 1 0 := ⟨_, _, _, _, cf4, by decide, wl_X4_22, rfl, rfl, rfl⟩
theorem wl_X7_50 : Cond.fieldLink RX7 50 (TX4 1).1 (TX4 1).2.1 (TX4 1).2.2.1 ∈ tb := memW 121 (by decide +kernel) (by decide)
theorem fl_X7_50 : FL RX7 50 4 1 0 := ⟨_, _, _, _, cf4, by decide, wl_X7_50, rfl⟩
theorem fp_X7_50 : FP RX7 50 4 1 0 := ⟨_, _, _, _, cf4, by decide, wl_X7_50, rfl, rfl, rfl⟩
theorem wl_X4_17 : Cond.fieldLink RX4 17 (TX4 2).1 (TX4 2).2.1 (TX4 2).2.2.1 ∈ tb := memW 122 (by decide +kernel) (by decide)
theorem fl_X4_17 : FL RX4 17 4 2 0 := ⟨_, _, _, _, cf4, by decide, wl_X4_17, rfl⟩
theorem fp_X4_17 : FP RX4 17 4 2 0 := ⟨_, _, _, _, cf4, by decide, wl_X4_17, rfl, rfl, rfl⟩
theorem wl_X7_54 : Cond.fieldLink RX7 54 (TX4 2).1 (TX4 2).2.1 (TX4 2).2.2.1 ∈ tb := memW 123 (by decide +kernel) (by decide)
theorem fl_X7_54 : FL RX7 54 4 2 0 := ⟨_, _, _, _, cf4, by decide, wl_X7_54, rfl⟩
theorem fp_X7_54 : FP RX7 54 4 2 0 := ⟨_, _, _, _, cf4, by decide, wl_X7_54, rfl, rfl, rfl⟩
theorem wl_X6_61 : Cond.fieldLink RX6 61 (TX4 2).1 (TX4 2).2.1 (TX4 2).2.2.1 ∈ tb := memW 124 (by decide +kernel) (by decide)
theorem fl_X6_61 : FL RX6 61 4 2 0 := ⟨_, _, _, _, cf4, by decide, wl_X6_61, rfl⟩
theorem fp_X6_61 : FP RX6 61 4 2 0 := ⟨_, _, _, _, cf4, by decide, wl_X6_61, rfl, rfl, rfl⟩
theorem wl_X4_63 : Cond.fieldLink RX4 63 (TX4 3).1 (TX4 3).2.1 (TX4 3).2.2.1 ∈ tb := memW 125 (by decide +kernel) (by decide)
theorem fl_X4_63 : FL RX4 63 4 3 0 := ⟨_, _, _, _, cf4, by decide, wl_X4_63, rfl⟩
theorem fp_X4_63 : FP RX4 63 4 3 0 := ⟨_, _, _, _, cf4, by decide, wl_X4_63, rfl, rfl, rfl⟩
theorem wl_X7_270 : Cond.fieldLink RX7 270 (TX4 3).1 (TX4 3).2.1 (TX4 3).2.2.1 ∈ tb := memW 126 (by decide +kernel) (by decide)
theorem fl_X7_270 : FL RX7 270 4 3 0 := ⟨_, _, _, _, cf4, by decide, wl_X7_270, rfl⟩
theorem fp_X7_270 : FP RX7 270 4 3 0 := ⟨_, _, _, _, cf4, by decide, wl_X7_270, rfl, rfl, rfl⟩
theorem wl_X1_23 : Cond.fieldLink RX1 23 (TX1 0).1 (TX1 0).2.1 (TX1 0).2.2.1 ∈ tb := memW 150 (by decide +kernel) (by decide)
theorem fl_X1_23 : FL RX1 23 1 0 0 := ⟨_, _, _, _, cf1, by decide, wl_X1_23, rfl⟩
theorem fp_X1_23 : FF RX1 23 1 0 0 := ⟨_, _, _, _, cf1, by decide, wl_X1_23, rfl, rfl, rfl, rfl⟩
theorem wl_X7_130 : Cond.fieldLink RX7 130 (TX1 0).1 (TX1 0).2.1 (TX1 0).2.2.1 ∈ tb := memW 151 (by decide +kernel) (by decide)
theorem fl_X7_130 : FL RX7 130 1 0 0 := ⟨_, _, _, _, cf1, by decide, wl_X7_130, rfl⟩
theorem wl_X1_9 : Cond.fieldLink RX1 9 (TX1 1).1 (TX1 1).2.1 (TX1 1).2.2.1 ∈ tb := memW 152 (by decide +kernel) (by decide)
theorem fl_X1_9 : FL RX1 9 1 1 2 := ⟨_, _, _, _, cf1, by decide, wl_X1_9, rfl⟩
theorem fp_X1_9 : FF RX1 9 1 1 2 := ⟨_, _, _, _, cf1, by decide, wl_X1_9, rfl, rfl, rfl, rfl⟩
theorem wl_X5_62 : Cond.fieldLink RX5 62 (TX1 1).1 (TX1 1).2.1 (TX1 1).2.2.1 ∈ tb := memW 153 (by decide +kernel) (by decide)
theorem fl_X5_62 : FL RX5 62 1 1 2 := ⟨_, _, _, _, cf1, by decide, wl_X5_62, rfl⟩
theorem wl_X7_123 : Cond.fieldLink RX7 123 (TX1 1).1 (TX1 1).2.1 (TX1 1).2.2.1 ∈ tb := memW 154 (by decide +kernel) (by decide)
theorem fl_X7_123 : FL RX7 123 1 1 2 := ⟨_, _, _, _, cf1, by decide, wl_X7_123, rfl⟩
theorem wl_X6_123 : Cond.fieldLink RX6 123 (TX1 1).1 (TX1 1).2.1 (TX1 1).2.2.1 ∈ tb := memW 155 (by decide +kernel) (by decide)
theorem fl_X6_123 : FL RX6 123 1 1 2 := ⟨_, _, _, _, cf1, by decide, wl_X6_123, rfl⟩
theorem wl_X1_15 : Cond.fieldLink RX1 15 (TX1 2).1 (TX1 2).2.1 (TX1 2).2.2.1 ∈ tb := memW 156 (by decide +kernel) (by decide)
theorem fl_X1_15 : FL RX1 15 1 2 2 := ⟨_, _, _, _, cf1, by decide, wl_X1_15, rfl⟩
theorem fp_X1_15 : FF RX1 15 1 2 2 := ⟨_, _, _, _, cf1, by decide, wl_X1_15, rfl, rfl, rfl, rfl⟩
theorem wl_X5_48 : Cond.fieldLink RX5 48 (TX1 3).1 (TX1 3).2.1 (TX1 3).2.2.1 ∈ tb := memW 157 (by decide +kernel) (by decide)
theorem fl_X5_48 : FL RX5 48 1 3 2 := ⟨_, _, _, _, cf1, by decide, wl_X5_48, rfl⟩
theorem fp_X5_48 : FP RX5 48 1 3 2 := ⟨_, _, _, _, cf1, by decide, wl_X5_48, rfl, rfl, rfl⟩
theorem wl_X3_43 : Cond.fieldLink RX3 43 (TX1 3).1 (TX1 3).2.1 (TX1 3).2.2.1 ∈ tb := memW 158 (by decide +kernel) (by decide)
theorem fl_X3_43 : FL RX3 43 1 3 2 := ⟨_, _, _, _, cf1, by decide, wl_X3_43, rfl⟩
theorem fp_X3_43 : FP RX3 43 1 3 2 := ⟨_, _, _, _, cf1, by decide, wl_X3_43, rfl, rfl, rfl⟩
theorem wl_X7_133 : Cond.fieldLink RX7 133 (TX1 3).1 (TX1 3).2.1 (TX1 3).2.2.1 ∈ tb := memW 159 (by decide +kernel) (by decide)
theorem fl_X7_133 : FL RX7 133 1 3 2 := ⟨_, _, _, _, cf1, by decide, wl_X7_133, rfl⟩
theorem fp_X7_133 : FP RX7 133 1 3 2 := ⟨_, _, _, _, cf1, by decide, wl_X7_133, rfl, rfl, rfl⟩
theorem wl_X5_78 : Cond.fieldLink RX5 78 (TX1 4).1 (TX1 4).2.1 (TX1 4).2.2.1 ∈ tb := memW 160 (by decide +kernel) (by decide)
theorem fl_X5_78 : FL RX5 78 1 4 0 := ⟨_, _, _, _, cf1, by decide, wl_X5_78, rfl⟩
theorem fp_X5_78 : FP RX5 78 1 4 0 := ⟨_, _, _, _, cf1, by decide, wl_X5_78, rfl, rfl, rfl⟩
theorem wl_X1_32 : Cond.fieldLink RX1 32 (TX1 4).1 (TX1 4).2.1 (TX1 4).2.2.1 ∈ tb := memW 161 (by decide +kernel) (by decide)
theorem fl_X1_32 : FL RX1 32 1 4 0 := ⟨_, _, _, _, cf1, by decide, wl_X1_32, rfl⟩
theorem fp_X1_32 : FP RX1 32 1 4 0 := ⟨_, _, _, _, cf1, by decide, wl_X1_32, rfl, rfl, rfl⟩
theorem wl_X3_47 : Cond.fieldLink RX3 47 (TX1 4).1 (TX1 4).2.1 (TX1 4).2.2.1 ∈ tb := memW 162 (by decide +kernel) (by decide)
theorem fl_X3_47 : FL RX3 47 1 4 0 := ⟨_, _, _, _, cf1, by decide, wl_X3_47, rfl⟩
theorem fp_X3_47 : FP RX3 47 1 4 0 := ⟨_, _, _, _, cf1, by decide, wl_X3_47, rfl, rfl, rfl⟩
theorem wl_X7_137 : Cond.fieldLink RX7 137 (TX1 4).1 (TX1 4).2.1 (TX1 4).2.2.1 ∈ tb := memW 163 (by decide +kernel) (by decide)
theorem fl_X7_137 : FL RX7 137 1 4 0 := ⟨_, _, _, _, cf1, by decide, wl_X7_137, rfl⟩
theorem fp_X7_137 : FP RX7 137 1 4 0 := ⟨_, _, _, _, cf1, by decide, wl_X7_137, rfl, rfl, rfl⟩
theorem wl_X6_120 : Cond.fieldLink RX6 120 (TX1 4).1 (TX1 4).2.1 (TX1 4).2.2.1 ∈ tb := memW 164 (by decide +kernel) (by decide)
theorem fl_X6_120 : FL RX6 120 1 4 0 := ⟨_, _, _, _, cf1, by decide, wl_X6_120, rfl⟩
theorem fp_X6_120 : FP RX6 120 1 4 0 := ⟨_, _, _, _, cf1, by decide, wl_X6_120, rfl, rfl, rfl⟩
theorem wl_X1_19 : Cond.fieldLink RX1 19 (TX1 5).1 (TX1 5).2.1 (TX1 5).2.2.1 ∈ tb := memW 165 (by decide +kernel) (by decide)
theorem fl_X1_19 : FL RX1 19 1 5 0 := ⟨_, _, _, _, cf1, by decide, wl_X1_19, rfl⟩
theorem fp_X1_19 : FP RX1 19 1 5 0 := ⟨_, _, _, _, cf1, by decide, wl_X1_19, rfl, rfl, rfl⟩
theorem wl_X3_50 : Cond.fieldLink RX3 50 (TX1 5).1 (TX1 5).2.1 (TX1 5).2.2.1 ∈ tb := memW 166 (by decide +kernel) (by decide)
theorem fl_X3_50 : FL RX3 50 1 5 0 := ⟨_, _, _, _, cf1, by decide, wl_X3_50, rfl⟩
theorem fp_X3_50 : FP RX3 50 1 5 0 := ⟨_, _, _, _, cf1, by decide, wl_X3_50, rfl, rfl, rfl⟩
theorem wl_X7_140 : Cond.fieldLink RX7 140 (TX1 5).1 (TX1 5).2.1 (TX1 5).2.2.1 ∈ tb := memW 167 (by decide +kernel) (by decide)
theorem fl_X7_140 : FL RX7 140 1 5 0 := ⟨_, _, _, _, cf1, by decide, wl_X7_140, rfl⟩
theorem fp_X7_140 : FP RX7 140 1 5 0 := ⟨_, _, _, _, cf1, by decide, wl_X7_140, rfl, rfl, rfl⟩
theorem wl_X5_106 : Cond.fieldLink RX5 106 (TX1 5).1 (TX1 5).2.1 (TX1 5).2.2.1 ∈ tb := memW 168 (by decide +kernel) (by decide)
theorem fl_X5_106 : FL RX5 106 1 5 0 := ⟨_, _, _, _, cf1, by decide, wl_X5_106, rfl⟩
theorem fp_X5_106 : FP RX5 106 1 5 0 := ⟨_, _, _, _, cf1, by decide, wl_X5_106, rfl, rfl, rfl⟩
theorem wl_X1_26 : Cond.fieldLink RX1 26 (TX1 6).1 (TX1 6).2.1 (TX1 6).2.2.1 ∈ tb := memW 169 (by decide +kernel) (by decide)
theorem fl_X1_26 : FL RX1 26 1 6 0 := ⟨_, _, _, _, cf1, by decide, wl_X1_26, rfl⟩
theorem fp_X1_26 : FP RX1 26 1 6 0 := ⟨_, _, _, _, cf1, by decide, wl_X1_26, rfl, rfl, rfl⟩
theorem wl_X7_143 : Cond.fieldLink RX7 143 (TX1 6).1 (TX1 6).2.1 (TX1 6).2.2.1 ∈ tb := memW 170 (by decide +kernel) (by decide)
theorem fl_X7_143 : FL RX7 143 1 6 0 := ⟨_, _, _, _, cf1, by decide, wl_X7_143, rfl⟩
theorem fp_X7_143 : FP RX7 143 1 6 0 := ⟨_, _, _, _, cf1, by decide, wl_X7_143, rfl, rfl, rfl⟩
theorem wl_X6_113 : Cond.fieldLink RX6 113 (TX1 6).1 (TX1 6).2.1 (TX1 6).2.2.1 ∈ tb := memW 171 (by decide +kernel) (by decide)
theorem fl_X6_113 : FL RX6 113 1 6 0 := ⟨_, _, _, _, cf1, by decide, wl_X6_113, rfl⟩
theorem fp_X6_113 : FP RX6 113 1 6 0 := ⟨_, _, _, _, cf1, by decide, wl_X6_113, rfl, rfl, rfl⟩
theorem wl_X1_29 : Cond.fieldLink RX1 29 (TX1 7).1 (TX1 7).2.1 (TX1 7).2.2.1 ∈ tb := memW 172 (by decide +kernel) (by decide)
theorem fl_X1_29 : FL RX1 29 1 7 0 := ⟨_, _, _, _, cf1, by decide, wl_X1_29, rfl⟩
theorem fp_X1_29 : FP RX1 29 1 7 0 := ⟨_, _, _, _, cf1, by decide, wl_X1_29, rfl, rfl, rfl⟩
theorem wl_X7_110 : Cond.fieldLink RX7 110 (TX1 7).1 (TX1 7).2.1 (TX1 7).2.2.1 ∈ tb := memW 173 (by decide +kernel) (by decide)
theorem fl_X7_110 : FL RX7 110 1 7 0 := ⟨_, _, _, _, cf1, by decide, wl_X7_110, rfl⟩
theorem fp_X7_110 : FP RX7 110 1 7 0 := ⟨_, _, _, _, cf1, by decide, wl_X7_110, rfl, rfl, rfl⟩
theorem wl_X3_61 : Cond.fieldLink RX3 61 (TX1 7).1 (TX1 7).2.1 (TX1 7).2.2.1 ∈ tb := memW 174 (by decide +kernel) (by decide)
theorem fl_X3_61 : FL RX3 61 1 7 0 := ⟨_, _, _, _, cf1, by decide, wl_X3_61, rfl⟩
theorem fp_X3_61 : FP RX3 61 1 7 0 := ⟨_, _, _, _, cf1, by decide, wl_X3_61, rfl, rfl, rfl⟩
theorem wl_X6_47 : Cond.fieldLink RX6 47 (TX1 8).1 (TX1 8).2.1 (TX1 8).2.2.1 ∈ tb := memW 175 (by decide +kernel) (by decide)
theorem fl_X6_47 : FL RX6 47 1 8 2 := ⟨_, _, _, _, cf1, by decide, wl_X6_47, rfl⟩
theorem fp_X6_47 : FP RX6 47 1 8 2 := ⟨_, _, _, _, cf1, by decide, wl_X6_47, rfl, rfl, rfl⟩
theorem wl_X6_58 : Cond.fieldLink RX6 58 (TX1 9).1 (TX1 9).2.1 (TX1 9).2.2.1 ∈ tb := memW 176 (by decide +kernel) (by decide)
theorem fl_X6_58 : FL RX6 58 1 9 2 := ⟨_, _, _, _, cf1, by decide, wl_X6_58, rfl⟩
theorem fp_X6_58 : FP RX6 58 1 9 2 := ⟨_, _, _, _, cf1, by decide, wl_X6_58, rfl, rfl, rfl⟩
theorem wl_X6_55 : Cond.fieldLink RX6 55 (TX1 10).1 (TX1 10).2.1 (TX1 10).2.2.1 ∈ tb := memW 177 (by decide +kernel) (by decide)
theorem fl_X6_55 : FL RX6 55 1 10 0 := ⟨_, _, _, _, cf1, by decide, wl_X6_55, rfl⟩
theorem fp_X6_55 : FP RX6 55 1 10 0 := ⟨_, _, _, _, cf1, by decide, wl_X6_55, rfl, rfl, rfl⟩
theorem wl_X5_29 : Cond.fieldLink RX5 29 (TX1 11).1 (TX1 11).2.1 (TX1 11).2.2.1 ∈ tb := memW 178 (by decide +kernel) (by decide)
theorem fl_X5_29 : FL RX5 29 1 11 0 := ⟨_, _, _, _, cf1, by decide, wl_X5_29, rfl⟩
theorem fp_X5_29 : FZ RX5 29 1 11 := ⟨_, _, _, _, cf1, by decide, wl_X5_29, rfl, rfl⟩
theorem wl_X5_35 : Cond.fieldLink RX5 35 (TX1 12).1 (TX1 12).2.1 (TX1 12).2.2.1 ∈ tb := memW 179 (by decide +kernel) (by decide)
theorem fl_X5_35 : FL RX5 35 1 12 0 := ⟨_, _, _, _, cf1, by decide, wl_X5_35, rfl⟩
theorem fp_X5_35 : FP RX5 35 1 12 0 := ⟨_, _, _, _, cf1, by decide, wl_X5_35, rfl, rfl, rfl⟩
theorem wl_X5_38 : Cond.fieldLink RX5 38 (TX1 13).1 (TX1 13).2.1 (TX1 13).2.2.1 ∈ tb := memW 180 (by decide +kernel) (by decide)
theorem fl_X5_38 : FL RX5 38 1 13 0 := ⟨_, _, _, _, cf1, by decide, wl_X5_38, rfl⟩
theorem fp_X5_38 : FP RX5 38 1 13 0 := ⟨_, _, _, _, cf1, by decide, wl_X5_38, rfl, rfl, rfl⟩
theorem wl_X5_41 : Cond.fieldLink RX5 41 (TX1 14).1 (TX1 14).2.1 (TX1 14).2.2.1 ∈ tb := memW 181 (by decide +kernel) (by decide)
theorem fl_X5_41 : FL RX5 41 1 14 1 := ⟨_, _, _, _, cf1, by decide, wl_X5_41, rfl⟩
theorem fp_X5_41 : FP RX5 41 1 14 1 := ⟨_, _, _, _, cf1, by decide, wl_X5_41, rfl, rfl, rfl⟩
theorem wl_X5_45 : Cond.fieldLink RX5 45 (TX1 15).1 (TX1 15).2.1 (TX1 15).2.2.1 ∈ tb := memW 182 (by decide +kernel) (by decide)
theorem fl_X5_45 : FL RX5 45 1 15 0 := ⟨_, _, _, _, cf1, by decide, wl_X5_45, rfl⟩
theorem fp_X5_45 : FZ RX5 45 1 15 := ⟨_, _, _, _, cf1, by decide, wl_X5_45, rfl, rfl⟩
theorem wl_X3_11 : Cond.fieldLink RX3 11 (TX3 0).1 (TX3 0).2.1 (TX3 0).2.2.1 ∈ tb := memW 217 (by decide +kernel) (by decide)
theorem fl_X3_11 : FL RX3 11 3 0 2 := ⟨_, _, _, _, cf3, by decide, wl_X3_11, rfl⟩
theorem fp_X3_11 : FF RX3 11 3 0 2 := ⟨_, _, _, _, cf3, by decide, wl_X3_11, rfl, rfl, rfl, rfl⟩
theorem wl_X5_25 : Cond.fieldLink RX5 25 (TX3 0).1 (TX3 0).2.1 (TX3 0).2.2.1 ∈ tb := memW 218 (by decide +kernel) (by decide)
theorem fl_X5_25 : FL RX5 25 3 0 2 := ⟨_, _, _, _, cf3, by decide, wl_X5_25, rfl⟩
theorem wl_X3_17 : Cond.fieldLink RX3 17 (TX3 1).1 (TX3 1).2.1 (TX3 1).2.2.1 ∈ tb := memW 219 (by decide +kernel) (by decide)
theorem fl_X3_17 : FL RX3 17 3 1 2 := ⟨_, _, _, _, cf3, by decide, wl_X3_17, rfl⟩
theorem fp_X3_17 : FF RX3 17 3 1 2 := ⟨_, _, _, _, cf3, by decide, wl_X3_17, rfl, rfl, rfl, rfl⟩
theorem wl_X7_96 : Cond.fieldLink RX7 96 (TX3 1).1 (TX3 1).2.1 (TX3 1).2.2.1 ∈ tb := memW 220 (by decide +kernel) (by decide)
theorem fl_X7_96 : FL RX7 96 3 1 2 := ⟨_, _, _, _, cf3, by decide, wl_X7_96, rfl⟩
theorem wl_X3_21 : Cond.fieldLink RX3 21 (TX3 2).1 (TX3 2).2.1 (TX3 2).2.2.1 ∈ tb := memW 221 (by decide +kernel) (by decide)
theorem fl_X3_21 : FL RX3 21 3 2 0 := ⟨_, _, _, _, cf3, by decide, wl_X3_21, rfl⟩
theorem fp_X3_21 : FP RX3 21 3 2 0 := ⟨_, _, _, _, cf3, by decide, wl_X3_21, rfl, rfl, rfl⟩
theorem wl_X5_19 : Cond.fieldLink RX5 19 (TX3 2).1 (TX3 2).2.1 (TX3 2).2.2.1 ∈ tb := memW 222 (by decide +kernel) (by decide)
theorem fl_X5_19 : FL RX5 19 3 2 0 := ⟨_, _, _, _, cf3, by decide, wl_X5_19, rfl⟩
theorem fp_X5_19 : FP RX5 19 3 2 0 := ⟨_, _, _, _, cf3, by decide, wl_X5_19, rfl, rfl, rfl⟩
theorem wl_X7_61 : Cond.fieldLink RX7 61 (TX3 2).1 (TX3 2).2.1 (TX3 2).2.2.1 ∈ tb := memW 223 (by decide +kernel) (by decide)
theorem fl_X7_61 : FL RX7 61 3 2 0 := ⟨_, _, _, _, cf3, by decide, wl_X7_61, rfl⟩
theorem fp_X7_61 : FP RX7 61 3 2 0 := ⟨_, _, _, _, cf3, by decide, wl_X7_61, rfl, rfl, rfl⟩
theorem wl_X3_25 : Cond.fieldLink RX3 25 (TX3 3).1 (TX3 3).2.1 (TX3 3).2.2.1 ∈ tb := memW 224 (by decide +kernel) (by decide)
theorem fl_X3_25 : FL RX3 25 3 3 0 := ⟨_, _, _, _, cf3, by decide, wl_X3_25, rfl⟩
theorem fp_X3_25 : FP RX3 25 3 3 0 := ⟨_, _, _, _, cf3, by decide, wl_X3_25, rfl, rfl, rfl⟩
theorem wl_X7_146 : Cond.fieldLink RX7 146 (TX3 3).1 (TX3 3).2.1 (TX3 3).2.2.1 ∈ tb := memW 225 (by decide +kernel) (by decide)
theorem fl_X7_146 : FL RX7 146 3 3 0 := ⟨_, _, _, _, cf3, by decide, wl_X7_146, rfl⟩
theorem fp_X7_146 : FP RX7 146 3 3 0 := ⟨_, _, _, _, cf3, by decide, wl_X7_146, rfl, rfl, rfl⟩
theorem wl_X3_28 : Cond.fieldLink RX3 28 (TX3 4).1 (TX3 4).2.1 (TX3 4).2.2.1 ∈ tb := memW 226 (by decide +kernel) (by decide)
theorem fl_X3_28 : FL RX3 28 3 4 0 := ⟨_, _, _, _, cf3, by decide, wl_X3_28, rfl⟩
theorem fp_X3_28 : FP RX3 28 3 4 0 := ⟨_, _, _, _, cf3, by decide, wl_X3_28, rfl, rfl, rfl⟩
theorem wl_X7_107 : Cond.fieldLink RX7 107 (TX3 4).1 (TX3 4).2.1 (TX3 4).2.2.1 ∈ tb := memW 227 (by decide +kernel) (by decide)
theorem fl_X7_107 : FL RX7 107 3 4 0 := ⟨_, _, _, _, cf3, by decide, wl_X7_107, rfl⟩
theorem fp_X7_107 : FP RX7 107 3 4 0 := ⟨_, _, _, _, cf3, by decide, wl_X7_107, rfl, rfl, rfl⟩
theorem wl_X6_13 : Cond.fieldLink RX6 13 (TX6 0).1 (TX6 0).2.1 (TX6 0).2.2.1 ∈ tb := memW 245 (by decide +kernel) (by decide)
theorem fl_X6_13 : FL RX6 13 6 0 2 := ⟨_, _, _, _, cf6, by decide, wl_X6_13, rfl⟩
theorem fp_X6_13 : FF RX6 13 6 0 2 := ⟨_, _, _, _, cf6, by decide, wl_X6_13, rfl, rfl, rfl, rfl⟩
theorem wl_X6_17 : Cond.fieldLink RX6 17 (TX6 1).1 (TX6 1).2.1 (TX6 1).2.2.1 ∈ tb := memW 246 (by decide +kernel) (by decide)
theorem fl_X6_17 : FL RX6 17 6 1 2 := ⟨_, _, _, _, cf6, by decide, wl_X6_17, rfl⟩
theorem fp_X6_17 : FF RX6 17 6 1 2 := ⟨_, _, _, _, cf6, by decide, wl_X6_17, rfl, rfl, rfl, rfl⟩
theorem wl_X6_7 : Cond.fieldLink RX6 7 (TX6 2).1 (TX6 2).2.1 (TX6 2).2.2.1 ∈ tb := memW 247 (by decide +kernel) (by decide)
theorem fl_X6_7 : FL RX6 7 6 2 0 := ⟨_, _, _, _, cf6, by decide, wl_X6_7, rfl⟩
theorem fp_X6_7 : FP RX6 7 6 2 0 := ⟨_, _, _, _, cf6, by decide, wl_X6_7, rfl, rfl, rfl⟩
theorem wl_X6_35 : Cond.fieldLink RX6 35 (TX6 3).1 (TX6 3).2.1 (TX6 3).2.2.1 ∈ tb := memW 248 (by decide +kernel) (by decide)
theorem fl_X6_35 : FL RX6 35 6 3 0 := ⟨_, _, _, _, cf6, by decide, wl_X6_35, rfl⟩
theorem fp_X6_35 : FP RX6 35 6 3 0 := ⟨_, _, _, _, cf6, by decide, wl_X6_35, rfl, rfl, rfl⟩
theorem wl_X5_9 : Cond.fieldLink RX5 9 (TX5 0).1 (TX5 0).2.1 (TX5 0).2.2.1 ∈ tb := memW 264 (by decide +kernel) (by decide)
theorem fl_X5_9 : FL RX5 9 5 0 2 := ⟨_, _, _, _, cf5, by decide, wl_X5_9, rfl⟩
theorem fp_X5_9 : FF RX5 9 5 0 2 := ⟨_, _, _, _, cf5, by decide, wl_X5_9, rfl, rfl, rfl, rfl⟩
theorem wl_X5_15 : Cond.fieldLink RX5 15 (TX5 1).1 (TX5 1).2.1 (TX5 1).2.2.1 ∈ tb := memW 265 (by decide +kernel) (by decide)
theorem fl_X5_15 : FL RX5 15 5 1 2 := ⟨_, _, _, _, cf5, by decide, wl_X5_15, rfl⟩
theorem fp_X5_15 : FF RX5 15 5 1 2 := ⟨_, _, _, _, cf5, by decide, wl_X5_15, rfl, rfl, rfl, rfl⟩
theorem wl_X2_9 : Cond.fieldLink RX2 9 (TX2 0).1 (TX2 0).2.1 (TX2 0).2.2.1 ∈ tb := memW 277 (by decide +kernel) (by decide)
theorem fl_X2_9 : FL RX2 9 2 0 2 := ⟨_, _, _, _, cf2, by decide, wl_X2_9, rfl⟩
theorem fp_X2_9 : FF RX2 9 2 0 2 := ⟨_, _, _, _, cf2, by decide, wl_X2_9, rfl, rfl, rfl, rfl⟩
theorem wl_X2_15 : Cond.fieldLink RX2 15 (TX2 1).1 (TX2 1).2.1 (TX2 1).2.2.1 ∈ tb := memW 278 (by decide +kernel) (by decide)
theorem fl_X2_15 : FL RX2 15 2 1 2 := ⟨_, _, _, _, cf2, by decide, wl_X2_15, rfl⟩
theorem fp_X2_15 : FF RX2 15 2 1 2 := ⟨_, _, _, _, cf2, by decide, wl_X2_15, rfl, rfl, rfl, rfl⟩
theorem wl_X7_237 : Cond.fieldLink RX7 237 (TX2 1).1 (TX2 1).2.1 (TX2 1).2.2.1 ∈ tb := memW 279 (by decide +kernel) (by decide)
theorem fl_X7_237 : FL RX7 237 2 1 2 := ⟨_, _, _, _, cf2, by decide, wl_X7_237, rfl⟩
theorem wl_X2_18 : Cond.fieldLink RX2 18 (TX2 2).1 (TX2 2).2.1 (TX2 2).2.2.1 ∈ tb := memW 280 (by decide +kernel) (by decide)
theorem fl_X2_18 : FL RX2 18 2 2 2 := ⟨_, _, _, _, cf2, by decide, wl_X2_18, rfl⟩
theorem fp_X2_18 : FF RX2 18 2 2 2 := ⟨_, _, _, _, cf2, by decide, wl_X2_18, rfl, rfl, rfl, rfl⟩
theorem wl_X7_244 : Cond.fieldLink RX7 244 (TX2 2).1 (TX2 2).2.1 (TX2 2).2.2.1 ∈ tb := memW 281 (by decide +kernel) (by decide)
theorem fl_X7_244 : FL RX7 244 2 2 2 := ⟨_, _, _, _, cf2, by decide, wl_X7_244, rfl⟩
theorem wl_X2_21 : Cond.fieldLink RX2 21 (TX2 3).1 (TX2 3).2.1 (TX2 3).2.2.1 ∈ tb := memW 282 (by decide +kernel) (by decide)
theorem fl_X2_21 : FL RX2 21 2 3 2 := ⟨_, _, _, _, cf2, by decide, wl_X2_21, rfl⟩
theorem fp_X2_21 : FF RX2 21 2 3 2 := ⟨_, _, _, _, cf2, by decide, wl_X2_21, rfl, rfl, rfl, rfl⟩
theorem wl_X7_247 : Cond.fieldLink RX7 247 (TX2 3).1 (TX2 3).2.1 (TX2 3).2.2.1 ∈ tb := memW 283 (by decide +kernel) (by decide)
theorem fl_X7_247 : FL RX7 247 2 3 2 := ⟨_, _, _, _, cf2, by decide, wl_X7_247, rfl⟩
theorem wl_X2_24 : Cond.fieldLink RX2 24 (TX2 4).1 (TX2 4).2.1 (TX2 4).2.2.1 ∈ tb := memW 284 (by decide +kernel) (by decide)
theorem fl_X2_24 : FL RX2 24 2 4 2 := ⟨_, _, _, _, cf2, by decide, wl_X2_24, rfl⟩
theorem fp_X2_24 : FF RX2 24 2 4 2 := ⟨_, _, _, _, cf2, by decide, wl_X2_24, rfl, rfl, rfl, rfl⟩
theorem wl_X7_250 : Cond.fieldLink RX7 250 (TX2 4).1 (TX2 4).2.1 (TX2 4).2.2.1 ∈ tb := memW 285 (by decide +kernel) (by decide)
theorem fl_X7_250 : FL RX7 250 2 4 2 := ⟨_, _, _, _, cf2, by decide, wl_X7_250, rfl⟩
theorem wl_X2_27 : Cond.fieldLink RX2 27 (TX2 5).1 (TX2 5).2.1 (TX2 5).2.2.1 ∈ tb := memW 286 (by decide +kernel) (by decide)
theorem fl_X2_27 : FL RX2 27 2 5 0 := ⟨_, _, _, _, cf2, by decide, wl_X2_27, rfl⟩
theorem fp_X2_27 : FZ RX2 27 2 5 := ⟨_, _, _, _, cf2, by decide, wl_X2_27, rfl, rfl⟩
theorem wl_X7_57 : Cond.fieldLink RX7 57 (TX2 5).1 (TX2 5).2.1 (TX2 5).2.2.1 ∈ tb := memW 287 (by decide +kernel) (by decide)
theorem fl_X7_57 : FL RX7 57 2 5 0 := ⟨_, _, _, _, cf2, by decide, wl_X7_57, rfl⟩
theorem fp_X7_57 : FZ RX7 57 2 5 := ⟨_, _, _, _, cf2, by decide, wl_X7_57, rfl, rfl⟩
theorem wl_X2_31 : Cond.fieldLink RX2 31 (TX2 6).1 (TX2 6).2.1 (TX2 6).2.2.1 ∈ tb := memW 288 (by decide +kernel) (by decide)
theorem fl_X2_31 : FL RX2 31 2 6 0 := ⟨_, _, _, _, cf2, by decide, wl_X2_31, rfl⟩
theorem fp_X2_31 : FP RX2 31 2 6 0 := ⟨_, _, _, _, cf2, by decide, wl_X2_31, rfl, rfl, rfl⟩
theorem wl_X7_234 : Cond.fieldLink RX7 234 (TX2 6).1 (TX2 6).2.1 (TX2 6).2.2.1 ∈ tb := memW 289 (by decide +kernel) (by decide)
theorem fl_X7_234 : FL RX7 234 2 6 0 := ⟨_, _, _, _, cf2, by decide, wl_X7_234, rfl⟩
theorem fp_X7_234 : FP RX7 234 2 6 0 := ⟨_, _, _, _, cf2, by decide, wl_X7_234, rfl, rfl, rfl⟩
theorem wl_X2_35 : Cond.fieldLink RX2 35 (TX2 7).1 (TX2 7).2.1 (TX2 7).2.2.1 ∈ tb := memW 290 (by decide +kernel) (by decide)
theorem fl_X2_35 : FL RX2 35 2 7 2 := ⟨_, _, _, _, cf2, by decide, wl_X2_35, rfl⟩
theorem fp_X2_35 : FP RX2 35 2 7 2 := ⟨_, _, _, _, cf2, by decide, wl_X2_35, rfl, rfl, rfl⟩
theorem wl_X7_228 : Cond.fieldLink RX7 228 (TX2 7).1 (TX2 7).2.1 (TX2 7).2.2.1 ∈ tb := memW 291 (by decide +kernel) (by decide)
theorem fl_X7_228 : FL RX7 228 2 7 2 := ⟨_, _, _, _, cf2, by decide, wl_X7_228, rfl⟩
theorem fp_X7_228 : FP RX7 228 2 7 2 := ⟨_, _, _, _, cf2, by decide, wl_X7_228, rfl, rfl, rfl⟩
theorem wl_X7_10 : Cond.fieldLink RX7 10 (TX7 0).1 (TX7 0).2.1 (TX7 0).2.2.1 ∈ tb := memW 309 (by decide +kernel) (by decide)
theorem fl_X7_10 : FL RX7 10 7 0 2 := ⟨_, _, _, _, cf7, by decide, wl_X7_10, rfl⟩
theorem fp_X7_10 : FF RX7 10 7 0 2 := ⟨_, _, _, _, cf7, by decide, wl_X7_10, rfl, rfl, rfl, rfl⟩
theorem wl_X7_19 : Cond.fieldLink RX7 19 (TX7 1).1 (TX7 1).2.1 (TX7 1).2.2.1 ∈ tb := memW 310 (by decide +kernel) (by decide)
theorem fl_X7_19 : FL RX7 19 7 1 2 := ⟨_, _, _, _, cf7, by decide, wl_X7_19, rfl⟩
theorem fp_X7_19 : FF RX7 19 7 1 2 := ⟨_, _, _, _, cf7, by decide, wl_X7_19, rfl, rfl, rfl, rfl⟩
theorem wl_X7_28 : Cond.fieldLink RX7 28 (TX7 2).1 (TX7 2).2.1 (TX7 2).2.2.1 ∈ tb := memW 311 (by decide +kernel) (by decide)
theorem fl_X7_28 : FL RX7 28 7 2 2 := ⟨_, _, _, _, cf7, by decide, wl_X7_28, rfl⟩
theorem fp_X7_28 : FF RX7 28 7 2 2 := ⟨_, _, _, _, cf7, by decide, wl_X7_28, rfl, rfl, rfl, rfl⟩
theorem wl_X7_35 : Cond.fieldLink RX7 35 (TX7 3).1 (TX7 3).2.1 (TX7 3).2.2.1 ∈ tb := memW 312 (by decide +kernel) (by decide)
theorem fl_X7_35 : FL RX7 35 7 3 2 := ⟨_, _, _, _, cf7, by decide, wl_X7_35, rfl⟩
theorem fp_X7_35 : FF RX7 35 7 3 2 := ⟨_, _, _, _, cf7, by decide, wl_X7_35, rfl, rfl, rfl, rfl⟩
theorem wl_X7_42 : Cond.fieldLink RX7 42 (TX7 4).1 (TX7 4).2.1 (TX7 4).2.2.1 ∈ tb := memW 313 (by decide +kernel) (by decide)
theorem fl_X7_42 : FL RX7 42 7 4 2 := ⟨_, _, _, _, cf7, by decide, wl_X7_42, rfl⟩
theorem fp_X7_42 : FF RX7 42 7 4 2 := ⟨_, _, _, _, cf7, by decide, wl_X7_42, rfl, rfl, rfl, rfl⟩
theorem wl_X8_119 : Cond.fieldLink RX8 119 (TX8 1).1 (TX8 1).2.1 (TX8 1).2.2.1 ∈ tb := memW 703 (by decide +kernel) (by decide)
theorem fl_X8_119 : FL RX8 119 8 1 0 := ⟨_, _, _, _, cf8, by decide, wl_X8_119, rfl⟩
theorem fp_X8_119 : FP RX8 119 8 1 0 := ⟨_, _, _, _, cf8, by decide, wl_X8_119, rfl, rfl, rfl⟩
theorem wl_X8_13 : Cond.fieldLink RX8 13 (TX8 2).1 (TX8 2).2.1 (TX8 2).2.2.1 ∈ tb := memW 704 (by decide +kernel) (by decide)
theorem fl_X8_13 : FL RX8 13 8 2 2 := ⟨_, _, _, _, cf8, by decide, wl_X8_13, rfl⟩
theorem fp_X8_13 : FF RX8 13 8 2 2 := ⟨_, _, _, _, cf8, by decide, wl_X8_13, rfl, rfl, rfl, rfl⟩
theorem wl_X8_17 : Cond.fieldLink RX8 17 (TX8 3).1 (TX8 3).2.1 (TX8 3).2.2.1 ∈ tb := memW 705 (by decide +kernel) (by decide)
theorem fl_X8_17 : FL RX8 17 8 3 2 := ⟨_, _, _, _, cf8, by decide, wl_X8_17, rfl⟩
theorem fp_X8_17 : FF RX8 17 8 3 2 := ⟨_, _, _, _, cf8, by decide, wl_X8_17, rfl, rfl, rfl, rfl⟩
theorem wl_X8_20 : Cond.fieldLink RX8 20 (TX8 4).1 (TX8 4).2.1 (TX8 4).2.2.1 ∈ tb := memW 706 (by decide +kernel) (by decide)
theorem fl_X8_20 : FL RX8 20 8 4 2 := ⟨_, _, _, _, cf8, by decide, wl_X8_20, rfl⟩
theorem fp_X8_20 : FF RX8 20 8 4 2 := ⟨_, _, _, _, cf8, by decide, wl_X8_20, rfl, rfl, rfl, rfl⟩
theorem wl_X8_23 : Cond.fieldLink RX8 23 (TX8 5).1 (TX8 5).2.1 (TX8 5).2.2.1 ∈ tb := memW 707 (by decide +kernel) (by decide)
theorem fl_X8_23 : FL RX8 23 8 5 2 := ⟨_, _, _, _, cf8, by decide, wl_X8_23, rfl⟩
theorem fp_X8_23 : FF RX8 23 8 5 2 := ⟨_, _, _, _, cf8, by decide, wl_X8_23, rfl, rfl, rfl, rfl⟩
theorem wl_X8_26 : Cond.fieldLink RX8 26 (TX8 6).1 (TX8 6).2.1 (TX8 6).2.2.1 ∈ tb := memW 708 (by decide +kernel) (by decide)
theorem fl_X8_26 : FL RX8 26 8 6 2 := ⟨_, _, _, _, cf8, by decide, wl_X8_26, rfl⟩
theorem fp_X8_26 : FF RX8 26 8 6 2 := ⟨_, _, _, _, cf8, by decide, wl_X8_26, rfl, rfl, rfl, rfl⟩
theorem wl_X8_29 : Cond.fieldLink RX8 29 (TX8 7).1 (TX8 7).2.1 (TX8 7).2.2.1 ∈ tb := memW 709 (by decide +kernel) (by decide)
theorem fl_X8_29 : FL RX8 29 8 7 2 := ⟨_, _, _, _, cf8, by decide, wl_X8_29, rfl⟩
theorem fp_X8_29 : FF RX8 29 8 7 2 := ⟨_, _, _, _, cf8, by decide, wl_X8_29, rfl, rfl, rfl, rfl⟩
theorem wl_X8_32 : Cond.fieldLink RX8 32 (TX8 8).1 (TX8 8).2.1 (TX8 8).2.2.1 ∈ tb := memW 710 (by decide +kernel) (by decide)
theorem fl_X8_32 : FL RX8 32 8 8 0 := ⟨_, _, _, _, cf8, by decide, wl_X8_32, rfl⟩
theorem fp_X8_32 : FP RX8 32 8 8 0 := ⟨_, _, _, _, cf8, by decide, wl_X8_32, rfl, rfl, rfl⟩
theorem wl_X8_35 : Cond.fieldLink RX8 35 (TX8 9).1 (TX8 9).2.1 (TX8 9).2.2.1 ∈ tb := memW 711 (by decide +kernel) (by decide)
theorem fl_X8_35 : FL RX8 35 8 9 0 := ⟨_, _, _, _, cf8, by decide, wl_X8_35, rfl⟩
theorem fp_X8_35 : FP RX8 35 8 9 0 := ⟨_, _, _, _, cf8, by decide, wl_X8_35, rfl, rfl, rfl⟩
theorem wl_X8_38 : Cond.fieldLink RX8 38 (TX8 10).1 (TX8 10).2.1 (TX8 10).2.2.1 ∈ tb := memW 712 (by decide +kernel) (by decide)
theorem fl_X8_38 : FL RX8 38 8 10 2 := ⟨_, _, _, _, cf8, by decide, wl_X8_38, rfl⟩
theorem fp_X8_38 : FF RX8 38 8 10 2 := ⟨_, _, _, _, cf8, by decide, wl_X8_38, rfl, rfl, rfl, rfl⟩
theorem wl_X8_41 : Cond.fieldLink RX8 41 (TX8 11).1 (TX8 11).2.1 (TX8 11).2.2.1 ∈ tb := memW 713 (by decide +kernel) (by decide)
theorem fl_X8_41 : FL RX8 41 8 11 0 := ⟨_, _, _, _, cf8, by decide, wl_X8_41, rfl⟩
theorem fp_X8_41 : FP RX8 41 8 11 0 := ⟨_, _, _, _, cf8, by decide, wl_X8_41, rfl, rfl, rfl⟩
theorem wl_X8_44 : Cond.fieldLink RX8 44 (TX8 12).1 (TX8 12).2.1 (TX8 12).2.2.1 ∈ tb := memW 714 (by decide +kernel) (by decide)
theorem fl_X8_44 : FL RX8 44 8 12 2 := ⟨_, _, _, _, cf8, by decide, wl_X8_44, rfl⟩
theorem fp_X8_44 : FF RX8 44 8 12 2 := ⟨_, _, _, _, cf8, by decide, wl_X8_44, rfl, rfl, rfl, rfl⟩
theorem wl_X8_47 : Cond.fieldLink RX8 47 (TX8 13).1 (TX8 13).2.1 (TX8 13).2.2.1 ∈ tb := memW 715 (by decide +kernel) (by decide)
theorem fl_X8_47 : FL RX8 47 8 13 2 := ⟨_, _, _, _, cf8, by decide, wl_X8_47, rfl⟩
theorem fp_X8_47 : FF RX8 47 8 13 2 := ⟨_, _, _, _, cf8, by decide, wl_X8_47, rfl, rfl, rfl, rfl⟩
theorem wl_X8_50 : Cond.fieldLink RX8 50 (TX8 14).1 (TX8 14).2.1 (TX8 14).2.2.1 ∈ tb := memW 716 (by decide +kernel) (by decide)
theorem fl_X8_50 : FL RX8 50 8 14 2 := ⟨_, _, _, _, cf8, by decide, wl_X8_50, rfl⟩
theorem fp_X8_50 : FF RX8 50 8 14 2 := ⟨_, _, _, _, cf8, by decide, wl_X8_50, rfl, rfl, rfl, rfl⟩
theorem wl_X8_53 : Cond.fieldLink RX8 53 (TX8 15).1 (TX8 15).2.1 (TX8 15).2.2.1 ∈ tb := memW 717 (by decide +kernel) (by decide)
theorem fl_X8_53 : FL RX8 53 8 15 2 := ⟨_, _, _, _, cf8, by decide, wl_X8_53, rfl⟩
theorem fp_X8_53 : FF RX8 53 8 15 2 := ⟨_, _, _, _, cf8, by decide, wl_X8_53, rfl, rfl, rfl, rfl⟩
theorem wl_X8_56 : Cond.fieldLink RX8 56 (TX8 16).1 (TX8 16).2.1 (TX8 16).2.2.1 ∈ tb := memW 718 (by decide +kernel) (by decide)
theorem fl_X8_56 : FL RX8 56 8 16 2 := ⟨_, _, _, _, cf8, by decide, wl_X8_56, rfl⟩
theorem fp_X8_56 : FF RX8 56 8 16 2 := ⟨_, _, _, _, cf8, by decide, wl_X8_56, rfl, rfl, rfl, rfl⟩
theorem wl_X8_59 : Cond.fieldLink RX8 59 (TX8 17).1 (TX8 17).2.1 (TX8 17).2.2.1 ∈ tb := memW 719 (by decide +kernel) (by decide)
theorem fl_X8_59 : FL RX8 59 8 17 2 := ⟨_, _, _, _, cf8, by decide, wl_X8_59, rfl⟩
theorem fp_X8_59 : FF RX8 59 8 17 2 := ⟨_, _, _, _, cf8, by decide, wl_X8_59, rfl, rfl, rfl, rfl⟩
theorem wl_X8_158 : Cond.fieldLink RX8 158 (TX8 18).1 (TX8 18).2.1 (TX8 18).2.2.1 ∈ tb := memW 720 (by decide +kernel) (by decide)
theorem fl_X8_158 : FL RX8 158 8 18 0 := ⟨_, _, _, _, cf8, by decide, wl_X8_158, rfl⟩
theorem fp_X8_158 : FP RX8 158 8 18 0 := ⟨_, _, _, _, cf8, by decide, wl_X8_158, rfl, rfl, rfl⟩
theorem wl_X8_130 : Cond.fieldLink RX8 130 (TX8 19).1 (TX8 19).2.1 (TX8 19).2.2.1 ∈ tb := memW 721 (by decide +kernel) (by decide)
theorem fl_X8_130 : FL RX8 130 8 19 0 := ⟨_, _, _, _, cf8, by decide, wl_X8_130, rfl⟩
theorem fp_X8_130 : FZ RX8 130 8 19 := ⟨_, _, _, _, cf8, by decide, wl_X8_130, rfl, rfl⟩
theorem wl_X8_63 : Cond.fieldLink RX8 63 (TX8 20).1 (TX8 20).2.1 (TX8 20).2.2.1 ∈ tb := memW 722 (by decide +kernel) (by decide)
theorem fl_X8_63 : FL RX8 63 8 20 2 := ⟨_, _, _, _, cf8, by decide, wl_X8_63, rfl⟩
theorem fp_X8_63 : FF RX8 63 8 20 2 := ⟨_, _, _, _, cf8, by decide, wl_X8_63, rfl, rfl, rfl, rfl⟩
theorem wl_X8_67 : Cond.fieldLink RX8 67 (TX8 21).1 (TX8 21).2.1 (TX8 21).2.2.1 ∈ tb := memW 723 (by decide +kernel) (by decide)
theorem fl_X8_67 : FL RX8 67 8 21 2 := ⟨_, _, _, _, cf8, by decide, wl_X8_67, rfl⟩
theorem fp_X8_67 : FF RX8 67 8 21 2 := ⟨_, _, _, _, cf8, by decide, wl_X8_67, rfl, rfl, rfl, rfl⟩
theorem wl_X8_70 : Cond.fieldLink RX8 70 (TX8 22).1 (TX8 22).2.1 (TX8 22).2.2.1 ∈ tb := memW 724 (by decide +kernel) (by decide)
theorem fl_X8_70 : FL RX8 70 8 22 2 := ⟨_, _, _, _, cf8, by decide, wl_X8_70, rfl⟩
theorem fp_X8_70 : FF RX8 70 8 22 2 := ⟨_, _, _, _, cf8, by decide, wl_X8_70, rfl, rfl, rfl, rfl⟩
theorem wl_X8_74 : Cond.fieldLink RX8 74 (TX8 23).1 (TX8 23).2.1 (TX8 23).2.2.1 ∈ tb := memW 725 (by decide +kernel) (by decide)
theorem fl_X8_74 : FL RX8 74 8 23 2 := ⟨_, _, _, _, cf8, by decide, wl_X8_74, rfl⟩
theorem fp_X8_74 : FF RX8 74 8 23 2 := ⟨_, _, _, _, cf8, by decide, wl_X8_74, rfl, rfl, rfl, rfl⟩
theorem wl_X8_77 : Cond.fieldLink RX8 77 (TX8 24).1 (TX8 24).2.1 (TX8 24).2.2.1 ∈ tb := memW 726 (by decide +kernel) (by decide)
theorem fl_X8_77 : FL RX8 77 8 24 2 := ⟨_, _, _, _, cf8, by decide, wl_X8_77, rfl⟩
theorem fp_X8_77 : FF RX8 77 8 24 2 := ⟨_, _, _, _, cf8, by decide, wl_X8_77, rfl, rfl, rfl, rfl⟩
theorem wl_X8_80 : Cond.fieldLink RX8 80 (TX8 25).1 (TX8 25).2.1 (TX8 25).2.2.1 ∈ tb := memW 727 (by decide +kernel) (by decide)
theorem fl_X8_80 : FL RX8 80 8 25 2 := ⟨_, _, _, _, cf8, by decide, wl_X8_80, rfl⟩
theorem fp_X8_80 : FF RX8 80 8 25 2 := ⟨_, _, _, _, cf8, by decide, wl_X8_80, rfl, rfl, rfl, rfl⟩
theorem wl_X8_83 : Cond.fieldLink RX8 83 (TX8 26).1 (TX8 26).2.1 (TX8 26).2.2.1 ∈ tb := memW 728 (by decide +kernel) (by decide)
theorem fl_X8_83 : FL RX8 83 8 26 2 := ⟨_, _, _, _, cf8, by decide, wl_X8_83, rfl⟩
theorem fp_X8_83 : FF RX8 83 8 26 2 := ⟨_, _, _, _, cf8, by decide, wl_X8_83, rfl, rfl, rfl, rfl⟩
theorem wl_X8_86 : Cond.fieldLink RX8 86 (TX8 27).1 (TX8 27).2.1 (TX8 27).2.2.1 ∈ tb := memW 729 (by decide +kernel) (by decide)
theorem fl_X8_86 : FL RX8 86 8 27 2 := ⟨_, _, _, _, cf8, by decide, wl_X8_86, rfl⟩
theorem fp_X8_86 : FF RX8 86 8 27 2 := ⟨_, _, _, _, cf8, by decide, wl_X8_86, rfl, rfl, rfl, rfl⟩
theorem wl_X8_89 : Cond.fieldLink RX8 89 (TX8 28).1 (TX8 28).2.1 (TX8 28).2.2.1 ∈ tb := memW 730 (by decide +kernel) (by decide)
theorem fl_X8_89 : FL RX8 89 8 28 2 := ⟨_, _, _, _, cf8, by decide, wl_X8_89, rfl⟩
theorem fp_X8_89 : FF RX8 89 8 28 2 := ⟨_, _, _, _, cf8, by decide, wl_X8_89, rfl, rfl, rfl, rfl⟩
theorem wl_X8_92 : Cond.fieldLink RX8 92 (TX8 29).1 (TX8 29).2.1 (TX8 29).2.2.1 ∈ tb := memW 731 (by decide +kernel) (by decide)
theorem fl_X8_92 : FL RX8 92 8 29 2 := ⟨_, _, _, _, cf8, by decide, wl_X8_92, rfl⟩
theorem fp_X8_92 : FF RX8 92 8 29 2 := ⟨_, _, _, _, cf8, by decide, wl_X8_92, rfl, rfl, rfl, rfl⟩
theorem wl_X8_95 : Cond.fieldLink RX8 95 (TX8 30).1 (TX8 30).2.1 (TX8 30).2.2.1 ∈ tb := memW 732 (by decide +kernel) (by decide)
theorem fl_X8_95 : FL RX8 95 8 30 2 := ⟨_, _, _, _, cf8, by decide, wl_X8_95, rfl⟩
theorem fp_X8_95 : FF RX8 95 8 30 2 := ⟨_, _, _, _, cf8, by decide, wl_X8_95, rfl, rfl, rfl, rfl⟩
theorem wl_X8_98 : Cond.fieldLink RX8 98 (TX8 31).1 (TX8 31).2.1 (TX8 31).2.2.1 ∈ tb := memW 733 (by decide +kernel) (by decide)
theorem fl_X8_98 : FL RX8 98 8 31 2 := ⟨_, _, _, _, cf8, by decide, wl_X8_98, rfl⟩
theorem fp_X8_98 : FF RX8 98 8 31 2 := ⟨_, _, _, _, cf8, by decide, wl_X8_98, rfl, rfl, rfl, rfl⟩
theorem wl_X8_134 : Cond.fieldLink RX8 134 (TX8 32).1 (TX8 32).2.1 (TX8 32).2.2.1 ∈ tb := memW 734 (by decide +kernel) (by decide)
theorem fl_X8_134 : FL RX8 134 8 32 0 := ⟨_, _, _, _, cf8, by decide, wl_X8_134, rfl⟩
theorem fp_X8_134 : FZ RX8 134 8 32 := ⟨_, _, _, _, cf8, by decide, wl_X8_134, rfl, rfl⟩
theorem wl_X8_221 : Cond.fieldLink RX8 221 (TX8 33).1 (TX8 33).2.1 (TX8 33).2.2.1 ∈ tb := memW 735 (by decide +kernel) (by decide)
theorem fl_X8_221 : FL RX8 221 8 33 0 := ⟨_, _, _, _, cf8, by decide, wl_X8_221, rfl⟩
theorem fp_X8_221 : FP RX8 221 8 33 0 := ⟨_, _, _, _, cf8, by decide, wl_X8_221, rfl, rfl, rfl⟩
theorem wl_X8_101 : Cond.fieldLink RX8 101 (TX8 34).1 (TX8 34).2.1 (TX8 34).2.2.1 ∈ tb := memW 736 (by decide +kernel) (by decide)
theorem fl_X8_101 : FL RX8 101 8 34 2 := ⟨_, _, _, _, cf8, by decide, wl_X8_101, rfl⟩
theorem fp_X8_101 : FF RX8 101 8 34 2 := ⟨_, _, _, _, cf8, by decide, wl_X8_101, rfl, rfl, rfl, rfl⟩
theorem wl_X8_104 : Cond.fieldLink RX8 104 (TX8 35).1 (TX8 35).2.1 (TX8 35).2.2.1 ∈ tb := memW 737 (by decide +kernel) (by decide)
theorem fl_X8_104 : FL RX8 104 8 35 2 := ⟨_, _, _, _, cf8, by decide, wl_X8_104, rfl⟩
theorem fp_X8_104 : FF RX8 104 8 35 2 := ⟨_, _, _, _, cf8, by decide, wl_X8_104, rfl, rfl, rfl, rfl⟩
theorem wl_X8_107 : Cond.fieldLink RX8 107 (TX8 36).1 (TX8 36).2.1 (TX8 36).2.2.1 ∈ tb := memW 738 (by decide +kernel) (by decide)
theorem fl_X8_107 : FL RX8 107 8 36 2 := ⟨_, _, _, _, cf8, by decide, wl_X8_107, rfl⟩
theorem fp_X8_107 : FF RX8 107 8 36 2 := ⟨_, _, _, _, cf8, by decide, wl_X8_107, rfl, rfl, rfl, rfl⟩
theorem wl_X8_110 : Cond.fieldLink RX8 110 (TX8 37).1 (TX8 37).2.1 (TX8 37).2.2.1 ∈ tb := memW 739 (by decide +kernel) (by decide)
theorem fl_X8_110 : FL RX8 110 8 37 2 := ⟨_, _, _, _, cf8, by decide, wl_X8_110, rfl⟩
theorem fp_X8_110 : FF RX8 110 8 37 2 := ⟨_, _, _, _, cf8, by decide, wl_X8_110, rfl, rfl, rfl, rfl⟩
theorem wl_X8_113 : Cond.fieldLink RX8 113 (TX8 38).1 (TX8 38).2.1 (TX8 38).2.2.1 ∈ tb := memW 740 (by decide +kernel) (by decide)
theorem fl_X8_113 : FL RX8 113 8 38 2 := ⟨_, _, _, _, cf8, by decide, wl_X8_113, rfl⟩
theorem fp_X8_113 : FF RX8 113 8 38 2 := ⟨_, _, _, _, cf8, by decide, wl_X8_113, rfl, rfl, rfl, rfl⟩
theorem wl_X8_116 : Cond.fieldLink RX8 116 (TX8 39).1 (TX8 39).2.1 (TX8 39).2.2.1 ∈ tb := memW 741 (by decide +kernel) (by decide)
theorem fl_X8_116 : FL RX8 116 8 39 2 := ⟨_, _, _, _, cf8, by decide, wl_X8_116, rfl⟩
theorem fp_X8_116 : FF RX8 116 8 39 2 := ⟨_, _, _, _, cf8, by decide, wl_X8_116, rfl, rfl, rfl, rfl⟩
theorem kl_L_7 : Cond.classLink RL 7 RX7 ∈ tb := memW 52 (by decide +kernel) (by decide)
theorem nw_L_7 : Nw RL 7 7 := ⟨_, _, _, _, cf7, kl_L_7, memW 53 (by decide +kernel) (by decide), memW 41 (by decide +kernel) (by decide), by decide +kernel⟩
set_option maxRecDepth 100000 in
theorem wc_X7_init : Cond.code yX7_init cX7_init 1 none ∈ tb := memW 56 (by rfl) (by decide)
theorem cw_L_9 : Iw RL 9 yX7_init cX7_init 1 0 := ⟨memW 54 (by decide +kernel) (by decide), memW 55 (by decide +kernel) (by decide), memW 41 (by decide +kernel) (by decide), wc_X7_init, rfl, by decide, by decide, by decide +kernel⟩
set_option maxRecDepth 100000 in
theorem ow_X7_1 : Cond.methodLink RX7 1 objectInit ∈ tb ∧ Cond.instanceMethod objectInit ∈ tb ∧ Cond.code objectInit ⟨#[0xb1]⟩ 1 none ∈ tb := ⟨memW 57 (by decide +kernel) (by decide), memW 58 (by decide +kernel) (by decide), memW 59 (by rfl) (by decide)⟩
theorem kl_X7_7 : Cond.classLink RX7 7 RX4 ∈ tb := memW 60 (by decide +kernel) (by decide)
theorem nw_X7_7 : Nw RX7 7 4 := ⟨_, _, _, _, cf4, kl_X7_7, memW 61 (by decide +kernel) (by decide), memW 42 (by decide +kernel) (by decide), by decide +kernel⟩
set_option maxRecDepth 100000 in
theorem wc_X4_init : Cond.code yX4_init cX4_init 2 none ∈ tb := memW 64 (by rfl) (by decide)
theorem cw_X7_9 : Iw RX7 9 yX4_init cX4_init 2 0 := ⟨memW 62 (by decide +kernel) (by decide), memW 63 (by decide +kernel) (by decide), memW 42 (by decide +kernel) (by decide), wc_X4_init, rfl, by decide, by decide, by decide +kernel⟩
set_option maxRecDepth 100000 in
theorem ow_X4_3 : Cond.methodLink RX4 3 objectInit ∈ tb ∧ Cond.instanceMethod objectInit ∈ tb ∧ Cond.code objectInit ⟨#[0xb1]⟩ 1 none ∈ tb := ⟨memW 65 (by decide +kernel) (by decide), memW 58 (by decide +kernel) (by decide), memW 59 (by rfl) (by decide)⟩
theorem kl_X4_9 : Cond.classLink RX4 9 RX0 ∈ tb := memW 66 (by decide +kernel) (by decide)
theorem nw_X4_9 : Nw RX4 9 0 := ⟨_, _, _, _, cf0, kl_X4_9, memW 68 (by decide +kernel) (by decide), memW 43 (by decide +kernel) (by decide), by decide +kernel⟩
set_option maxRecDepth 100000 in
theorem wc_X0_init : Cond.code yX0_init cX0_init 1 none ∈ tb := memW 71 (by rfl) (by decide)
theorem cw_X4_21 : Iw RX4 21 yX0_init cX0_init 1 0 := ⟨memW 69 (by decide +kernel) (by decide), memW 70 (by decide +kernel) (by decide), memW 43 (by decide +kernel) (by decide), wc_X0_init, rfl, by decide, by decide, by decide +kernel⟩
set_option maxRecDepth 100000 in
theorem ow_X0_3 : Cond.methodLink RX0 3 objectInit ∈ tb ∧ Cond.instanceMethod objectInit ∈ tb ∧ Cond.code objectInit ⟨#[0xb1]⟩ 1 none ∈ tb := ⟨memW 72 (by decide +kernel) (by decide), memW 58 (by decide +kernel) (by decide), memW 59 (by rfl) (by decide)⟩
set_option maxRecDepth 100000 in
theorem wc_J7_fill_53178 : Cond.code yJ7_fill_53178 cJ7_fill_53178 4 none ∈ tb := memW 75 (by rfl) (by decide)
theorem cw_X0_22 : Sw RX0 22 yJ7_fill_53178 cJ7_fill_53178 4 none 2 := ⟨memW 73 (by decide +kernel) (by decide), memW 74 (by decide +kernel) (by decide), memW 44 (by decide +kernel) (by decide), wc_J7_fill_53178, by decide, by decide, by decide +kernel⟩
theorem kl_X7_16 : Cond.classLink RX7 16 RX3 ∈ tb := memW 136 (by decide +kernel) (by decide)
theorem nw_X7_16 : Nw RX7 16 3 := ⟨_, _, _, _, cf3, kl_X7_16, memW 137 (by decide +kernel) (by decide), memW 45 (by decide +kernel) (by decide), by decide +kernel⟩
set_option maxRecDepth 100000 in
theorem wc_X3_init : Cond.code yX3_init cX3_init 1 none ∈ tb := memW 140 (by rfl) (by decide)
theorem cw_X7_18 : Iw RX7 18 yX3_init cX3_init 1 0 := ⟨memW 138 (by decide +kernel) (by decide), memW 139 (by decide +kernel) (by decide), memW 45 (by decide +kernel) (by decide), wc_X3_init, rfl, by decide, by decide, by decide +kernel⟩
set_option maxRecDepth 100000 in
theorem ow_X3_3 : Cond.methodLink RX3 3 objectInit ∈ tb ∧ Cond.instanceMethod objectInit ∈ tb ∧ Cond.code objectInit ⟨#[0xb1]⟩ 1 none ∈ tb := ⟨memW 141 (by decide +kernel) (by decide), memW 58 (by decide +kernel) (by decide), memW 59 (by rfl) (by decide)⟩
theorem kl_X3_9 : Cond.classLink RX3 9 RX1 ∈ tb := memW 142 (by decide +kernel) (by decide)
theorem nw_X3_9 : Nw RX3 9 1 := ⟨_, _, _, _, cf1, kl_X3_9, memW 144 (by decide +kernel) (by decide), memW 46 (by decide +kernel) (by decide), by decide +kernel⟩
set_option maxRecDepth 100000 in
theorem wc_X1_init : Cond.code yX1_init cX1_init 2 none ∈ tb := memW 147 (by rfl) (by decide)
theorem cw_X3_31 : Iw RX3 31 yX1_init cX1_init 2 1 := ⟨memW 145 (by decide +kernel) (by decide), memW 146 (by decide +kernel) (by decide), memW 46 (by decide +kernel) (by decide), wc_X1_init, rfl, by decide, by decide, by decide +kernel⟩
set_option maxRecDepth 100000 in
theorem ow_X1_3 : Cond.methodLink RX1 3 objectInit ∈ tb ∧ Cond.instanceMethod objectInit ∈ tb ∧ Cond.code objectInit ⟨#[0xb1]⟩ 1 none ∈ tb := ⟨memW 148 (by decide +kernel) (by decide), memW 58 (by decide +kernel) (by decide), memW 59 (by rfl) (by decide)⟩
theorem kl_X1_10 : Cond.classLink RX1 10 RX1 ∈ tb := memW 149 (by decide +kernel) (by decide)
theorem nw_X1_10 : Nw RX1 10 1 := ⟨_, _, _, _, cf1, kl_X1_10, memW 144 (by decide +kernel) (by decide), memW 46 (by decide +kernel) (by decide), by decide +kernel⟩
theorem cw_X3_34 : Sw RX3 34 yJ7_fill_53178 cJ7_fill_53178 4 none 2 := ⟨memW 216 (by decide +kernel) (by decide), memW 74 (by decide +kernel) (by decide), memW 44 (by decide +kernel) (by decide), wc_J7_fill_53178, by decide, by decide, by decide +kernel⟩
theorem kl_X7_23 : Cond.classLink RX7 23 RX6 ∈ tb := memW 239 (by decide +kernel) (by decide)
theorem nw_X7_23 : Nw RX7 23 6 := ⟨_, _, _, _, cf6, kl_X7_23, memW 240 (by decide +kernel) (by decide), memW 47 (by decide +kernel) (by decide), by decide +kernel⟩
set_option maxRecDepth 100000 in
theorem wc_X6_init : Cond.code yX6_init cX6_init 3 none ∈ tb := memW 243 (by rfl) (by decide)
theorem cw_X7_25 : Iw RX7 25 yX6_init cX6_init 3 2 := ⟨memW 241 (by decide +kernel) (by decide), memW 242 (by decide +kernel) (by decide), memW 47 (by decide +kernel) (by decide), wc_X6_init, rfl, by decide, by decide, by decide +kernel⟩
set_option maxRecDepth 100000 in
theorem ow_X6_1 : Cond.methodLink RX6 1 objectInit ∈ tb ∧ Cond.instanceMethod objectInit ∈ tb ∧ Cond.code objectInit ⟨#[0xb1]⟩ 1 none ∈ tb := ⟨memW 244 (by decide +kernel) (by decide), memW 58 (by decide +kernel) (by decide), memW 59 (by rfl) (by decide)⟩
theorem kl_X7_32 : Cond.classLink RX7 32 RX5 ∈ tb := memW 258 (by decide +kernel) (by decide)
theorem nw_X7_32 : Nw RX7 32 5 := ⟨_, _, _, _, cf5, kl_X7_32, memW 259 (by decide +kernel) (by decide), memW 48 (by decide +kernel) (by decide), by decide +kernel⟩
set_option maxRecDepth 100000 in
theorem wc_X5_init : Cond.code yX5_init cX5_init 3 none ∈ tb := memW 262 (by rfl) (by decide)
theorem cw_X7_34 : Iw RX7 34 yX5_init cX5_init 3 2 := ⟨memW 260 (by decide +kernel) (by decide), memW 261 (by decide +kernel) (by decide), memW 48 (by decide +kernel) (by decide), wc_X5_init, rfl, by decide, by decide, by decide +kernel⟩
set_option maxRecDepth 100000 in
theorem ow_X5_3 : Cond.methodLink RX5 3 objectInit ∈ tb ∧ Cond.instanceMethod objectInit ∈ tb ∧ Cond.code objectInit ⟨#[0xb1]⟩ 1 none ∈ tb := ⟨memW 263 (by decide +kernel) (by decide), memW 58 (by decide +kernel) (by decide), memW 59 (by rfl) (by decide)⟩
theorem kl_X7_39 : Cond.classLink RX7 39 RX2 ∈ tb := memW 271 (by decide +kernel) (by decide)
theorem nw_X7_39 : Nw RX7 39 2 := ⟨_, _, _, _, cf2, kl_X7_39, memW 272 (by decide +kernel) (by decide), memW 49 (by decide +kernel) (by decide), by decide +kernel⟩
set_option maxRecDepth 100000 in
theorem wc_X2_init : Cond.code yX2_init cX2_init 1 none ∈ tb := memW 275 (by rfl) (by decide)
theorem cw_X7_41 : Iw RX7 41 yX2_init cX2_init 1 0 := ⟨memW 273 (by decide +kernel) (by decide), memW 274 (by decide +kernel) (by decide), memW 49 (by decide +kernel) (by decide), wc_X2_init, rfl, by decide, by decide, by decide +kernel⟩
set_option maxRecDepth 100000 in
theorem ow_X2_3 : Cond.methodLink RX2 3 objectInit ∈ tb ∧ Cond.instanceMethod objectInit ∈ tb ∧ Cond.code objectInit ⟨#[0xb1]⟩ 1 none ∈ tb := ⟨memW 276 (by decide +kernel) (by decide), memW 58 (by decide +kernel) (by decide), memW 59 (by rfl) (by decide)⟩
set_option maxRecDepth 100000 in
theorem wc_X7_lake : Cond.code yX7_lake cX7_lake 6 (some .int) ∈ tb := memW 328 (by rfl) (by decide)
theorem cw_L_13 : Vw RL 13 RX7 yX7_lake cX7_lake 6 (some .int) 4 := ⟨memW 325 (by decide +kernel) (by decide), memW 326 (by decide +kernel) (by decide), memW 327 (by decide +kernel) (by decide), memW 41 (by decide +kernel) (by decide), wc_X7_lake, rfl, by decide, by decide, by decide +kernel⟩
set_option maxRecDepth 100000 in
theorem wc_X7_isWithin : Cond.code yX7_isWithin cX7_isWithin 2 (some .boolean) ∈ tb := memW 331 (by rfl) (by decide)
theorem cw_X7_46 : Sw RX7 46 yX7_isWithin cX7_isWithin 2 (some .boolean) 2 := ⟨memW 329 (by decide +kernel) (by decide), memW 330 (by decide +kernel) (by decide), memW 41 (by decide +kernel) (by decide), wc_X7_isWithin, by decide, by decide, by decide +kernel⟩
set_option maxRecDepth 100000 in
theorem wc_X6_forget : Cond.code yX6_forget cX6_forget 1 none ∈ tb := memW 335 (by rfl) (by decide)
theorem cw_X7_62 : Vw RX7 62 RX6 yX6_forget cX6_forget 1 none 0 := ⟨memW 332 (by decide +kernel) (by decide), memW 333 (by decide +kernel) (by decide), memW 334 (by decide +kernel) (by decide), memW 47 (by decide +kernel) (by decide), wc_X6_forget, rfl, by decide, by decide, by decide +kernel⟩
set_option maxRecDepth 100000 in
theorem wc_X4_addLake : Cond.code yX4_addLake cX4_addLake 6 (some .int) ∈ tb := memW 339 (by rfl) (by decide)
theorem cw_X7_65 : Vw RX7 65 RX4 yX4_addLake cX4_addLake 6 (some .int) 4 := ⟨memW 336 (by decide +kernel) (by decide), memW 337 (by decide +kernel) (by decide), memW 338 (by decide +kernel) (by decide), memW 42 (by decide +kernel) (by decide), wc_X4_addLake, rfl, by decide, by decide, by decide +kernel⟩
set_option maxRecDepth 100000 in
theorem wc_X7_head : Cond.code yX7_head cX7_head 6 (some .int) ∈ tb := memW 343 (by rfl) (by decide)
theorem cw_L_18 : Vw RL 18 RX7 yX7_head cX7_head 6 (some .int) 3 := ⟨memW 340 (by decide +kernel) (by decide), memW 341 (by decide +kernel) (by decide), memW 342 (by decide +kernel) (by decide), memW 41 (by decide +kernel) (by decide), wc_X7_head, rfl, by decide, by decide, by decide +kernel⟩
set_option maxRecDepth 100000 in
theorem wc_X4_lakeAt : Cond.code yX4_lakeAt cX4_lakeAt 2 (some (.object "LakeChain$Lake")) ∈ tb := memW 347 (by rfl) (by decide)
theorem cw_X7_69 : Vw RX7 69 RX4 yX4_lakeAt cX4_lakeAt 2 (some (.object "LakeChain$Lake")) 1 := ⟨memW 344 (by decide +kernel) (by decide), memW 345 (by decide +kernel) (by decide), memW 346 (by decide +kernel) (by decide), memW 42 (by decide +kernel) (by decide), wc_X4_lakeAt, rfl, by decide, by decide, by decide +kernel⟩
set_option maxRecDepth 100000 in
theorem wc_X0_takesHead : Cond.code yX0_takesHead cX0_takesHead 3 (some .boolean) ∈ tb := memW 351 (by rfl) (by decide)
theorem cw_X7_78 : Vw RX7 78 RX0 yX0_takesHead cX0_takesHead 3 (some .boolean) 2 := ⟨memW 348 (by decide +kernel) (by decide), memW 349 (by decide +kernel) (by decide), memW 350 (by decide +kernel) (by decide), memW 43 (by decide +kernel) (by decide), wc_X0_takesHead, rfl, by decide, by decide, by decide +kernel⟩
set_option maxRecDepth 100000 in
theorem wc_X0_headAt : Cond.code yX0_headAt cX0_headAt 2 (some .int) ∈ tb := memW 355 (by rfl) (by decide)
theorem cw_X0_28 : Vw RX0 28 RX0 yX0_headAt cX0_headAt 2 (some .int) 1 := ⟨memW 352 (by decide +kernel) (by decide), memW 353 (by decide +kernel) (by decide), memW 354 (by decide +kernel) (by decide), memW 43 (by decide +kernel) (by decide), wc_X0_headAt, rfl, by decide, by decide, by decide +kernel⟩
theorem cw_X7_81 : Vw RX7 81 RX0 yX0_headAt cX0_headAt 2 (some .int) 1 := ⟨memW 356 (by decide +kernel) (by decide), memW 353 (by decide +kernel) (by decide), memW 354 (by decide +kernel) (by decide), memW 43 (by decide +kernel) (by decide), wc_X0_headAt, rfl, by decide, by decide, by decide +kernel⟩
set_option maxRecDepth 100000 in
theorem wc_X7_end : Cond.code yX7_end cX7_end 5 (some .int) ∈ tb := memW 360 (by rfl) (by decide)
theorem cw_L_23 : Vw RL 23 RX7 yX7_end cX7_end 5 (some .int) 2 := ⟨memW 357 (by decide +kernel) (by decide), memW 358 (by decide +kernel) (by decide), memW 359 (by decide +kernel) (by decide), memW 41 (by decide +kernel) (by decide), wc_X7_end, rfl, by decide, by decide, by decide +kernel⟩
set_option maxRecDepth 100000 in
theorem wc_X7_weeks : Cond.code yX7_weeks cX7_weeks 3 (some .int) ∈ tb := memW 364 (by rfl) (by decide)
theorem cw_L_28 : Vw RL 28 RX7 yX7_weeks cX7_weeks 3 (some .int) 2 := ⟨memW 361 (by decide +kernel) (by decide), memW 362 (by decide +kernel) (by decide), memW 363 (by decide +kernel) (by decide), memW 41 (by decide +kernel) (by decide), wc_X7_weeks, rfl, by decide, by decide, by decide +kernel⟩
set_option maxRecDepth 100000 in
theorem wc_X3_clear : Cond.code yX3_clear cX3_clear 3 none ∈ tb := memW 368 (by rfl) (by decide)
theorem cw_X7_92 : Vw RX7 92 RX3 yX3_clear cX3_clear 3 none 2 := ⟨memW 365 (by decide +kernel) (by decide), memW 366 (by decide +kernel) (by decide), memW 367 (by decide +kernel) (by decide), memW 45 (by decide +kernel) (by decide), wc_X3_clear, rfl, by decide, by decide, by decide +kernel⟩
set_option maxRecDepth 100000 in
theorem wc_X1_dropChildren : Cond.code yX1_dropChildren cX1_dropChildren 1 none ∈ tb := memW 372 (by rfl) (by decide)
theorem cw_X3_40 : Vw RX3 40 RX1 yX1_dropChildren cX1_dropChildren 1 none 0 := ⟨memW 369 (by decide +kernel) (by decide), memW 370 (by decide +kernel) (by decide), memW 371 (by decide +kernel) (by decide), memW 46 (by decide +kernel) (by decide), wc_X1_dropChildren, rfl, by decide, by decide, by decide +kernel⟩
set_option maxRecDepth 100000 in
theorem wc_X7_price : Cond.code yX7_price cX7_price 4 (some .int) ∈ tb := memW 376 (by rfl) (by decide)
theorem cw_L_32 : Vw RL 32 RX7 yX7_price cX7_price 4 (some .int) 2 := ⟨memW 373 (by decide +kernel) (by decide), memW 374 (by decide +kernel) (by decide), memW 375 (by decide +kernel) (by decide), memW 41 (by decide +kernel) (by decide), wc_X7_price, rfl, by decide, by decide, by decide +kernel⟩
set_option maxRecDepth 100000 in
theorem wc_X7_node : Cond.code yX7_node cX7_node 6 (some .int) ∈ tb := memW 380 (by rfl) (by decide)
theorem cw_L_36 : Vw RL 36 RX7 yX7_node cX7_node 6 (some .int) 3 := ⟨memW 377 (by decide +kernel) (by decide), memW 378 (by decide +kernel) (by decide), memW 379 (by decide +kernel) (by decide), memW 41 (by decide +kernel) (by decide), wc_X7_node, rfl, by decide, by decide, by decide +kernel⟩
set_option maxRecDepth 100000 in
theorem wc_X3_nodeAt : Cond.code yX3_nodeAt cX3_nodeAt 2 (some (.object "LakeChain$Node")) ∈ tb := memW 384 (by rfl) (by decide)
theorem cw_X7_99 : Vw RX7 99 RX3 yX3_nodeAt cX3_nodeAt 2 (some (.object "LakeChain$Node")) 1 := ⟨memW 381 (by decide +kernel) (by decide), memW 382 (by decide +kernel) (by decide), memW 383 (by decide +kernel) (by decide), memW 45 (by decide +kernel) (by decide), wc_X3_nodeAt, rfl, by decide, by decide, by decide +kernel⟩
set_option maxRecDepth 100000 in
theorem wc_X3_isLast : Cond.code yX3_isLast cX3_isLast 2 (some .boolean) ∈ tb := memW 388 (by rfl) (by decide)
theorem cw_X7_103 : Vw RX7 103 RX3 yX3_isLast cX3_isLast 2 (some .boolean) 1 := ⟨memW 385 (by decide +kernel) (by decide), memW 386 (by decide +kernel) (by decide), memW 387 (by decide +kernel) (by decide), memW 45 (by decide +kernel) (by decide), wc_X3_isLast, rfl, by decide, by decide, by decide +kernel⟩
set_option maxRecDepth 100000 in
theorem wc_X4_mostIn : Cond.code yX4_mostIn cX4_mostIn 3 (some .int) ∈ tb := memW 392 (by rfl) (by decide)
theorem cw_X7_115 : Vw RX7 115 RX4 yX4_mostIn cX4_mostIn 3 (some .int) 0 := ⟨memW 389 (by decide +kernel) (by decide), memW 390 (by decide +kernel) (by decide), memW 391 (by decide +kernel) (by decide), memW 42 (by decide +kernel) (by decide), wc_X4_mostIn, rfl, by decide, by decide, by decide +kernel⟩
set_option maxRecDepth 100000 in
theorem wc_X3_addNode : Cond.code yX3_addNode cX3_addNode 4 (some (.object "LakeChain$Node")) ∈ tb := memW 396 (by rfl) (by decide)
theorem cw_X7_119 : Vw RX7 119 RX3 yX3_addNode cX3_addNode 4 (some (.object "LakeChain$Node")) 2 := ⟨memW 393 (by decide +kernel) (by decide), memW 394 (by decide +kernel) (by decide), memW 395 (by decide +kernel) (by decide), memW 45 (by decide +kernel) (by decide), wc_X3_addNode, rfl, by decide, by decide, by decide +kernel⟩
set_option maxRecDepth 100000 in
theorem wc_X1_addChild : Cond.code yX1_addChild cX1_addChild 2 none ∈ tb := memW 400 (by rfl) (by decide)
theorem cw_X3_53 : Vw RX3 53 RX1 yX1_addChild cX1_addChild 2 none 1 := ⟨memW 397 (by decide +kernel) (by decide), memW 398 (by decide +kernel) (by decide), memW 399 (by decide +kernel) (by decide), memW 46 (by decide +kernel) (by decide), wc_X1_addChild, rfl, by decide, by decide, by decide +kernel⟩
set_option maxRecDepth 100000 in
theorem wc_X4_tellIn : Cond.code yX4_tellIn cX4_tellIn 5 none ∈ tb := memW 404 (by rfl) (by decide)
theorem cw_X7_126 : Vw RX7 126 RX4 yX4_tellIn cX4_tellIn 5 none 2 := ⟨memW 401 (by decide +kernel) (by decide), memW 402 (by decide +kernel) (by decide), memW 403 (by decide +kernel) (by decide), memW 42 (by decide +kernel) (by decide), wc_X4_tellIn, rfl, by decide, by decide, by decide +kernel⟩
set_option maxRecDepth 100000 in
theorem wc_X7_about : Cond.code yX7_about cX7_about 4 (some .int) ∈ tb := memW 408 (by rfl) (by decide)
theorem cw_L_40 : Vw RL 40 RX7 yX7_about cX7_about 4 (some .int) 2 := ⟨memW 405 (by decide +kernel) (by decide), memW 406 (by decide +kernel) (by decide), memW 407 (by decide +kernel) (by decide), memW 41 (by decide +kernel) (by decide), wc_X7_about, rfl, by decide, by decide, by decide +kernel⟩
set_option maxRecDepth 100000 in
theorem wc_X7_count : Cond.code yX7_count cX7_count 2 (some .int) ∈ tb := memW 412 (by rfl) (by decide)
theorem cw_L_44 : Vw RL 44 RX7 yX7_count cX7_count 2 (some .int) 1 := ⟨memW 409 (by decide +kernel) (by decide), memW 410 (by decide +kernel) (by decide), memW 411 (by decide +kernel) (by decide), memW 41 (by decide +kernel) (by decide), wc_X7_count, rfl, by decide, by decide, by decide +kernel⟩
set_option maxRecDepth 100000 in
theorem wc_X7_isWhole : Cond.code yX7_isWhole cX7_isWhole 1 (some .boolean) ∈ tb := memW 416 (by rfl) (by decide)
theorem cw_X7_149 : Vw RX7 149 RX7 yX7_isWhole cX7_isWhole 1 (some .boolean) 0 := ⟨memW 413 (by decide +kernel) (by decide), memW 415 (by decide +kernel) (by decide), memW 0 (by decide +kernel) (by decide), memW 41 (by decide +kernel) (by decide), wc_X7_isWhole, rfl, by decide, by decide, by decide +kernel⟩
set_option maxRecDepth 100000 in
theorem wc_X3_isFilled : Cond.code yX3_isFilled cX3_isFilled 2 (some .boolean) ∈ tb := memW 420 (by rfl) (by decide)
theorem cw_X7_253 : Vw RX7 253 RX3 yX3_isFilled cX3_isFilled 2 (some .boolean) 0 := ⟨memW 417 (by decide +kernel) (by decide), memW 418 (by decide +kernel) (by decide), memW 419 (by decide +kernel) (by decide), memW 45 (by decide +kernel) (by decide), wc_X3_isFilled, rfl, by decide, by decide, by decide +kernel⟩
theorem cw_X3_57 : Vw RX3 57 RX3 yX3_isLast cX3_isLast 2 (some .boolean) 1 := ⟨memW 421 (by decide +kernel) (by decide), memW 386 (by decide +kernel) (by decide), memW 387 (by decide +kernel) (by decide), memW 45 (by decide +kernel) (by decide), wc_X3_isLast, rfl, by decide, by decide, by decide +kernel⟩
set_option maxRecDepth 100000 in
theorem wc_X7_worth : Cond.code yX7_worth cX7_worth 4 (some .long) ∈ tb := memW 425 (by rfl) (by decide)
theorem cw_L_49 : Vw RL 49 RX7 yX7_worth cX7_worth 4 (some .long) 2 := ⟨memW 422 (by decide +kernel) (by decide), memW 423 (by decide +kernel) (by decide), memW 424 (by decide +kernel) (by decide), memW 41 (by decide +kernel) (by decide), wc_X7_worth, rfl, by decide, by decide, by decide +kernel⟩
set_option maxRecDepth 100000 in
theorem wc_X4_hasState : Cond.code yX4_hasState cX4_hasState 2 (some .boolean) ∈ tb := memW 429 (by rfl) (by decide)
theorem cw_X7_153 : Vw RX7 153 RX4 yX4_hasState cX4_hasState 2 (some .boolean) 1 := ⟨memW 426 (by decide +kernel) (by decide), memW 427 (by decide +kernel) (by decide), memW 428 (by decide +kernel) (by decide), memW 42 (by decide +kernel) (by decide), wc_X4_hasState, rfl, by decide, by decide, by decide +kernel⟩
theorem kc_X7_157 : Cond.constantLong RX7 157 (-9000000000000000000) ∈ tb := memW 430 (by decide +kernel) (by decide)
set_option maxRecDepth 100000 in
theorem wc_X6_worthAt : Cond.code yX6_worthAt cX6_worthAt 3 (some .long) ∈ tb := memW 434 (by rfl) (by decide)
theorem cw_X7_159 : Vw RX7 159 RX6 yX6_worthAt cX6_worthAt 3 (some .long) 2 := ⟨memW 431 (by decide +kernel) (by decide), memW 432 (by decide +kernel) (by decide), memW 433 (by decide +kernel) (by decide), memW 47 (by decide +kernel) (by decide), wc_X6_worthAt, rfl, by decide, by decide, by decide +kernel⟩
set_option maxRecDepth 100000 in
theorem wc_X3_weeksLeft : Cond.code yX3_weeksLeft cX3_weeksLeft 2 (some .int) ∈ tb := memW 438 (by rfl) (by decide)
theorem cw_X6_25 : Vw RX6 25 RX3 yX3_weeksLeft cX3_weeksLeft 2 (some .int) 1 := ⟨memW 435 (by decide +kernel) (by decide), memW 436 (by decide +kernel) (by decide), memW 437 (by decide +kernel) (by decide), memW 45 (by decide +kernel) (by decide), wc_X3_weeksLeft, rfl, by decide, by decide, by decide +kernel⟩
set_option maxRecDepth 100000 in
theorem wc_X6_worthOf : Cond.code yX6_worthOf cX6_worthOf 5 (some .long) ∈ tb := memW 442 (by rfl) (by decide)
theorem cw_X6_38 : Vw RX6 38 RX6 yX6_worthOf cX6_worthOf 5 (some .long) 3 := ⟨memW 439 (by decide +kernel) (by decide), memW 441 (by decide +kernel) (by decide), memW 1 (by decide +kernel) (by decide), memW 47 (by decide +kernel) (by decide), wc_X6_worthOf, rfl, by decide, by decide, by decide +kernel⟩
set_option maxRecDepth 100000 in
theorem wc_X4_endWorth : Cond.code yX4_endWorth cX4_endWorth 5 (some .long) ∈ tb := memW 446 (by rfl) (by decide)
theorem cw_X6_41 : Vw RX6 41 RX4 yX4_endWorth cX4_endWorth 5 (some .long) 1 := ⟨memW 443 (by decide +kernel) (by decide), memW 444 (by decide +kernel) (by decide), memW 445 (by decide +kernel) (by decide), memW 42 (by decide +kernel) (by decide), wc_X4_endWorth, rfl, by decide, by decide, by decide +kernel⟩
set_option maxRecDepth 100000 in
theorem wc_X4_measureOf : Cond.code yX4_measureOf cX4_measureOf 5 (some .int) ∈ tb := memW 450 (by rfl) (by decide)
theorem cw_X4_40 : Vw RX4 40 RX4 yX4_measureOf cX4_measureOf 5 (some .int) 2 := ⟨memW 447 (by decide +kernel) (by decide), memW 448 (by decide +kernel) (by decide), memW 449 (by decide +kernel) (by decide), memW 42 (by decide +kernel) (by decide), wc_X4_measureOf, rfl, by decide, by decide, by decide +kernel⟩
set_option maxRecDepth 100000 in
theorem wc_X6_refresh : Cond.code yX6_refresh cX6_refresh 2 none ∈ tb := memW 454 (by rfl) (by decide)
theorem cw_X6_21 : Vw RX6 21 RX6 yX6_refresh cX6_refresh 2 none 1 := ⟨memW 451 (by decide +kernel) (by decide), memW 453 (by decide +kernel) (by decide), memW 2 (by decide +kernel) (by decide), memW 47 (by decide +kernel) (by decide), wc_X6_refresh, rfl, by decide, by decide, by decide +kernel⟩
theorem kc_X6_53 : Cond.constantLong RX6 53 (-1) ∈ tb := memW 455 (by decide +kernel) (by decide)
set_option maxRecDepth 100000 in
theorem wc_J7_fill_d0a16 : Cond.code yJ7_fill_d0a16 cJ7_fill_d0a16 5 none ∈ tb := memW 458 (by rfl) (by decide)
theorem cw_X6_64 : Sw RX6 64 yJ7_fill_d0a16 cJ7_fill_d0a16 5 none 2 := ⟨memW 456 (by decide +kernel) (by decide), memW 457 (by decide +kernel) (by decide), memW 44 (by decide +kernel) (by decide), wc_J7_fill_d0a16, by decide, by decide, by decide +kernel⟩
set_option maxRecDepth 100000 in
theorem wc_X6_searchBest : Cond.code yX6_searchBest cX6_searchBest 37 (some .long) ∈ tb := memW 462 (by rfl) (by decide)
theorem cw_X6_31 : Vw RX6 31 RX6 yX6_searchBest cX6_searchBest 37 (some .long) 3 := ⟨memW 459 (by decide +kernel) (by decide), memW 461 (by decide +kernel) (by decide), memW 3 (by decide +kernel) (by decide), memW 47 (by decide +kernel) (by decide), wc_X6_searchBest, rfl, by decide, by decide, by decide +kernel⟩
theorem cw_X6_74 : Vw RX6 74 RX4 yX4_measureOf cX4_measureOf 5 (some .int) 2 := ⟨memW 463 (by decide +kernel) (by decide), memW 448 (by decide +kernel) (by decide), memW 449 (by decide +kernel) (by decide), memW 42 (by decide +kernel) (by decide), wc_X4_measureOf, rfl, by decide, by decide, by decide +kernel⟩
set_option maxRecDepth 100000 in
theorem wc_X3_scaleOf : Cond.code yX3_scaleOf cX3_scaleOf 5 (some .long) ∈ tb := memW 467 (by rfl) (by decide)
theorem cw_X6_78 : Vw RX6 78 RX3 yX3_scaleOf cX3_scaleOf 5 (some .long) 1 := ⟨memW 464 (by decide +kernel) (by decide), memW 465 (by decide +kernel) (by decide), memW 466 (by decide +kernel) (by decide), memW 45 (by decide +kernel) (by decide), wc_X3_scaleOf, rfl, by decide, by decide, by decide +kernel⟩
set_option maxRecDepth 100000 in
theorem wc_X3_priceFrom : Cond.code yX3_priceFrom cX3_priceFrom 3 (some .int) ∈ tb := memW 471 (by rfl) (by decide)
theorem cw_X6_81 : Vw RX6 81 RX3 yX3_priceFrom cX3_priceFrom 3 (some .int) 1 := ⟨memW 468 (by decide +kernel) (by decide), memW 469 (by decide +kernel) (by decide), memW 470 (by decide +kernel) (by decide), memW 45 (by decide +kernel) (by decide), wc_X3_priceFrom, rfl, by decide, by decide, by decide +kernel⟩
theorem cw_X6_84 : Vw RX6 84 RX0 yX0_headAt cX0_headAt 2 (some .int) 1 := ⟨memW 472 (by decide +kernel) (by decide), memW 353 (by decide +kernel) (by decide), memW 354 (by decide +kernel) (by decide), memW 43 (by decide +kernel) (by decide), wc_X0_headAt, rfl, by decide, by decide, by decide +kernel⟩
set_option maxRecDepth 100000 in
theorem wc_X0_mostLet : Cond.code yX0_mostLet cX0_mostLet 2 (some .int) ∈ tb := memW 476 (by rfl) (by decide)
theorem cw_X6_90 : Vw RX6 90 RX0 yX0_mostLet cX0_mostLet 2 (some .int) 1 := ⟨memW 473 (by decide +kernel) (by decide), memW 474 (by decide +kernel) (by decide), memW 475 (by decide +kernel) (by decide), memW 43 (by decide +kernel) (by decide), wc_X0_mostLet, rfl, by decide, by decide, by decide +kernel⟩
set_option maxRecDepth 100000 in
theorem wc_X0_leastLet : Cond.code yX0_leastLet cX0_leastLet 2 (some .int) ∈ tb := memW 480 (by rfl) (by decide)
theorem cw_X0_44 : Vw RX0 44 RX0 yX0_leastLet cX0_leastLet 2 (some .int) 1 := ⟨memW 477 (by decide +kernel) (by decide), memW 478 (by decide +kernel) (by decide), memW 479 (by decide +kernel) (by decide), memW 43 (by decide +kernel) (by decide), wc_X0_leastLet, rfl, by decide, by decide, by decide +kernel⟩
set_option maxRecDepth 100000 in
theorem mw_X0_38 : Mw RX0 38 Lib.Math.min.name Lib.Math.min.code := ⟨memW 481 (by decide +kernel) (by decide), memW 482 (by decide +kernel) (by decide), memW 51 (by decide +kernel) (by decide), memW 483 (by rfl) (by decide)⟩
set_option maxRecDepth 100000 in
theorem mw_X0_53 : Mw RX0 53 Lib.Math.max.name Lib.Math.max.code := ⟨memW 484 (by decide +kernel) (by decide), memW 485 (by decide +kernel) (by decide), memW 51 (by decide +kernel) (by decide), memW 486 (by rfl) (by decide)⟩
theorem cw_X6_93 : Vw RX6 93 RX0 yX0_leastLet cX0_leastLet 2 (some .int) 1 := ⟨memW 487 (by decide +kernel) (by decide), memW 478 (by decide +kernel) (by decide), memW 479 (by decide +kernel) (by decide), memW 43 (by decide +kernel) (by decide), wc_X0_leastLet, rfl, by decide, by decide, by decide +kernel⟩
set_option maxRecDepth 100000 in
theorem mw_X6_99 : Mw RX6 99 Lib.Math.min.name Lib.Math.min.code := ⟨memW 488 (by decide +kernel) (by decide), memW 482 (by decide +kernel) (by decide), memW 51 (by decide +kernel) (by decide), memW 483 (by rfl) (by decide)⟩
set_option maxRecDepth 100000 in
theorem wc_X6_meanFrom : Cond.code yX6_meanFrom cX6_meanFrom 5 (some .long) ∈ tb := memW 492 (by rfl) (by decide)
theorem cw_X6_107 : Vw RX6 107 RX6 yX6_meanFrom cX6_meanFrom 5 (some .long) 3 := ⟨memW 489 (by decide +kernel) (by decide), memW 491 (by decide +kernel) (by decide), memW 4 (by decide +kernel) (by decide), memW 47 (by decide +kernel) (by decide), wc_X6_meanFrom, rfl, by decide, by decide, by decide +kernel⟩
set_option maxRecDepth 100000 in
theorem wc_X6_meanOfChildren : Cond.code yX6_meanOfChildren cX6_meanOfChildren 8 (some .long) ∈ tb := memW 496 (by rfl) (by decide)
theorem cw_X6_110 : Vw RX6 110 RX6 yX6_meanOfChildren cX6_meanOfChildren 8 (some .long) 3 := ⟨memW 493 (by decide +kernel) (by decide), memW 495 (by decide +kernel) (by decide), memW 5 (by decide +kernel) (by decide), memW 47 (by decide +kernel) (by decide), wc_X6_meanOfChildren, rfl, by decide, by decide, by decide +kernel⟩
set_option maxRecDepth 100000 in
theorem wc_X1_childAt : Cond.code yX1_childAt cX1_childAt 2 (some (.object "LakeChain$Node")) ∈ tb := memW 500 (by rfl) (by decide)
theorem cw_X6_116 : Vw RX6 116 RX1 yX1_childAt cX1_childAt 2 (some (.object "LakeChain$Node")) 1 := ⟨memW 497 (by decide +kernel) (by decide), memW 498 (by decide +kernel) (by decide), memW 499 (by decide +kernel) (by decide), memW 46 (by decide +kernel) (by decide), wc_X1_childAt, rfl, by decide, by decide, by decide +kernel⟩
set_option maxRecDepth 100000 in
theorem wc_X4_flow : Cond.code yX4_flow cX4_flow 10 (some .int) ∈ tb := memW 504 (by rfl) (by decide)
theorem cw_X6_127 : Vw RX6 127 RX4 yX4_flow cX4_flow 10 (some .int) 3 := ⟨memW 501 (by decide +kernel) (by decide), memW 502 (by decide +kernel) (by decide), memW 503 (by decide +kernel) (by decide), memW 42 (by decide +kernel) (by decide), wc_X4_flow, rfl, by decide, by decide, by decide +kernel⟩
set_option maxRecDepth 100000 in
theorem wc_X4_letOf : Cond.code yX4_letOf cX4_letOf 2 (some .int) ∈ tb := memW 507 (by rfl) (by decide)
theorem cw_X4_47 : Sw RX4 47 yX4_letOf cX4_letOf 2 (some .int) 2 := ⟨memW 505 (by decide +kernel) (by decide), memW 506 (by decide +kernel) (by decide), memW 42 (by decide +kernel) (by decide), wc_X4_letOf, by decide, by decide, by decide +kernel⟩
set_option maxRecDepth 100000 in
theorem mw_X4_66 : Mw RX4 66 Lib.Math.max.name Lib.Math.max.code := ⟨memW 508 (by decide +kernel) (by decide), memW 485 (by decide +kernel) (by decide), memW 51 (by decide +kernel) (by decide), memW 486 (by rfl) (by decide)⟩
set_option maxRecDepth 100000 in
theorem wc_X7_policy : Cond.code yX7_policy cX7_policy 5 (some .int) ∈ tb := memW 513 (by rfl) (by decide)
theorem cw_L_54 : Vw RL 54 RX7 yX7_policy cX7_policy 5 (some .int) 3 := ⟨memW 510 (by decide +kernel) (by decide), memW 511 (by decide +kernel) (by decide), memW 512 (by decide +kernel) (by decide), memW 41 (by decide +kernel) (by decide), wc_X7_policy, rfl, by decide, by decide, by decide +kernel⟩
set_option maxRecDepth 100000 in
theorem wc_X6_bestLets : Cond.code yX6_bestLets cX6_bestLets 3 (some .int) ∈ tb := memW 517 (by rfl) (by decide)
theorem cw_X7_163 : Vw RX7 163 RX6 yX6_bestLets cX6_bestLets 3 (some .int) 2 := ⟨memW 514 (by decide +kernel) (by decide), memW 515 (by decide +kernel) (by decide), memW 516 (by decide +kernel) (by decide), memW 47 (by decide +kernel) (by decide), wc_X6_bestLets, rfl, by decide, by decide, by decide +kernel⟩
theorem cw_X7_167 : Sw RX7 167 yX4_letOf cX4_letOf 2 (some .int) 2 := ⟨memW 518 (by decide +kernel) (by decide), memW 506 (by decide +kernel) (by decide), memW 42 (by decide +kernel) (by decide), wc_X4_letOf, by decide, by decide, by decide +kernel⟩
set_option maxRecDepth 100000 in
theorem wc_X7_water : Cond.code yX7_water cX7_water 6 (some .long) ∈ tb := memW 522 (by rfl) (by decide)
theorem cw_L_58 : Vw RL 58 RX7 yX7_water cX7_water 6 (some .long) 3 := ⟨memW 519 (by decide +kernel) (by decide), memW 520 (by decide +kernel) (by decide), memW 521 (by decide +kernel) (by decide), memW 41 (by decide +kernel) (by decide), wc_X7_water, rfl, by decide, by decide, by decide +kernel⟩
theorem cw_X7_171 : Vw RX7 171 RX4 yX4_measureOf cX4_measureOf 5 (some .int) 2 := ⟨memW 523 (by decide +kernel) (by decide), memW 448 (by decide +kernel) (by decide), memW 449 (by decide +kernel) (by decide), memW 42 (by decide +kernel) (by decide), wc_X4_measureOf, rfl, by decide, by decide, by decide +kernel⟩
set_option maxRecDepth 100000 in
theorem wc_X7_needs : Cond.code yX7_needs cX7_needs 9 (some .int) ∈ tb := memW 527 (by rfl) (by decide)
theorem cw_L_65 : Vw RL 65 RX7 yX7_needs cX7_needs 9 (some .int) 2 := ⟨memW 524 (by decide +kernel) (by decide), memW 525 (by decide +kernel) (by decide), memW 526 (by decide +kernel) (by decide), memW 41 (by decide +kernel) (by decide), wc_X7_needs, rfl, by decide, by decide, by decide +kernel⟩
set_option maxRecDepth 100000 in
theorem wc_X4_sumOf : Cond.code yX4_sumOf cX4_sumOf 4 (some .int) ∈ tb := memW 531 (by rfl) (by decide)
theorem cw_X7_177 : Vw RX7 177 RX4 yX4_sumOf cX4_sumOf 4 (some .int) 1 := ⟨memW 528 (by decide +kernel) (by decide), memW 529 (by decide +kernel) (by decide), memW 530 (by decide +kernel) (by decide), memW 42 (by decide +kernel) (by decide), wc_X4_sumOf, rfl, by decide, by decide, by decide +kernel⟩
set_option maxRecDepth 100000 in
theorem wc_X7_rule : Cond.code yX7_rule cX7_rule 5 (some .int) ∈ tb := memW 535 (by rfl) (by decide)
theorem cw_L_70 : Vw RL 70 RX7 yX7_rule cX7_rule 5 (some .int) 3 := ⟨memW 532 (by decide +kernel) (by decide), memW 533 (by decide +kernel) (by decide), memW 534 (by decide +kernel) (by decide), memW 41 (by decide +kernel) (by decide), wc_X7_rule, rfl, by decide, by decide, by decide +kernel⟩
set_option maxRecDepth 100000 in
theorem wc_X7_mean : Cond.code yX7_mean cX7_mean 4 (some .long) ∈ tb := memW 539 (by rfl) (by decide)
theorem cw_L_74 : Vw RL 74 RX7 yX7_mean cX7_mean 4 (some .long) 2 := ⟨memW 536 (by decide +kernel) (by decide), memW 537 (by decide +kernel) (by decide), memW 538 (by decide +kernel) (by decide), memW 41 (by decide +kernel) (by decide), wc_X7_mean, rfl, by decide, by decide, by decide +kernel⟩
set_option maxRecDepth 100000 in
theorem wc_X5_go : Cond.code yX5_go cX5_go 5 none ∈ tb := memW 543 (by rfl) (by decide)
theorem cw_X7_186 : Vw RX7 186 RX5 yX5_go cX5_go 5 none 2 := ⟨memW 540 (by decide +kernel) (by decide), memW 541 (by decide +kernel) (by decide), memW 542 (by decide +kernel) (by decide), memW 48 (by decide +kernel) (by decide), wc_X5_go, rfl, by decide, by decide, by decide +kernel⟩
set_option maxRecDepth 100000 in
theorem wc_X5_stepTo : Cond.code yX5_stepTo cX5_stepTo 4 none ∈ tb := memW 547 (by rfl) (by decide)
theorem cw_X5_52 : Vw RX5 52 RX5 yX5_stepTo cX5_stepTo 4 none 2 := ⟨memW 544 (by decide +kernel) (by decide), memW 546 (by decide +kernel) (by decide), memW 6 (by decide +kernel) (by decide), memW 48 (by decide +kernel) (by decide), wc_X5_stepTo, rfl, by decide, by decide, by decide +kernel⟩
set_option maxRecDepth 100000 in
theorem wc_X4_ruleLets : Cond.code yX4_ruleLets cX4_ruleLets 4 (some .int) ∈ tb := memW 551 (by rfl) (by decide)
theorem cw_X5_56 : Vw RX5 56 RX4 yX4_ruleLets cX4_ruleLets 4 (some .int) 1 := ⟨memW 548 (by decide +kernel) (by decide), memW 549 (by decide +kernel) (by decide), memW 550 (by decide +kernel) (by decide), memW 42 (by decide +kernel) (by decide), wc_X4_ruleLets, rfl, by decide, by decide, by decide +kernel⟩
set_option maxRecDepth 100000 in
theorem wc_X0_ruleLet : Cond.code yX0_ruleLet cX0_ruleLet 3 (some .int) ∈ tb := memW 555 (by rfl) (by decide)
theorem cw_X4_57 : Vw RX4 57 RX0 yX0_ruleLet cX0_ruleLet 3 (some .int) 1 := ⟨memW 552 (by decide +kernel) (by decide), memW 553 (by decide +kernel) (by decide), memW 554 (by decide +kernel) (by decide), memW 43 (by decide +kernel) (by decide), wc_X0_ruleLet, rfl, by decide, by decide, by decide +kernel⟩
theorem cw_X0_59 : Vw RX0 59 RX0 yX0_mostLet cX0_mostLet 2 (some .int) 1 := ⟨memW 556 (by decide +kernel) (by decide), memW 474 (by decide +kernel) (by decide), memW 475 (by decide +kernel) (by decide), memW 43 (by decide +kernel) (by decide), wc_X0_mostLet, rfl, by decide, by decide, by decide +kernel⟩
theorem cw_X5_66 : Vw RX5 66 RX4 yX4_flow cX4_flow 10 (some .int) 3 := ⟨memW 557 (by decide +kernel) (by decide), memW 502 (by decide +kernel) (by decide), memW 503 (by decide +kernel) (by decide), memW 42 (by decide +kernel) (by decide), wc_X4_flow, rfl, by decide, by decide, by decide +kernel⟩
theorem cw_X5_70 : Vw RX5 70 RX3 yX3_priceFrom cX3_priceFrom 3 (some .int) 1 := ⟨memW 558 (by decide +kernel) (by decide), memW 469 (by decide +kernel) (by decide), memW 470 (by decide +kernel) (by decide), memW 45 (by decide +kernel) (by decide), wc_X3_priceFrom, rfl, by decide, by decide, by decide +kernel⟩
set_option maxRecDepth 100000 in
theorem wc_X4_headsTimesLets : Cond.code yX4_headsTimesLets cX4_headsTimesLets 5 (some .int) ∈ tb := memW 562 (by rfl) (by decide)
theorem cw_X5_74 : Vw RX5 74 RX4 yX4_headsTimesLets cX4_headsTimesLets 5 (some .int) 2 := ⟨memW 559 (by decide +kernel) (by decide), memW 560 (by decide +kernel) (by decide), memW 561 (by decide +kernel) (by decide), memW 42 (by decide +kernel) (by decide), wc_X4_headsTimesLets, rfl, by decide, by decide, by decide +kernel⟩
theorem cw_X4_60 : Vw RX4 60 RX0 yX0_headAt cX0_headAt 2 (some .int) 1 := ⟨memW 563 (by decide +kernel) (by decide), memW 353 (by decide +kernel) (by decide), memW 354 (by decide +kernel) (by decide), memW 43 (by decide +kernel) (by decide), wc_X0_headAt, rfl, by decide, by decide, by decide +kernel⟩
set_option maxRecDepth 100000 in
theorem wc_X4_isBelowLeast : Cond.code yX4_isBelowLeast cX4_isBelowLeast 3 (some .boolean) ∈ tb := memW 567 (by rfl) (by decide)
theorem cw_X5_81 : Vw RX5 81 RX4 yX4_isBelowLeast cX4_isBelowLeast 3 (some .boolean) 1 := ⟨memW 564 (by decide +kernel) (by decide), memW 565 (by decide +kernel) (by decide), memW 566 (by decide +kernel) (by decide), memW 42 (by decide +kernel) (by decide), wc_X4_isBelowLeast, rfl, by decide, by decide, by decide +kernel⟩
set_option maxRecDepth 100000 in
theorem wc_X5_meanOfCases : Cond.code yX5_meanOfCases cX5_meanOfCases 5 (some .long) ∈ tb := memW 571 (by rfl) (by decide)
theorem cw_X7_190 : Vw RX7 190 RX5 yX5_meanOfCases cX5_meanOfCases 5 (some .long) 0 := ⟨memW 568 (by decide +kernel) (by decide), memW 569 (by decide +kernel) (by decide), memW 570 (by decide +kernel) (by decide), memW 48 (by decide +kernel) (by decide), wc_X5_meanOfCases, rfl, by decide, by decide, by decide +kernel⟩
set_option maxRecDepth 100000 in
theorem wc_X5_endsCase : Cond.code yX5_endsCase cX5_endsCase 2 (some .boolean) ∈ tb := memW 575 (by rfl) (by decide)
theorem cw_X5_93 : Vw RX5 93 RX5 yX5_endsCase cX5_endsCase 2 (some .boolean) 1 := ⟨memW 572 (by decide +kernel) (by decide), memW 574 (by decide +kernel) (by decide), memW 7 (by decide +kernel) (by decide), memW 48 (by decide +kernel) (by decide), wc_X5_endsCase, rfl, by decide, by decide, by decide +kernel⟩
theorem cw_X5_85 : Vw RX5 85 RX3 yX3_isLast cX3_isLast 2 (some .boolean) 1 := ⟨memW 576 (by decide +kernel) (by decide), memW 386 (by decide +kernel) (by decide), memW 387 (by decide +kernel) (by decide), memW 45 (by decide +kernel) (by decide), wc_X3_isLast, rfl, by decide, by decide, by decide +kernel⟩
set_option maxRecDepth 100000 in
theorem wc_X5_totalOf : Cond.code yX5_totalOf cX5_totalOf 2 (some .long) ∈ tb := memW 580 (by rfl) (by decide)
theorem cw_X5_96 : Vw RX5 96 RX5 yX5_totalOf cX5_totalOf 2 (some .long) 1 := ⟨memW 577 (by decide +kernel) (by decide), memW 579 (by decide +kernel) (by decide), memW 8 (by decide +kernel) (by decide), memW 48 (by decide +kernel) (by decide), wc_X5_totalOf, rfl, by decide, by decide, by decide +kernel⟩
theorem cw_X5_89 : Vw RX5 89 RX4 yX4_endWorth cX4_endWorth 5 (some .long) 1 := ⟨memW 581 (by decide +kernel) (by decide), memW 444 (by decide +kernel) (by decide), memW 445 (by decide +kernel) (by decide), memW 42 (by decide +kernel) (by decide), wc_X4_endWorth, rfl, by decide, by decide, by decide +kernel⟩
set_option maxRecDepth 100000 in
theorem wc_X7_worst : Cond.code yX7_worst cX7_worst 4 (some .long) ∈ tb := memW 585 (by rfl) (by decide)
theorem cw_L_78 : Vw RL 78 RX7 yX7_worst cX7_worst 4 (some .long) 2 := ⟨memW 582 (by decide +kernel) (by decide), memW 583 (by decide +kernel) (by decide), memW 584 (by decide +kernel) (by decide), memW 41 (by decide +kernel) (by decide), wc_X7_worst, rfl, by decide, by decide, by decide +kernel⟩
set_option maxRecDepth 100000 in
theorem wc_X5_leastOfCases : Cond.code yX5_leastOfCases cX5_leastOfCases 5 (some .long) ∈ tb := memW 589 (by rfl) (by decide)
theorem cw_X7_194 : Vw RX7 194 RX5 yX5_leastOfCases cX5_leastOfCases 5 (some .long) 0 := ⟨memW 586 (by decide +kernel) (by decide), memW 587 (by decide +kernel) (by decide), memW 588 (by decide +kernel) (by decide), memW 48 (by decide +kernel) (by decide), wc_X5_leastOfCases, rfl, by decide, by decide, by decide +kernel⟩
theorem kc_X5_100 : Cond.constantLong RX5 100 (-1) ∈ tb := memW 590 (by decide +kernel) (by decide)
set_option maxRecDepth 100000 in
theorem wc_X7_lack : Cond.code yX7_lack cX7_lack 4 (some .int) ∈ tb := memW 594 (by rfl) (by decide)
theorem cw_L_82 : Vw RL 82 RX7 yX7_lack cX7_lack 4 (some .int) 2 := ⟨memW 591 (by decide +kernel) (by decide), memW 592 (by decide +kernel) (by decide), memW 593 (by decide +kernel) (by decide), memW 41 (by decide +kernel) (by decide), wc_X7_lack, rfl, by decide, by decide, by decide +kernel⟩
set_option maxRecDepth 100000 in
theorem wc_X5_casesOfLack : Cond.code yX5_casesOfLack cX5_casesOfLack 3 (some .int) ∈ tb := memW 598 (by rfl) (by decide)
theorem cw_X7_197 : Vw RX7 197 RX5 yX5_casesOfLack cX5_casesOfLack 3 (some .int) 0 := ⟨memW 595 (by decide +kernel) (by decide), memW 596 (by decide +kernel) (by decide), memW 597 (by decide +kernel) (by decide), memW 48 (by decide +kernel) (by decide), wc_X5_casesOfLack, rfl, by decide, by decide, by decide +kernel⟩
set_option maxRecDepth 100000 in
theorem wc_X7_flood : Cond.code yX7_flood cX7_flood 6 (some .int) ∈ tb := memW 602 (by rfl) (by decide)
theorem cw_L_86 : Vw RL 86 RX7 yX7_flood cX7_flood 6 (some .int) 4 := ⟨memW 599 (by decide +kernel) (by decide), memW 600 (by decide +kernel) (by decide), memW 601 (by decide +kernel) (by decide), memW 41 (by decide +kernel) (by decide), wc_X7_flood, rfl, by decide, by decide, by decide +kernel⟩
set_option maxRecDepth 100000 in
theorem wc_X5_casesOfFlood : Cond.code yX5_casesOfFlood cX5_casesOfFlood 6 (some .int) ∈ tb := memW 606 (by rfl) (by decide)
theorem cw_X7_200 : Vw RX7 200 RX5 yX5_casesOfFlood cX5_casesOfFlood 6 (some .int) 3 := ⟨memW 603 (by decide +kernel) (by decide), memW 604 (by decide +kernel) (by decide), memW 605 (by decide +kernel) (by decide), memW 48 (by decide +kernel) (by decide), wc_X5_casesOfFlood, rfl, by decide, by decide, by decide +kernel⟩
set_option maxRecDepth 100000 in
theorem wc_X5_stoodAbove : Cond.code yX5_stoodAbove cX5_stoodAbove 7 (some .boolean) ∈ tb := memW 610 (by rfl) (by decide)
theorem cw_X5_102 : Vw RX5 102 RX5 yX5_stoodAbove cX5_stoodAbove 7 (some .boolean) 4 := ⟨memW 607 (by decide +kernel) (by decide), memW 609 (by decide +kernel) (by decide), memW 9 (by decide +kernel) (by decide), memW 48 (by decide +kernel) (by decide), wc_X5_stoodAbove, rfl, by decide, by decide, by decide +kernel⟩
theorem cw_X5_109 : Vw RX5 109 RX4 yX4_measureOf cX4_measureOf 5 (some .int) 2 := ⟨memW 611 (by decide +kernel) (by decide), memW 448 (by decide +kernel) (by decide), memW 449 (by decide +kernel) (by decide), memW 42 (by decide +kernel) (by decide), wc_X4_measureOf, rfl, by decide, by decide, by decide +kernel⟩
set_option maxRecDepth 100000 in
theorem wc_X7_cases : Cond.code yX7_cases cX7_cases 3 (some .int) ∈ tb := memW 615 (by rfl) (by decide)
theorem cw_L_90 : Vw RL 90 RX7 yX7_cases cX7_cases 3 (some .int) 1 := ⟨memW 612 (by decide +kernel) (by decide), memW 613 (by decide +kernel) (by decide), memW 614 (by decide +kernel) (by decide), memW 41 (by decide +kernel) (by decide), wc_X7_cases, rfl, by decide, by decide, by decide +kernel⟩
set_option maxRecDepth 100000 in
theorem wc_X5_allCases : Cond.code yX5_allCases cX5_allCases 3 (some .int) ∈ tb := memW 619 (by rfl) (by decide)
theorem cw_X7_204 : Vw RX7 204 RX5 yX5_allCases cX5_allCases 3 (some .int) 0 := ⟨memW 616 (by decide +kernel) (by decide), memW 617 (by decide +kernel) (by decide), memW 618 (by decide +kernel) (by decide), memW 48 (by decide +kernel) (by decide), wc_X5_allCases, rfl, by decide, by decide, by decide +kernel⟩
set_option maxRecDepth 100000 in
theorem wc_X7_begin : Cond.code yX7_begin cX7_begin 2 (some .int) ∈ tb := memW 623 (by rfl) (by decide)
theorem cw_L_94 : Vw RL 94 RX7 yX7_begin cX7_begin 2 (some .int) 1 := ⟨memW 620 (by decide +kernel) (by decide), memW 621 (by decide +kernel) (by decide), memW 622 (by decide +kernel) (by decide), memW 41 (by decide +kernel) (by decide), wc_X7_begin, rfl, by decide, by decide, by decide +kernel⟩
set_option maxRecDepth 100000 in
theorem wc_X2_startAt : Cond.code yX2_startAt cX2_startAt 3 none ∈ tb := memW 627 (by rfl) (by decide)
theorem cw_X7_207 : Vw RX7 207 RX2 yX2_startAt cX2_startAt 3 none 2 := ⟨memW 624 (by decide +kernel) (by decide), memW 625 (by decide +kernel) (by decide), memW 626 (by decide +kernel) (by decide), memW 49 (by decide +kernel) (by decide), wc_X2_startAt, rfl, by decide, by decide, by decide +kernel⟩
set_option maxRecDepth 100000 in
theorem wc_X7_week : Cond.code yX7_week cX7_week 5 (some .int) ∈ tb := memW 631 (by rfl) (by decide)
theorem cw_L_98 : Vw RL 98 RX7 yX7_week cX7_week 5 (some .int) 2 := ⟨memW 628 (by decide +kernel) (by decide), memW 629 (by decide +kernel) (by decide), memW 630 (by decide +kernel) (by decide), memW 41 (by decide +kernel) (by decide), wc_X7_week, rfl, by decide, by decide, by decide +kernel⟩
set_option maxRecDepth 100000 in
theorem wc_X7_refusalOfWeek : Cond.code yX7_refusalOfWeek cX7_refusalOfWeek 2 (some .int) ∈ tb := memW 635 (by rfl) (by decide)
theorem cw_X7_210 : Vw RX7 210 RX7 yX7_refusalOfWeek cX7_refusalOfWeek 2 (some .int) 1 := ⟨memW 632 (by decide +kernel) (by decide), memW 634 (by decide +kernel) (by decide), memW 10 (by decide +kernel) (by decide), memW 41 (by decide +kernel) (by decide), wc_X7_refusalOfWeek, rfl, by decide, by decide, by decide +kernel⟩
theorem cw_X7_256 : Vw RX7 256 RX1 yX1_childAt cX1_childAt 2 (some (.object "LakeChain$Node")) 1 := ⟨memW 636 (by decide +kernel) (by decide), memW 498 (by decide +kernel) (by decide), memW 499 (by decide +kernel) (by decide), memW 46 (by decide +kernel) (by decide), wc_X1_childAt, rfl, by decide, by decide, by decide +kernel⟩
set_option maxRecDepth 100000 in
theorem wc_X4_mostLets : Cond.code yX4_mostLets cX4_mostLets 1 (some .int) ∈ tb := memW 640 (by rfl) (by decide)
theorem cw_X7_213 : Vw RX7 213 RX4 yX4_mostLets cX4_mostLets 1 (some .int) 0 := ⟨memW 637 (by decide +kernel) (by decide), memW 638 (by decide +kernel) (by decide), memW 639 (by decide +kernel) (by decide), memW 42 (by decide +kernel) (by decide), wc_X4_mostLets, rfl, by decide, by decide, by decide +kernel⟩
set_option maxRecDepth 100000 in
theorem wc_X4_allLets : Cond.code yX4_allLets cX4_allLets 2 (some .int) ∈ tb := memW 644 (by rfl) (by decide)
theorem cw_X7_216 : Vw RX7 216 RX4 yX4_allLets cX4_allLets 2 (some .int) 1 := ⟨memW 641 (by decide +kernel) (by decide), memW 642 (by decide +kernel) (by decide), memW 643 (by decide +kernel) (by decide), memW 42 (by decide +kernel) (by decide), wc_X4_allLets, rfl, by decide, by decide, by decide +kernel⟩
set_option maxRecDepth 100000 in
theorem wc_X2_stateNow : Cond.code yX2_stateNow cX2_stateNow 1 (some .int) ∈ tb := memW 648 (by rfl) (by decide)
theorem cw_X7_219 : Vw RX7 219 RX2 yX2_stateNow cX2_stateNow 1 (some .int) 0 := ⟨memW 645 (by decide +kernel) (by decide), memW 646 (by decide +kernel) (by decide), memW 647 (by decide +kernel) (by decide), memW 49 (by decide +kernel) (by decide), wc_X2_stateNow, rfl, by decide, by decide, by decide +kernel⟩
set_option maxRecDepth 100000 in
theorem wc_X2_toldNow : Cond.code yX2_toldNow cX2_toldNow 2 (some .int) ∈ tb := memW 652 (by rfl) (by decide)
theorem cw_X2_39 : Vw RX2 39 RX2 yX2_toldNow cX2_toldNow 2 (some .int) 1 := ⟨memW 649 (by decide +kernel) (by decide), memW 650 (by decide +kernel) (by decide), memW 651 (by decide +kernel) (by decide), memW 49 (by decide +kernel) (by decide), wc_X2_toldNow, rfl, by decide, by decide, by decide +kernel⟩
set_option maxRecDepth 100000 in
theorem wc_X4_mayLet : Cond.code yX4_mayLet cX4_mayLet 6 (some .boolean) ∈ tb := memW 656 (by rfl) (by decide)
theorem cw_X7_222 : Vw RX7 222 RX4 yX4_mayLet cX4_mayLet 6 (some .boolean) 2 := ⟨memW 653 (by decide +kernel) (by decide), memW 654 (by decide +kernel) (by decide), memW 655 (by decide +kernel) (by decide), memW 42 (by decide +kernel) (by decide), wc_X4_mayLet, rfl, by decide, by decide, by decide +kernel⟩
theorem cw_X4_50 : Vw RX4 50 RX0 yX0_leastLet cX0_leastLet 2 (some .int) 1 := ⟨memW 657 (by decide +kernel) (by decide), memW 478 (by decide +kernel) (by decide), memW 479 (by decide +kernel) (by decide), memW 43 (by decide +kernel) (by decide), wc_X0_leastLet, rfl, by decide, by decide, by decide +kernel⟩
theorem cw_X4_54 : Vw RX4 54 RX0 yX0_mostLet cX0_mostLet 2 (some .int) 1 := ⟨memW 658 (by decide +kernel) (by decide), memW 474 (by decide +kernel) (by decide), memW 475 (by decide +kernel) (by decide), memW 43 (by decide +kernel) (by decide), wc_X0_mostLet, rfl, by decide, by decide, by decide +kernel⟩
set_option maxRecDepth 100000 in
theorem wc_X7_letWeek : Cond.code yX7_letWeek cX7_letWeek 6 (some .int) ∈ tb := memW 662 (by rfl) (by decide)
theorem cw_X7_225 : Vw RX7 225 RX7 yX7_letWeek cX7_letWeek 6 (some .int) 2 := ⟨memW 659 (by decide +kernel) (by decide), memW 661 (by decide +kernel) (by decide), memW 11 (by decide +kernel) (by decide), memW 41 (by decide +kernel) (by decide), wc_X7_letWeek, rfl, by decide, by decide, by decide +kernel⟩
theorem cw_X7_259 : Vw RX7 259 RX3 yX3_priceFrom cX3_priceFrom 3 (some .int) 1 := ⟨memW 663 (by decide +kernel) (by decide), memW 469 (by decide +kernel) (by decide), memW 470 (by decide +kernel) (by decide), memW 45 (by decide +kernel) (by decide), wc_X3_priceFrom, rfl, by decide, by decide, by decide +kernel⟩
theorem cw_X7_263 : Vw RX7 263 RX4 yX4_headsTimesLets cX4_headsTimesLets 5 (some .int) 2 := ⟨memW 664 (by decide +kernel) (by decide), memW 560 (by decide +kernel) (by decide), memW 561 (by decide +kernel) (by decide), memW 42 (by decide +kernel) (by decide), wc_X4_headsTimesLets, rfl, by decide, by decide, by decide +kernel⟩
theorem cw_X7_266 : Vw RX7 266 RX4 yX4_flow cX4_flow 10 (some .int) 3 := ⟨memW 665 (by decide +kernel) (by decide), memW 502 (by decide +kernel) (by decide), memW 503 (by decide +kernel) (by decide), memW 42 (by decide +kernel) (by decide), wc_X4_flow, rfl, by decide, by decide, by decide +kernel⟩
set_option maxRecDepth 100000 in
theorem wc_X2_goOn : Cond.code yX2_goOn cX2_goOn 7 none ∈ tb := memW 669 (by rfl) (by decide)
theorem cw_X7_272 : Vw RX7 272 RX2 yX2_goOn cX2_goOn 7 none 5 := ⟨memW 666 (by decide +kernel) (by decide), memW 667 (by decide +kernel) (by decide), memW 668 (by decide +kernel) (by decide), memW 49 (by decide +kernel) (by decide), wc_X2_goOn, rfl, by decide, by decide, by decide +kernel⟩
set_option maxRecDepth 100000 in
theorem wc_X1_sumIn : Cond.code yX1_sumIn cX1_sumIn 3 (some .int) ∈ tb := memW 673 (by rfl) (by decide)
theorem cw_X2_43 : Vw RX2 43 RX1 yX1_sumIn cX1_sumIn 3 (some .int) 0 := ⟨memW 670 (by decide +kernel) (by decide), memW 671 (by decide +kernel) (by decide), memW 672 (by decide +kernel) (by decide), memW 46 (by decide +kernel) (by decide), wc_X1_sumIn, rfl, by decide, by decide, by decide +kernel⟩
set_option maxRecDepth 100000 in
theorem wc_X7_best : Cond.code yX7_best cX7_best 3 (some .int) ∈ tb := memW 677 (by rfl) (by decide)
theorem cw_L_102 : Vw RL 102 RX7 yX7_best cX7_best 3 (some .int) 1 := ⟨memW 674 (by decide +kernel) (by decide), memW 675 (by decide +kernel) (by decide), memW 676 (by decide +kernel) (by decide), memW 41 (by decide +kernel) (by decide), wc_X7_best, rfl, by decide, by decide, by decide +kernel⟩
set_option maxRecDepth 100000 in
theorem wc_X7_ruled : Cond.code yX7_ruled cX7_ruled 3 (some .int) ∈ tb := memW 681 (by rfl) (by decide)
theorem cw_L_106 : Vw RL 106 RX7 yX7_ruled cX7_ruled 3 (some .int) 1 := ⟨memW 678 (by decide +kernel) (by decide), memW 679 (by decide +kernel) (by decide), memW 680 (by decide +kernel) (by decide), memW 41 (by decide +kernel) (by decide), wc_X7_ruled, rfl, by decide, by decide, by decide +kernel⟩
theorem cw_X7_231 : Vw RX7 231 RX4 yX4_ruleLets cX4_ruleLets 4 (some .int) 1 := ⟨memW 682 (by decide +kernel) (by decide), memW 549 (by decide +kernel) (by decide), memW 550 (by decide +kernel) (by decide), memW 42 (by decide +kernel) (by decide), wc_X4_ruleLets, rfl, by decide, by decide, by decide +kernel⟩
set_option maxRecDepth 100000 in
theorem wc_X7_undo : Cond.code yX7_undo cX7_undo 1 (some .int) ∈ tb := memW 686 (by rfl) (by decide)
theorem cw_L_110 : Vw RL 110 RX7 yX7_undo cX7_undo 1 (some .int) 0 := ⟨memW 683 (by decide +kernel) (by decide), memW 684 (by decide +kernel) (by decide), memW 685 (by decide +kernel) (by decide), memW 41 (by decide +kernel) (by decide), wc_X7_undo, rfl, by decide, by decide, by decide +kernel⟩
set_option maxRecDepth 100000 in
theorem wc_X7_stop : Cond.code yX7_stop cX7_stop 1 (some .int) ∈ tb := memW 690 (by rfl) (by decide)
theorem cw_L_115 : Vw RL 115 RX7 yX7_stop cX7_stop 1 (some .int) 0 := ⟨memW 687 (by decide +kernel) (by decide), memW 688 (by decide +kernel) (by decide), memW 689 (by decide +kernel) (by decide), memW 41 (by decide +kernel) (by decide), wc_X7_stop, rfl, by decide, by decide, by decide +kernel⟩
set_option maxRecDepth 100000 in
theorem wc_X7_now : Cond.code yX7_now cX7_now 2 (some .int) ∈ tb := memW 694 (by rfl) (by decide)
theorem cw_L_119 : Vw RL 119 RX7 yX7_now cX7_now 2 (some .int) 1 := ⟨memW 691 (by decide +kernel) (by decide), memW 692 (by decide +kernel) (by decide), memW 693 (by decide +kernel) (by decide), memW 41 (by decide +kernel) (by decide), wc_X7_now, rfl, by decide, by decide, by decide +kernel⟩
theorem cw_X7_240 : Vw RX7 240 RX2 yX2_toldNow cX2_toldNow 2 (some .int) 1 := ⟨memW 695 (by decide +kernel) (by decide), memW 650 (by decide +kernel) (by decide), memW 651 (by decide +kernel) (by decide), memW 49 (by decide +kernel) (by decide), wc_X2_toldNow, rfl, by decide, by decide, by decide +kernel⟩
theorem kl_L_10 : Cond.classLink RL 10 RX8 ∈ tb := memW 696 (by decide +kernel) (by decide)
theorem nw_L_10 : Nw RL 10 8 := ⟨_, _, _, _, cf8, kl_L_10, memW 697 (by decide +kernel) (by decide), memW 50 (by decide +kernel) (by decide), by decide +kernel⟩
set_option maxRecDepth 100000 in
theorem wc_X8_init : Cond.code yX8_init cX8_init 1 none ∈ tb := memW 700 (by rfl) (by decide)
theorem cw_L_12 : Iw RL 12 yX8_init cX8_init 1 0 := ⟨memW 698 (by decide +kernel) (by decide), memW 699 (by decide +kernel) (by decide), memW 50 (by decide +kernel) (by decide), wc_X8_init, rfl, by decide, by decide, by decide +kernel⟩
set_option maxRecDepth 100000 in
theorem ow_X8_7 : Cond.methodLink RX8 7 objectInit ∈ tb ∧ Cond.instanceMethod objectInit ∈ tb ∧ Cond.code objectInit ⟨#[0xb1]⟩ 1 none ∈ tb := ⟨memW 701 (by decide +kernel) (by decide), memW 58 (by decide +kernel) (by decide), memW 59 (by rfl) (by decide)⟩
theorem kc_X8_62 : Cond.constant RX8 62 81000 ∈ tb := memW 702 (by decide +kernel) (by decide)
set_option maxRecDepth 100000 in
theorem wc_X8_lake : Cond.code yX8_lake cX8_lake 7 (some .int) ∈ tb := memW 827 (by rfl) (by decide)
theorem cw_L_17 : Vw RL 17 RX8 yX8_lake cX8_lake 7 (some .int) 4 := ⟨memW 824 (by decide +kernel) (by decide), memW 825 (by decide +kernel) (by decide), memW 826 (by decide +kernel) (by decide), memW 50 (by decide +kernel) (by decide), wc_X8_lake, rfl, by decide, by decide, by decide +kernel⟩
set_option maxRecDepth 100000 in
theorem wc_X8_in : Cond.code yX8_in cX8_in 3 (some .boolean) ∈ tb := memW 830 (by rfl) (by decide)
theorem cw_X8_122 : Sw RX8 122 yX8_in cX8_in 3 (some .boolean) 3 := ⟨memW 828 (by decide +kernel) (by decide), memW 829 (by decide +kernel) (by decide), memW 50 (by decide +kernel) (by decide), wc_X8_in, by decide, by decide, by decide +kernel⟩
set_option maxRecDepth 100000 in
theorem wc_X8_states : Cond.code yX8_states cX8_states 3 (some .int) ∈ tb := memW 834 (by rfl) (by decide)
theorem cw_X8_126 : Vw RX8 126 RX8 yX8_states cX8_states 3 (some .int) 0 := ⟨memW 831 (by decide +kernel) (by decide), memW 833 (by decide +kernel) (by decide), memW 12 (by decide +kernel) (by decide), memW 50 (by decide +kernel) (by decide), wc_X8_states, rfl, by decide, by decide, by decide +kernel⟩
set_option maxRecDepth 100000 in
theorem wc_X8_forget : Cond.code yX8_forget cX8_forget 1 none ∈ tb := memW 838 (by rfl) (by decide)
theorem cw_X8_137 : Vw RX8 137 RX8 yX8_forget cX8_forget 1 none 0 := ⟨memW 835 (by decide +kernel) (by decide), memW 837 (by decide +kernel) (by decide), memW 13 (by decide +kernel) (by decide), memW 50 (by decide +kernel) (by decide), wc_X8_forget, rfl, by decide, by decide, by decide +kernel⟩
set_option maxRecDepth 100000 in
theorem wc_X8_head : Cond.code yX8_head cX8_head 5 (some .int) ∈ tb := memW 842 (by rfl) (by decide)
theorem cw_L_22 : Vw RL 22 RX8 yX8_head cX8_head 5 (some .int) 3 := ⟨memW 839 (by decide +kernel) (by decide), memW 840 (by decide +kernel) (by decide), memW 841 (by decide +kernel) (by decide), memW 50 (by decide +kernel) (by decide), wc_X8_head, rfl, by decide, by decide, by decide +kernel⟩
set_option maxRecDepth 100000 in
theorem wc_X8_isLake : Cond.code yX8_isLake cX8_isLake 2 (some .boolean) ∈ tb := memW 846 (by rfl) (by decide)
theorem cw_X8_140 : Vw RX8 140 RX8 yX8_isLake cX8_isLake 2 (some .boolean) 1 := ⟨memW 843 (by decide +kernel) (by decide), memW 845 (by decide +kernel) (by decide), memW 14 (by decide +kernel) (by decide), memW 50 (by decide +kernel) (by decide), wc_X8_isLake, rfl, by decide, by decide, by decide +kernel⟩
set_option maxRecDepth 100000 in
theorem wc_X8_end : Cond.code yX8_end cX8_end 4 (some .int) ∈ tb := memW 850 (by rfl) (by decide)
theorem cw_L_27 : Vw RL 27 RX8 yX8_end cX8_end 4 (some .int) 2 := ⟨memW 847 (by decide +kernel) (by decide), memW 848 (by decide +kernel) (by decide), memW 849 (by decide +kernel) (by decide), memW 50 (by decide +kernel) (by decide), wc_X8_end, rfl, by decide, by decide, by decide +kernel⟩
set_option maxRecDepth 100000 in
theorem wc_X8_weeks : Cond.code yX8_weeks cX8_weeks 3 (some .int) ∈ tb := memW 854 (by rfl) (by decide)
theorem cw_L_31 : Vw RL 31 RX8 yX8_weeks cX8_weeks 3 (some .int) 2 := ⟨memW 851 (by decide +kernel) (by decide), memW 852 (by decide +kernel) (by decide), memW 853 (by decide +kernel) (by decide), memW 50 (by decide +kernel) (by decide), wc_X8_weeks, rfl, by decide, by decide, by decide +kernel⟩
set_option maxRecDepth 100000 in
theorem wc_X8_price : Cond.code yX8_price cX8_price 4 (some .int) ∈ tb := memW 858 (by rfl) (by decide)
theorem cw_L_35 : Vw RL 35 RX8 yX8_price cX8_price 4 (some .int) 2 := ⟨memW 855 (by decide +kernel) (by decide), memW 856 (by decide +kernel) (by decide), memW 857 (by decide +kernel) (by decide), memW 50 (by decide +kernel) (by decide), wc_X8_price, rfl, by decide, by decide, by decide +kernel⟩
set_option maxRecDepth 100000 in
theorem wc_X8_node : Cond.code yX8_node cX8_node 8 (some .int) ∈ tb := memW 862 (by rfl) (by decide)
theorem cw_L_39 : Vw RL 39 RX8 yX8_node cX8_node 8 (some .int) 3 := ⟨memW 859 (by decide +kernel) (by decide), memW 860 (by decide +kernel) (by decide), memW 861 (by decide +kernel) (by decide), memW 50 (by decide +kernel) (by decide), wc_X8_node, rfl, by decide, by decide, by decide +kernel⟩
set_option maxRecDepth 100000 in
theorem wc_X8_isNode : Cond.code yX8_isNode cX8_isNode 2 (some .boolean) ∈ tb := memW 866 (by rfl) (by decide)
theorem cw_X8_144 : Vw RX8 144 RX8 yX8_isNode cX8_isNode 2 (some .boolean) 1 := ⟨memW 863 (by decide +kernel) (by decide), memW 865 (by decide +kernel) (by decide), memW 15 (by decide +kernel) (by decide), memW 50 (by decide +kernel) (by decide), wc_X8_isNode, rfl, by decide, by decide, by decide +kernel⟩
set_option maxRecDepth 100000 in
theorem wc_X8_weightsOf : Cond.code yX8_weightsOf cX8_weightsOf 4 (some .int) ∈ tb := memW 870 (by rfl) (by decide)
theorem cw_X8_147 : Vw RX8 147 RX8 yX8_weightsOf cX8_weightsOf 4 (some .int) 1 := ⟨memW 867 (by decide +kernel) (by decide), memW 869 (by decide +kernel) (by decide), memW 16 (by decide +kernel) (by decide), memW 50 (by decide +kernel) (by decide), wc_X8_weightsOf, rfl, by decide, by decide, by decide +kernel⟩
set_option maxRecDepth 100000 in
theorem wc_X8_about : Cond.code yX8_about cX8_about 5 (some .int) ∈ tb := memW 874 (by rfl) (by decide)
theorem cw_L_43 : Vw RL 43 RX8 yX8_about cX8_about 5 (some .int) 2 := ⟨memW 871 (by decide +kernel) (by decide), memW 872 (by decide +kernel) (by decide), memW 873 (by decide +kernel) (by decide), memW 50 (by decide +kernel) (by decide), wc_X8_about, rfl, by decide, by decide, by decide +kernel⟩
set_option maxRecDepth 100000 in
theorem wc_X8_count : Cond.code yX8_count cX8_count 2 (some .int) ∈ tb := memW 878 (by rfl) (by decide)
theorem cw_L_48 : Vw RL 48 RX8 yX8_count cX8_count 2 (some .int) 1 := ⟨memW 875 (by decide +kernel) (by decide), memW 876 (by decide +kernel) (by decide), memW 877 (by decide +kernel) (by decide), memW 50 (by decide +kernel) (by decide), wc_X8_count, rfl, by decide, by decide, by decide +kernel⟩
set_option maxRecDepth 100000 in
theorem wc_X8_isWhole : Cond.code yX8_isWhole cX8_isWhole 2 (some .boolean) ∈ tb := memW 882 (by rfl) (by decide)
theorem cw_X8_151 : Vw RX8 151 RX8 yX8_isWhole cX8_isWhole 2 (some .boolean) 0 := ⟨memW 879 (by decide +kernel) (by decide), memW 881 (by decide +kernel) (by decide), memW 17 (by decide +kernel) (by decide), memW 50 (by decide +kernel) (by decide), wc_X8_isWhole, rfl, by decide, by decide, by decide +kernel⟩
set_option maxRecDepth 100000 in
theorem wc_X8_worth : Cond.code yX8_worth cX8_worth 3 (some .long) ∈ tb := memW 886 (by rfl) (by decide)
theorem cw_L_53 : Vw RL 53 RX8 yX8_worth cX8_worth 3 (some .long) 2 := ⟨memW 883 (by decide +kernel) (by decide), memW 884 (by decide +kernel) (by decide), memW 885 (by decide +kernel) (by decide), memW 50 (by decide +kernel) (by decide), wc_X8_worth, rfl, by decide, by decide, by decide +kernel⟩
set_option maxRecDepth 100000 in
theorem wc_X8_isState : Cond.code yX8_isState cX8_isState 2 (some .boolean) ∈ tb := memW 890 (by rfl) (by decide)
theorem cw_X8_200 : Vw RX8 200 RX8 yX8_isState cX8_isState 2 (some .boolean) 1 := ⟨memW 887 (by decide +kernel) (by decide), memW 889 (by decide +kernel) (by decide), memW 18 (by decide +kernel) (by decide), memW 50 (by decide +kernel) (by decide), wc_X8_isState, rfl, by decide, by decide, by decide +kernel⟩
theorem kc_X8_203 : Cond.constantLong RX8 203 (-9000000000000000000) ∈ tb := memW 891 (by decide +kernel) (by decide)
set_option maxRecDepth 100000 in
theorem wc_X8_worthOf : Cond.code yX8_worthOf cX8_worthOf 3 (some .long) ∈ tb := memW 895 (by rfl) (by decide)
theorem cw_X8_205 : Vw RX8 205 RX8 yX8_worthOf cX8_worthOf 3 (some .long) 2 := ⟨memW 892 (by decide +kernel) (by decide), memW 894 (by decide +kernel) (by decide), memW 19 (by decide +kernel) (by decide), memW 50 (by decide +kernel) (by decide), wc_X8_worthOf, rfl, by decide, by decide, by decide +kernel⟩
set_option maxRecDepth 100000 in
theorem wc_X8_prepare : Cond.code yX8_prepare cX8_prepare 2 none ∈ tb := memW 899 (by rfl) (by decide)
theorem cw_X8_194 : Vw RX8 194 RX8 yX8_prepare cX8_prepare 2 none 0 := ⟨memW 896 (by decide +kernel) (by decide), memW 898 (by decide +kernel) (by decide), memW 20 (by decide +kernel) (by decide), memW 50 (by decide +kernel) (by decide), wc_X8_prepare, rfl, by decide, by decide, by decide +kernel⟩
set_option maxRecDepth 100000 in
theorem wc_X8_work : Cond.code yX8_work cX8_work 4 none ∈ tb := memW 903 (by rfl) (by decide)
theorem cw_X8_197 : Vw RX8 197 RX8 yX8_work cX8_work 4 none 1 := ⟨memW 900 (by decide +kernel) (by decide), memW 902 (by decide +kernel) (by decide), memW 21 (by decide +kernel) (by decide), memW 50 (by decide +kernel) (by decide), wc_X8_work, rfl, by decide, by decide, by decide +kernel⟩
set_option maxRecDepth 100000 in
theorem wc_X8_spread : Cond.code yX8_spread cX8_spread 5 none ∈ tb := memW 907 (by rfl) (by decide)
theorem cw_X8_168 : Vw RX8 168 RX8 yX8_spread cX8_spread 5 none 2 := ⟨memW 904 (by decide +kernel) (by decide), memW 906 (by decide +kernel) (by decide), memW 22 (by decide +kernel) (by decide), memW 50 (by decide +kernel) (by decide), wc_X8_spread, rfl, by decide, by decide, by decide +kernel⟩
set_option maxRecDepth 100000 in
theorem wc_X8_unfold : Cond.code yX8_unfold cX8_unfold 4 none ∈ tb := memW 911 (by rfl) (by decide)
theorem cw_X8_164 : Vw RX8 164 RX8 yX8_unfold cX8_unfold 4 none 1 := ⟨memW 908 (by decide +kernel) (by decide), memW 910 (by decide +kernel) (by decide), memW 23 (by decide +kernel) (by decide), memW 50 (by decide +kernel) (by decide), wc_X8_unfold, rfl, by decide, by decide, by decide +kernel⟩
set_option maxRecDepth 100000 in
theorem wc_X8_firstLets : Cond.code yX8_firstLets cX8_firstLets 2 none ∈ tb := memW 915 (by rfl) (by decide)
theorem cw_X8_175 : Vw RX8 175 RX8 yX8_firstLets cX8_firstLets 2 none 0 := ⟨memW 912 (by decide +kernel) (by decide), memW 914 (by decide +kernel) (by decide), memW 24 (by decide +kernel) (by decide), memW 50 (by decide +kernel) (by decide), wc_X8_firstLets, rfl, by decide, by decide, by decide +kernel⟩
set_option maxRecDepth 100000 in
theorem wc_X8_lowest : Cond.code yX8_lowest cX8_lowest 2 (some .int) ∈ tb := memW 919 (by rfl) (by decide)
theorem cw_X8_155 : Vw RX8 155 RX8 yX8_lowest cX8_lowest 2 (some .int) 1 := ⟨memW 916 (by decide +kernel) (by decide), memW 918 (by decide +kernel) (by decide), memW 25 (by decide +kernel) (by decide), memW 50 (by decide +kernel) (by decide), wc_X8_lowest, rfl, by decide, by decide, by decide +kernel⟩
set_option maxRecDepth 100000 in
theorem wc_X8_comes : Cond.code yX8_comes cX8_comes 6 (some .int) ∈ tb := memW 923 (by rfl) (by decide)
theorem cw_X8_178 : Vw RX8 178 RX8 yX8_comes cX8_comes 6 (some .int) 1 := ⟨memW 920 (by decide +kernel) (by decide), memW 922 (by decide +kernel) (by decide), memW 26 (by decide +kernel) (by decide), memW 50 (by decide +kernel) (by decide), wc_X8_comes, rfl, by decide, by decide, by decide +kernel⟩
set_option maxRecDepth 100000 in
theorem wc_X8_nextLets : Cond.code yX8_nextLets cX8_nextLets 2 (some .boolean) ∈ tb := memW 927 (by rfl) (by decide)
theorem cw_X8_181 : Vw RX8 181 RX8 yX8_nextLets cX8_nextLets 2 (some .boolean) 0 := ⟨memW 924 (by decide +kernel) (by decide), memW 926 (by decide +kernel) (by decide), memW 27 (by decide +kernel) (by decide), memW 50 (by decide +kernel) (by decide), wc_X8_nextLets, rfl, by decide, by decide, by decide +kernel⟩
set_option maxRecDepth 100000 in
theorem wc_X8_highest : Cond.code yX8_highest cX8_highest 4 (some .int) ∈ tb := memW 931 (by rfl) (by decide)
theorem cw_X8_161 : Vw RX8 161 RX8 yX8_highest cX8_highest 4 (some .int) 1 := ⟨memW 928 (by decide +kernel) (by decide), memW 930 (by decide +kernel) (by decide), memW 28 (by decide +kernel) (by decide), memW 50 (by decide +kernel) (by decide), wc_X8_highest, rfl, by decide, by decide, by decide +kernel⟩
set_option maxRecDepth 100000 in
theorem wc_X8_settle : Cond.code yX8_settle cX8_settle 11 none ∈ tb := memW 935 (by rfl) (by decide)
theorem cw_X8_172 : Vw RX8 172 RX8 yX8_settle cX8_settle 11 none 2 := ⟨memW 932 (by decide +kernel) (by decide), memW 934 (by decide +kernel) (by decide), memW 29 (by decide +kernel) (by decide), memW 50 (by decide +kernel) (by decide), wc_X8_settle, rfl, by decide, by decide, by decide +kernel⟩
set_option maxRecDepth 100000 in
theorem wc_X8_endOf : Cond.code yX8_endOf cX8_endOf 4 (some .int) ∈ tb := memW 939 (by rfl) (by decide)
theorem cw_X8_184 : Vw RX8 184 RX8 yX8_endOf cX8_endOf 4 (some .int) 1 := ⟨memW 936 (by decide +kernel) (by decide), memW 938 (by decide +kernel) (by decide), memW 30 (by decide +kernel) (by decide), memW 50 (by decide +kernel) (by decide), wc_X8_endOf, rfl, by decide, by decide, by decide +kernel⟩
set_option maxRecDepth 100000 in
theorem wc_X8_scale : Cond.code yX8_scale cX8_scale 5 (some .long) ∈ tb := memW 943 (by rfl) (by decide)
theorem cw_X8_187 : Vw RX8 187 RX8 yX8_scale cX8_scale 5 (some .long) 1 := ⟨memW 940 (by decide +kernel) (by decide), memW 942 (by decide +kernel) (by decide), memW 31 (by decide +kernel) (by decide), memW 50 (by decide +kernel) (by decide), wc_X8_scale, rfl, by decide, by decide, by decide +kernel⟩
set_option maxRecDepth 100000 in
theorem wc_X8_earns : Cond.code yX8_earns cX8_earns 4 (some .int) ∈ tb := memW 947 (by rfl) (by decide)
theorem cw_X8_191 : Vw RX8 191 RX8 yX8_earns cX8_earns 4 (some .int) 1 := ⟨memW 944 (by decide +kernel) (by decide), memW 946 (by decide +kernel) (by decide), memW 32 (by decide +kernel) (by decide), memW 50 (by decide +kernel) (by decide), wc_X8_earns, rfl, by decide, by decide, by decide +kernel⟩
set_option maxRecDepth 100000 in
theorem wc_X8_policy : Cond.code yX8_policy cX8_policy 4 (some .int) ∈ tb := memW 951 (by rfl) (by decide)
theorem cw_L_57 : Vw RL 57 RX8 yX8_policy cX8_policy 4 (some .int) 3 := ⟨memW 948 (by decide +kernel) (by decide), memW 949 (by decide +kernel) (by decide), memW 950 (by decide +kernel) (by decide), memW 50 (by decide +kernel) (by decide), wc_X8_policy, rfl, by decide, by decide, by decide +kernel⟩
set_option maxRecDepth 100000 in
theorem wc_X8_bestLet : Cond.code yX8_bestLet cX8_bestLet 6 none ∈ tb := memW 955 (by rfl) (by decide)
theorem cw_X8_209 : Vw RX8 209 RX8 yX8_bestLet cX8_bestLet 6 none 2 := ⟨memW 952 (by decide +kernel) (by decide), memW 954 (by decide +kernel) (by decide), memW 33 (by decide +kernel) (by decide), memW 50 (by decide +kernel) (by decide), wc_X8_bestLet, rfl, by decide, by decide, by decide +kernel⟩
set_option maxRecDepth 100000 in
theorem wc_X8_water : Cond.code yX8_water cX8_water 4 (some .long) ∈ tb := memW 959 (by rfl) (by decide)
theorem cw_L_62 : Vw RL 62 RX8 yX8_water cX8_water 4 (some .long) 3 := ⟨memW 956 (by decide +kernel) (by decide), memW 957 (by decide +kernel) (by decide), memW 958 (by decide +kernel) (by decide), memW 50 (by decide +kernel) (by decide), wc_X8_water, rfl, by decide, by decide, by decide +kernel⟩
set_option maxRecDepth 100000 in
theorem wc_X8_unit : Cond.code yX8_unit cX8_unit 4 (some .int) ∈ tb := memW 963 (by rfl) (by decide)
theorem cw_X8_212 : Vw RX8 212 RX8 yX8_unit cX8_unit 4 (some .int) 1 := ⟨memW 960 (by decide +kernel) (by decide), memW 962 (by decide +kernel) (by decide), memW 34 (by decide +kernel) (by decide), memW 50 (by decide +kernel) (by decide), wc_X8_unit, rfl, by decide, by decide, by decide +kernel⟩
set_option maxRecDepth 100000 in
theorem wc_X8_needs : Cond.code yX8_needs cX8_needs 9 (some .int) ∈ tb := memW 967 (by rfl) (by decide)
theorem cw_L_69 : Vw RL 69 RX8 yX8_needs cX8_needs 9 (some .int) 2 := ⟨memW 964 (by decide +kernel) (by decide), memW 965 (by decide +kernel) (by decide), memW 966 (by decide +kernel) (by decide), memW 50 (by decide +kernel) (by decide), wc_X8_needs, rfl, by decide, by decide, by decide +kernel⟩
set_option maxRecDepth 100000 in
theorem wc_X8_rule : Cond.code yX8_rule cX8_rule 4 (some .int) ∈ tb := memW 971 (by rfl) (by decide)
theorem cw_L_73 : Vw RL 73 RX8 yX8_rule cX8_rule 4 (some .int) 3 := ⟨memW 968 (by decide +kernel) (by decide), memW 969 (by decide +kernel) (by decide), memW 970 (by decide +kernel) (by decide), memW 50 (by decide +kernel) (by decide), wc_X8_rule, rfl, by decide, by decide, by decide +kernel⟩
set_option maxRecDepth 100000 in
theorem wc_X8_mean : Cond.code yX8_mean cX8_mean 5 (some .long) ∈ tb := memW 975 (by rfl) (by decide)
theorem cw_L_77 : Vw RL 77 RX8 yX8_mean cX8_mean 5 (some .long) 2 := ⟨memW 972 (by decide +kernel) (by decide), memW 973 (by decide +kernel) (by decide), memW 974 (by decide +kernel) (by decide), memW 50 (by decide +kernel) (by decide), wc_X8_mean, rfl, by decide, by decide, by decide +kernel⟩
set_option maxRecDepth 100000 in
theorem wc_X8_walk : Cond.code yX8_walk cX8_walk 5 none ∈ tb := memW 979 (by rfl) (by decide)
theorem cw_X8_218 : Vw RX8 218 RX8 yX8_walk cX8_walk 5 none 2 := ⟨memW 976 (by decide +kernel) (by decide), memW 978 (by decide +kernel) (by decide), memW 35 (by decide +kernel) (by decide), memW 50 (by decide +kernel) (by decide), wc_X8_walk, rfl, by decide, by decide, by decide +kernel⟩
set_option maxRecDepth 100000 in
theorem wc_X8_ruledLet : Cond.code yX8_ruledLet cX8_ruledLet 3 none ∈ tb := memW 983 (by rfl) (by decide)
theorem cw_X8_215 : Vw RX8 215 RX8 yX8_ruledLet cX8_ruledLet 3 none 0 := ⟨memW 980 (by decide +kernel) (by decide), memW 982 (by decide +kernel) (by decide), memW 36 (by decide +kernel) (by decide), memW 50 (by decide +kernel) (by decide), wc_X8_ruledLet, rfl, by decide, by decide, by decide +kernel⟩
set_option maxRecDepth 100000 in
theorem wc_X8_worst : Cond.code yX8_worst cX8_worst 9 (some .long) ∈ tb := memW 987 (by rfl) (by decide)
theorem cw_L_81 : Vw RL 81 RX8 yX8_worst cX8_worst 9 (some .long) 2 := ⟨memW 984 (by decide +kernel) (by decide), memW 985 (by decide +kernel) (by decide), memW 986 (by decide +kernel) (by decide), memW 50 (by decide +kernel) (by decide), wc_X8_worst, rfl, by decide, by decide, by decide +kernel⟩
set_option maxRecDepth 100000 in
theorem wc_X8_lack : Cond.code yX8_lack cX8_lack 5 (some .int) ∈ tb := memW 991 (by rfl) (by decide)
theorem cw_L_85 : Vw RL 85 RX8 yX8_lack cX8_lack 5 (some .int) 2 := ⟨memW 988 (by decide +kernel) (by decide), memW 989 (by decide +kernel) (by decide), memW 990 (by decide +kernel) (by decide), memW 50 (by decide +kernel) (by decide), wc_X8_lack, rfl, by decide, by decide, by decide +kernel⟩
set_option maxRecDepth 100000 in
theorem wc_X8_flood : Cond.code yX8_flood cX8_flood 7 (some .int) ∈ tb := memW 995 (by rfl) (by decide)
theorem cw_L_89 : Vw RL 89 RX8 yX8_flood cX8_flood 7 (some .int) 4 := ⟨memW 992 (by decide +kernel) (by decide), memW 993 (by decide +kernel) (by decide), memW 994 (by decide +kernel) (by decide), memW 50 (by decide +kernel) (by decide), wc_X8_flood, rfl, by decide, by decide, by decide +kernel⟩
set_option maxRecDepth 100000 in
theorem wc_X8_cases : Cond.code yX8_cases cX8_cases 2 (some .int) ∈ tb := memW 999 (by rfl) (by decide)
theorem cw_L_93 : Vw RL 93 RX8 yX8_cases cX8_cases 2 (some .int) 1 := ⟨memW 996 (by decide +kernel) (by decide), memW 997 (by decide +kernel) (by decide), memW 998 (by decide +kernel) (by decide), memW 50 (by decide +kernel) (by decide), wc_X8_cases, rfl, by decide, by decide, by decide +kernel⟩
set_option maxRecDepth 100000 in
theorem wc_X8_begin : Cond.code yX8_begin cX8_begin 2 (some .int) ∈ tb := memW 1003 (by rfl) (by decide)
theorem cw_L_97 : Vw RL 97 RX8 yX8_begin cX8_begin 2 (some .int) 1 := ⟨memW 1000 (by decide +kernel) (by decide), memW 1001 (by decide +kernel) (by decide), memW 1002 (by decide +kernel) (by decide), memW 50 (by decide +kernel) (by decide), wc_X8_begin, rfl, by decide, by decide, by decide +kernel⟩
set_option maxRecDepth 100000 in
theorem wc_X8_week : Cond.code yX8_week cX8_week 6 (some .int) ∈ tb := memW 1007 (by rfl) (by decide)
theorem cw_L_101 : Vw RL 101 RX8 yX8_week cX8_week 6 (some .int) 2 := ⟨memW 1004 (by decide +kernel) (by decide), memW 1005 (by decide +kernel) (by decide), memW 1006 (by decide +kernel) (by decide), memW 50 (by decide +kernel) (by decide), wc_X8_week, rfl, by decide, by decide, by decide +kernel⟩
set_option maxRecDepth 100000 in
theorem wc_X8_refused : Cond.code yX8_refused cX8_refused 1 (some .int) ∈ tb := memW 1011 (by rfl) (by decide)
theorem cw_X8_224 : Vw RX8 224 RX8 yX8_refused cX8_refused 1 (some .int) 0 := ⟨memW 1008 (by decide +kernel) (by decide), memW 1010 (by decide +kernel) (by decide), memW 37 (by decide +kernel) (by decide), memW 50 (by decide +kernel) (by decide), wc_X8_refused, rfl, by decide, by decide, by decide +kernel⟩
set_option maxRecDepth 100000 in
theorem wc_X8_child : Cond.code yX8_child cX8_child 5 (some .int) ∈ tb := memW 1015 (by rfl) (by decide)
theorem cw_X8_227 : Vw RX8 227 RX8 yX8_child cX8_child 5 (some .int) 2 := ⟨memW 1012 (by decide +kernel) (by decide), memW 1014 (by decide +kernel) (by decide), memW 38 (by decide +kernel) (by decide), memW 50 (by decide +kernel) (by decide), wc_X8_child, rfl, by decide, by decide, by decide +kernel⟩
set_option maxRecDepth 100000 in
theorem wc_X8_goes : Cond.code yX8_goes cX8_goes 6 (some .int) ∈ tb := memW 1019 (by rfl) (by decide)
theorem cw_X8_231 : Vw RX8 231 RX8 yX8_goes cX8_goes 6 (some .int) 1 := ⟨memW 1016 (by decide +kernel) (by decide), memW 1018 (by decide +kernel) (by decide), memW 39 (by decide +kernel) (by decide), memW 50 (by decide +kernel) (by decide), wc_X8_goes, rfl, by decide, by decide, by decide +kernel⟩
set_option maxRecDepth 100000 in
theorem wc_X8_best : Cond.code yX8_best cX8_best 4 (some .int) ∈ tb := memW 1023 (by rfl) (by decide)
theorem cw_L_105 : Vw RL 105 RX8 yX8_best cX8_best 4 (some .int) 1 := ⟨memW 1020 (by decide +kernel) (by decide), memW 1021 (by decide +kernel) (by decide), memW 1022 (by decide +kernel) (by decide), memW 50 (by decide +kernel) (by decide), wc_X8_best, rfl, by decide, by decide, by decide +kernel⟩
set_option maxRecDepth 100000 in
theorem wc_X8_ruled : Cond.code yX8_ruled cX8_ruled 4 (some .int) ∈ tb := memW 1027 (by rfl) (by decide)
theorem cw_L_109 : Vw RL 109 RX8 yX8_ruled cX8_ruled 4 (some .int) 1 := ⟨memW 1024 (by decide +kernel) (by decide), memW 1025 (by decide +kernel) (by decide), memW 1026 (by decide +kernel) (by decide), memW 50 (by decide +kernel) (by decide), wc_X8_ruled, rfl, by decide, by decide, by decide +kernel⟩
set_option maxRecDepth 100000 in
theorem wc_X8_undo : Cond.code yX8_undo cX8_undo 1 (some .int) ∈ tb := memW 1031 (by rfl) (by decide)
theorem cw_L_114 : Vw RL 114 RX8 yX8_undo cX8_undo 1 (some .int) 0 := ⟨memW 1028 (by decide +kernel) (by decide), memW 1029 (by decide +kernel) (by decide), memW 1030 (by decide +kernel) (by decide), memW 50 (by decide +kernel) (by decide), wc_X8_undo, rfl, by decide, by decide, by decide +kernel⟩
set_option maxRecDepth 100000 in
theorem wc_X8_stop : Cond.code yX8_stop cX8_stop 2 (some .int) ∈ tb := memW 1035 (by rfl) (by decide)
theorem cw_L_118 : Vw RL 118 RX8 yX8_stop cX8_stop 2 (some .int) 0 := ⟨memW 1032 (by decide +kernel) (by decide), memW 1033 (by decide +kernel) (by decide), memW 1034 (by decide +kernel) (by decide), memW 50 (by decide +kernel) (by decide), wc_X8_stop, rfl, by decide, by decide, by decide +kernel⟩
set_option maxRecDepth 100000 in
theorem wc_X8_now : Cond.code yX8_now cX8_now 2 (some .int) ∈ tb := memW 1039 (by rfl) (by decide)
theorem cw_L_122 : Vw RL 122 RX8 yX8_now cX8_now 2 (some .int) 1 := ⟨memW 1036 (by decide +kernel) (by decide), memW 1037 (by decide +kernel) (by decide), memW 1038 (by decide +kernel) (by decide), memW 50 (by decide +kernel) (by decide), wc_X8_now, rfl, by decide, by decide, by decide +kernel⟩
theorem kc_L_63 : Cond.constantLong RL 63 (4294967295) ∈ tb := memW 1040 (by decide +kernel) (by decide)
theorem ac_int : Cond.arrayClass .int ∈ tb := memW 117 (by decide +kernel) (by decide)
theorem ac_long : Cond.arrayClass .long ∈ tb := memW 509 (by decide +kernel) (by decide)
theorem ac_boolean : Cond.arrayClass .boolean ∈ tb := memW 823 (by decide +kernel) (by decide)
