theorem ck_a_0_0 : (List.range 35).all (fun j => ck_at 0 (0 + j)) = true := by decide +kernel
theorem ck_a_0 : ∀ pc, pc < 35 → ck_at 0 pc = true := by
  intro pc h
  by_cases h0 : pc < 35
  · have := List.all_eq_true.mp ck_a_0_0 (pc - 0) (List.mem_range.mpr (by omega))
    rwa [show 0 + (pc - 0) = pc by omega] at this
  omega
theorem ck_a_1_0 : (List.range 40).all (fun j => ck_at 1 (0 + j)) = true := by decide +kernel
theorem ck_a_1 : ∀ pc, pc < 40 → ck_at 1 pc = true := by
  intro pc h
  by_cases h0 : pc < 40
  · have := List.all_eq_true.mp ck_a_1_0 (pc - 0) (List.mem_range.mpr (by omega))
    rwa [show 0 + (pc - 0) = pc by omega] at this
  omega
theorem ck_a_2_0 : (List.range 80).all (fun j => ck_at 2 (0 + j)) = true := by decide +kernel
theorem ck_a_2_80 : (List.range 11).all (fun j => ck_at 2 (80 + j)) = true := by decide +kernel
theorem ck_a_2 : ∀ pc, pc < 91 → ck_at 2 pc = true := by
  intro pc h
  by_cases h0 : pc < 80
  · have := List.all_eq_true.mp ck_a_2_0 (pc - 0) (List.mem_range.mpr (by omega))
    rwa [show 0 + (pc - 0) = pc by omega] at this
  by_cases h80 : pc < 91
  · have := List.all_eq_true.mp ck_a_2_80 (pc - 80) (List.mem_range.mpr (by omega))
    rwa [show 80 + (pc - 80) = pc by omega] at this
  omega
theorem ck_a_3_0 : (List.range 24).all (fun j => ck_at 3 (0 + j)) = true := by decide +kernel
theorem ck_a_3 : ∀ pc, pc < 24 → ck_at 3 pc = true := by
  intro pc h
  by_cases h0 : pc < 24
  · have := List.all_eq_true.mp ck_a_3_0 (pc - 0) (List.mem_range.mpr (by omega))
    rwa [show 0 + (pc - 0) = pc by omega] at this
  omega
theorem ck_a_4_0 : (List.range 10).all (fun j => ck_at 4 (0 + j)) = true := by decide +kernel
theorem ck_a_4 : ∀ pc, pc < 10 → ck_at 4 pc = true := by
  intro pc h
  by_cases h0 : pc < 10
  · have := List.all_eq_true.mp ck_a_4_0 (pc - 0) (List.mem_range.mpr (by omega))
    rwa [show 0 + (pc - 0) = pc by omega] at this
  omega
theorem ck_a_5_0 : (List.range 18).all (fun j => ck_at 5 (0 + j)) = true := by decide +kernel
theorem ck_a_5 : ∀ pc, pc < 18 → ck_at 5 pc = true := by
  intro pc h
  by_cases h0 : pc < 18
  · have := List.all_eq_true.mp ck_a_5_0 (pc - 0) (List.mem_range.mpr (by omega))
    rwa [show 0 + (pc - 0) = pc by omega] at this
  omega
theorem ck_a_6_0 : (List.range 45).all (fun j => ck_at 6 (0 + j)) = true := by decide +kernel
theorem ck_a_6 : ∀ pc, pc < 45 → ck_at 6 pc = true := by
  intro pc h
  by_cases h0 : pc < 45
  · have := List.all_eq_true.mp ck_a_6_0 (pc - 0) (List.mem_range.mpr (by omega))
    rwa [show 0 + (pc - 0) = pc by omega] at this
  omega
theorem ck_a_7_0 : (List.range 80).all (fun j => ck_at 7 (0 + j)) = true := by decide +kernel
theorem ck_a_7_80 : (List.range 42).all (fun j => ck_at 7 (80 + j)) = true := by decide +kernel
theorem ck_a_7 : ∀ pc, pc < 122 → ck_at 7 pc = true := by
  intro pc h
  by_cases h0 : pc < 80
  · have := List.all_eq_true.mp ck_a_7_0 (pc - 0) (List.mem_range.mpr (by omega))
    rwa [show 0 + (pc - 0) = pc by omega] at this
  by_cases h80 : pc < 122
  · have := List.all_eq_true.mp ck_a_7_80 (pc - 80) (List.mem_range.mpr (by omega))
    rwa [show 80 + (pc - 80) = pc by omega] at this
  omega
theorem ck_a_8_0 : (List.range 80).all (fun j => ck_at 8 (0 + j)) = true := by decide +kernel
theorem ck_a_8_80 : (List.range 17).all (fun j => ck_at 8 (80 + j)) = true := by decide +kernel
theorem ck_a_8 : ∀ pc, pc < 97 → ck_at 8 pc = true := by
  intro pc h
  by_cases h0 : pc < 80
  · have := List.all_eq_true.mp ck_a_8_0 (pc - 0) (List.mem_range.mpr (by omega))
    rwa [show 0 + (pc - 0) = pc by omega] at this
  by_cases h80 : pc < 97
  · have := List.all_eq_true.mp ck_a_8_80 (pc - 80) (List.mem_range.mpr (by omega))
    rwa [show 80 + (pc - 80) = pc by omega] at this
  omega
theorem ck_a_9_0 : (List.range 80).all (fun j => ck_at 9 (0 + j)) = true := by decide +kernel
theorem ck_a_9_80 : (List.range 15).all (fun j => ck_at 9 (80 + j)) = true := by decide +kernel
theorem ck_a_9 : ∀ pc, pc < 95 → ck_at 9 pc = true := by
  intro pc h
  by_cases h0 : pc < 80
  · have := List.all_eq_true.mp ck_a_9_0 (pc - 0) (List.mem_range.mpr (by omega))
    rwa [show 0 + (pc - 0) = pc by omega] at this
  by_cases h80 : pc < 95
  · have := List.all_eq_true.mp ck_a_9_80 (pc - 80) (List.mem_range.mpr (by omega))
    rwa [show 80 + (pc - 80) = pc by omega] at this
  omega
theorem ck_a_10_0 : (List.range 80).all (fun j => ck_at 10 (0 + j)) = true := by decide +kernel
theorem ck_a_10_80 : (List.range 19).all (fun j => ck_at 10 (80 + j)) = true := by decide +kernel
theorem ck_a_10 : ∀ pc, pc < 99 → ck_at 10 pc = true := by
  intro pc h
  by_cases h0 : pc < 80
  · have := List.all_eq_true.mp ck_a_10_0 (pc - 0) (List.mem_range.mpr (by omega))
    rwa [show 0 + (pc - 0) = pc by omega] at this
  by_cases h80 : pc < 99
  · have := List.all_eq_true.mp ck_a_10_80 (pc - 80) (List.mem_range.mpr (by omega))
    rwa [show 80 + (pc - 80) = pc by omega] at this
  omega
theorem ck_a_11_0 : (List.range 80).all (fun j => ck_at 11 (0 + j)) = true := by decide +kernel
theorem ck_a_11_80 : (List.range 65).all (fun j => ck_at 11 (80 + j)) = true := by decide +kernel
theorem ck_a_11 : ∀ pc, pc < 145 → ck_at 11 pc = true := by
  intro pc h
  by_cases h0 : pc < 80
  · have := List.all_eq_true.mp ck_a_11_0 (pc - 0) (List.mem_range.mpr (by omega))
    rwa [show 0 + (pc - 0) = pc by omega] at this
  by_cases h80 : pc < 145
  · have := List.all_eq_true.mp ck_a_11_80 (pc - 80) (List.mem_range.mpr (by omega))
    rwa [show 80 + (pc - 80) = pc by omega] at this
  omega
theorem ck_a_12_0 : (List.range 42).all (fun j => ck_at 12 (0 + j)) = true := by decide +kernel
theorem ck_a_12 : ∀ pc, pc < 42 → ck_at 12 pc = true := by
  intro pc h
  by_cases h0 : pc < 42
  · have := List.all_eq_true.mp ck_a_12_0 (pc - 0) (List.mem_range.mpr (by omega))
    rwa [show 0 + (pc - 0) = pc by omega] at this
  omega
theorem ck_a_13_0 : (List.range 80).all (fun j => ck_at 13 (0 + j)) = true := by decide +kernel
theorem ck_a_13_80 : (List.range 33).all (fun j => ck_at 13 (80 + j)) = true := by decide +kernel
theorem ck_a_13 : ∀ pc, pc < 113 → ck_at 13 pc = true := by
  intro pc h
  by_cases h0 : pc < 80
  · have := List.all_eq_true.mp ck_a_13_0 (pc - 0) (List.mem_range.mpr (by omega))
    rwa [show 0 + (pc - 0) = pc by omega] at this
  by_cases h80 : pc < 113
  · have := List.all_eq_true.mp ck_a_13_80 (pc - 80) (List.mem_range.mpr (by omega))
    rwa [show 80 + (pc - 80) = pc by omega] at this
  omega
theorem ck_a_14_0 : (List.range 67).all (fun j => ck_at 14 (0 + j)) = true := by decide +kernel
theorem ck_a_14 : ∀ pc, pc < 67 → ck_at 14 pc = true := by
  intro pc h
  by_cases h0 : pc < 67
  · have := List.all_eq_true.mp ck_a_14_0 (pc - 0) (List.mem_range.mpr (by omega))
    rwa [show 0 + (pc - 0) = pc by omega] at this
  omega
theorem ck_a_15_0 : (List.range 80).all (fun j => ck_at 15 (0 + j)) = true := by decide +kernel
theorem ck_a_15_80 : (List.range 7).all (fun j => ck_at 15 (80 + j)) = true := by decide +kernel
theorem ck_a_15 : ∀ pc, pc < 87 → ck_at 15 pc = true := by
  intro pc h
  by_cases h0 : pc < 80
  · have := List.all_eq_true.mp ck_a_15_0 (pc - 0) (List.mem_range.mpr (by omega))
    rwa [show 0 + (pc - 0) = pc by omega] at this
  by_cases h80 : pc < 87
  · have := List.all_eq_true.mp ck_a_15_80 (pc - 80) (List.mem_range.mpr (by omega))
    rwa [show 80 + (pc - 80) = pc by omega] at this
  omega
theorem ck_a_16_0 : (List.range 32).all (fun j => ck_at 16 (0 + j)) = true := by decide +kernel
theorem ck_a_16 : ∀ pc, pc < 32 → ck_at 16 pc = true := by
  intro pc h
  by_cases h0 : pc < 32
  · have := List.all_eq_true.mp ck_a_16_0 (pc - 0) (List.mem_range.mpr (by omega))
    rwa [show 0 + (pc - 0) = pc by omega] at this
  omega
theorem ck_a_17_0 : (List.range 20).all (fun j => ck_at 17 (0 + j)) = true := by decide +kernel
theorem ck_a_17 : ∀ pc, pc < 20 → ck_at 17 pc = true := by
  intro pc h
  by_cases h0 : pc < 20
  · have := List.all_eq_true.mp ck_a_17_0 (pc - 0) (List.mem_range.mpr (by omega))
    rwa [show 0 + (pc - 0) = pc by omega] at this
  omega
theorem ck_a_18_0 : (List.range 72).all (fun j => ck_at 18 (0 + j)) = true := by decide +kernel
theorem ck_a_18 : ∀ pc, pc < 72 → ck_at 18 pc = true := by
  intro pc h
  by_cases h0 : pc < 72
  · have := List.all_eq_true.mp ck_a_18_0 (pc - 0) (List.mem_range.mpr (by omega))
    rwa [show 0 + (pc - 0) = pc by omega] at this
  omega
theorem ck_a_19_0 : (List.range 33).all (fun j => ck_at 19 (0 + j)) = true := by decide +kernel
theorem ck_a_19 : ∀ pc, pc < 33 → ck_at 19 pc = true := by
  intro pc h
  by_cases h0 : pc < 33
  · have := List.all_eq_true.mp ck_a_19_0 (pc - 0) (List.mem_range.mpr (by omega))
    rwa [show 0 + (pc - 0) = pc by omega] at this
  omega
theorem ck_a_20_0 : (List.range 80).all (fun j => ck_at 20 (0 + j)) = true := by decide +kernel
theorem ck_a_20_80 : (List.range 21).all (fun j => ck_at 20 (80 + j)) = true := by decide +kernel
theorem ck_a_20 : ∀ pc, pc < 101 → ck_at 20 pc = true := by
  intro pc h
  by_cases h0 : pc < 80
  · have := List.all_eq_true.mp ck_a_20_0 (pc - 0) (List.mem_range.mpr (by omega))
    rwa [show 0 + (pc - 0) = pc by omega] at this
  by_cases h80 : pc < 101
  · have := List.all_eq_true.mp ck_a_20_80 (pc - 80) (List.mem_range.mpr (by omega))
    rwa [show 80 + (pc - 80) = pc by omega] at this
  omega
theorem ck_a_21_0 : (List.range 24).all (fun j => ck_at 21 (0 + j)) = true := by decide +kernel
theorem ck_a_21 : ∀ pc, pc < 24 → ck_at 21 pc = true := by
  intro pc h
  by_cases h0 : pc < 24
  · have := List.all_eq_true.mp ck_a_21_0 (pc - 0) (List.mem_range.mpr (by omega))
    rwa [show 0 + (pc - 0) = pc by omega] at this
  omega
theorem ck_a_22_0 : (List.range 58).all (fun j => ck_at 22 (0 + j)) = true := by decide +kernel
theorem ck_a_22 : ∀ pc, pc < 58 → ck_at 22 pc = true := by
  intro pc h
  by_cases h0 : pc < 58
  · have := List.all_eq_true.mp ck_a_22_0 (pc - 0) (List.mem_range.mpr (by omega))
    rwa [show 0 + (pc - 0) = pc by omega] at this
  omega
theorem ck_a_23_0 : (List.range 72).all (fun j => ck_at 23 (0 + j)) = true := by decide +kernel
theorem ck_a_23 : ∀ pc, pc < 72 → ck_at 23 pc = true := by
  intro pc h
  by_cases h0 : pc < 72
  · have := List.all_eq_true.mp ck_a_23_0 (pc - 0) (List.mem_range.mpr (by omega))
    rwa [show 0 + (pc - 0) = pc by omega] at this
  omega
theorem ck_a_24_0 : (List.range 80).all (fun j => ck_at 24 (0 + j)) = true := by decide +kernel
theorem ck_a_24_80 : (List.range 22).all (fun j => ck_at 24 (80 + j)) = true := by decide +kernel
theorem ck_a_24 : ∀ pc, pc < 102 → ck_at 24 pc = true := by
  intro pc h
  by_cases h0 : pc < 80
  · have := List.all_eq_true.mp ck_a_24_0 (pc - 0) (List.mem_range.mpr (by omega))
    rwa [show 0 + (pc - 0) = pc by omega] at this
  by_cases h80 : pc < 102
  · have := List.all_eq_true.mp ck_a_24_80 (pc - 80) (List.mem_range.mpr (by omega))
    rwa [show 80 + (pc - 80) = pc by omega] at this
  omega
theorem ck_a_25_0 : (List.range 37).all (fun j => ck_at 25 (0 + j)) = true := by decide +kernel
theorem ck_a_25 : ∀ pc, pc < 37 → ck_at 25 pc = true := by
  intro pc h
  by_cases h0 : pc < 37
  · have := List.all_eq_true.mp ck_a_25_0 (pc - 0) (List.mem_range.mpr (by omega))
    rwa [show 0 + (pc - 0) = pc by omega] at this
  omega
theorem ck_a_26_0 : (List.range 72).all (fun j => ck_at 26 (0 + j)) = true := by decide +kernel
theorem ck_a_26 : ∀ pc, pc < 72 → ck_at 26 pc = true := by
  intro pc h
  by_cases h0 : pc < 72
  · have := List.all_eq_true.mp ck_a_26_0 (pc - 0) (List.mem_range.mpr (by omega))
    rwa [show 0 + (pc - 0) = pc by omega] at this
  omega
theorem ck_a_27_0 : (List.range 72).all (fun j => ck_at 27 (0 + j)) = true := by decide +kernel
theorem ck_a_27 : ∀ pc, pc < 72 → ck_at 27 pc = true := by
  intro pc h
  by_cases h0 : pc < 72
  · have := List.all_eq_true.mp ck_a_27_0 (pc - 0) (List.mem_range.mpr (by omega))
    rwa [show 0 + (pc - 0) = pc by omega] at this
  omega
theorem ck_a_28_0 : (List.range 80).all (fun j => ck_at 28 (0 + j)) = true := by decide +kernel
theorem ck_a_28_80 : (List.range 11).all (fun j => ck_at 28 (80 + j)) = true := by decide +kernel
theorem ck_a_28 : ∀ pc, pc < 91 → ck_at 28 pc = true := by
  intro pc h
  by_cases h0 : pc < 80
  · have := List.all_eq_true.mp ck_a_28_0 (pc - 0) (List.mem_range.mpr (by omega))
    rwa [show 0 + (pc - 0) = pc by omega] at this
  by_cases h80 : pc < 91
  · have := List.all_eq_true.mp ck_a_28_80 (pc - 80) (List.mem_range.mpr (by omega))
    rwa [show 80 + (pc - 80) = pc by omega] at this
  omega
theorem ck_a_29_0 : (List.range 18).all (fun j => ck_at 29 (0 + j)) = true := by decide +kernel
theorem ck_a_29 : ∀ pc, pc < 18 → ck_at 29 pc = true := by
  intro pc h
  by_cases h0 : pc < 18
  · have := List.all_eq_true.mp ck_a_29_0 (pc - 0) (List.mem_range.mpr (by omega))
    rwa [show 0 + (pc - 0) = pc by omega] at this
  omega
theorem ck_a_30_0 : (List.range 24).all (fun j => ck_at 30 (0 + j)) = true := by decide +kernel
theorem ck_a_30 : ∀ pc, pc < 24 → ck_at 30 pc = true := by
  intro pc h
  by_cases h0 : pc < 24
  · have := List.all_eq_true.mp ck_a_30_0 (pc - 0) (List.mem_range.mpr (by omega))
    rwa [show 0 + (pc - 0) = pc by omega] at this
  omega
theorem ck_a_31_0 : (List.range 80).all (fun j => ck_at 31 (0 + j)) = true := by decide +kernel
theorem ck_a_31_80 : (List.range 16).all (fun j => ck_at 31 (80 + j)) = true := by decide +kernel
theorem ck_a_31 : ∀ pc, pc < 96 → ck_at 31 pc = true := by
  intro pc h
  by_cases h0 : pc < 80
  · have := List.all_eq_true.mp ck_a_31_0 (pc - 0) (List.mem_range.mpr (by omega))
    rwa [show 0 + (pc - 0) = pc by omega] at this
  by_cases h80 : pc < 96
  · have := List.all_eq_true.mp ck_a_31_80 (pc - 80) (List.mem_range.mpr (by omega))
    rwa [show 80 + (pc - 80) = pc by omega] at this
  omega
theorem ck_a_32_0 : (List.range 80).all (fun j => ck_at 32 (0 + j)) = true := by decide +kernel
theorem ck_a_32_80 : (List.range 80).all (fun j => ck_at 32 (80 + j)) = true := by decide +kernel
theorem ck_a_32_160 : (List.range 15).all (fun j => ck_at 32 (160 + j)) = true := by decide +kernel
theorem ck_a_32 : ∀ pc, pc < 175 → ck_at 32 pc = true := by
  intro pc h
  by_cases h0 : pc < 80
  · have := List.all_eq_true.mp ck_a_32_0 (pc - 0) (List.mem_range.mpr (by omega))
    rwa [show 0 + (pc - 0) = pc by omega] at this
  by_cases h80 : pc < 160
  · have := List.all_eq_true.mp ck_a_32_80 (pc - 80) (List.mem_range.mpr (by omega))
    rwa [show 80 + (pc - 80) = pc by omega] at this
  by_cases h160 : pc < 175
  · have := List.all_eq_true.mp ck_a_32_160 (pc - 160) (List.mem_range.mpr (by omega))
    rwa [show 160 + (pc - 160) = pc by omega] at this
  omega
theorem ck_a_33_0 : (List.range 23).all (fun j => ck_at 33 (0 + j)) = true := by decide +kernel
theorem ck_a_33 : ∀ pc, pc < 23 → ck_at 33 pc = true := by
  intro pc h
  by_cases h0 : pc < 23
  · have := List.all_eq_true.mp ck_a_33_0 (pc - 0) (List.mem_range.mpr (by omega))
    rwa [show 0 + (pc - 0) = pc by omega] at this
  omega
theorem ck_a_34_0 : (List.range 22).all (fun j => ck_at 34 (0 + j)) = true := by decide +kernel
theorem ck_a_34 : ∀ pc, pc < 22 → ck_at 34 pc = true := by
  intro pc h
  by_cases h0 : pc < 22
  · have := List.all_eq_true.mp ck_a_34_0 (pc - 0) (List.mem_range.mpr (by omega))
    rwa [show 0 + (pc - 0) = pc by omega] at this
  omega
theorem ck_a_35_0 : (List.range 80).all (fun j => ck_at 35 (0 + j)) = true := by decide +kernel
theorem ck_a_35_80 : (List.range 5).all (fun j => ck_at 35 (80 + j)) = true := by decide +kernel
theorem ck_a_35 : ∀ pc, pc < 85 → ck_at 35 pc = true := by
  intro pc h
  by_cases h0 : pc < 80
  · have := List.all_eq_true.mp ck_a_35_0 (pc - 0) (List.mem_range.mpr (by omega))
    rwa [show 0 + (pc - 0) = pc by omega] at this
  by_cases h80 : pc < 85
  · have := List.all_eq_true.mp ck_a_35_80 (pc - 80) (List.mem_range.mpr (by omega))
    rwa [show 80 + (pc - 80) = pc by omega] at this
  omega
theorem ck_a_36_0 : (List.range 80).all (fun j => ck_at 36 (0 + j)) = true := by decide +kernel
theorem ck_a_36_80 : (List.range 80).all (fun j => ck_at 36 (80 + j)) = true := by decide +kernel
theorem ck_a_36_160 : (List.range 36).all (fun j => ck_at 36 (160 + j)) = true := by decide +kernel
theorem ck_a_36 : ∀ pc, pc < 196 → ck_at 36 pc = true := by
  intro pc h
  by_cases h0 : pc < 80
  · have := List.all_eq_true.mp ck_a_36_0 (pc - 0) (List.mem_range.mpr (by omega))
    rwa [show 0 + (pc - 0) = pc by omega] at this
  by_cases h80 : pc < 160
  · have := List.all_eq_true.mp ck_a_36_80 (pc - 80) (List.mem_range.mpr (by omega))
    rwa [show 80 + (pc - 80) = pc by omega] at this
  by_cases h160 : pc < 196
  · have := List.all_eq_true.mp ck_a_36_160 (pc - 160) (List.mem_range.mpr (by omega))
    rwa [show 160 + (pc - 160) = pc by omega] at this
  omega
theorem ck_a_37_0 : (List.range 29).all (fun j => ck_at 37 (0 + j)) = true := by decide +kernel
theorem ck_a_37 : ∀ pc, pc < 29 → ck_at 37 pc = true := by
  intro pc h
  by_cases h0 : pc < 29
  · have := List.all_eq_true.mp ck_a_37_0 (pc - 0) (List.mem_range.mpr (by omega))
    rwa [show 0 + (pc - 0) = pc by omega] at this
  omega
theorem ck_a_38_0 : (List.range 54).all (fun j => ck_at 38 (0 + j)) = true := by decide +kernel
theorem ck_a_38 : ∀ pc, pc < 54 → ck_at 38 pc = true := by
  intro pc h
  by_cases h0 : pc < 54
  · have := List.all_eq_true.mp ck_a_38_0 (pc - 0) (List.mem_range.mpr (by omega))
    rwa [show 0 + (pc - 0) = pc by omega] at this
  omega
theorem ck_a_39_0 : (List.range 5).all (fun j => ck_at 39 (0 + j)) = true := by decide +kernel
theorem ck_a_39 : ∀ pc, pc < 5 → ck_at 39 pc = true := by
  intro pc h
  by_cases h0 : pc < 5
  · have := List.all_eq_true.mp ck_a_39_0 (pc - 0) (List.mem_range.mpr (by omega))
    rwa [show 0 + (pc - 0) = pc by omega] at this
  omega
theorem ck_a_40_0 : (List.range 6).all (fun j => ck_at 40 (0 + j)) = true := by decide +kernel
theorem ck_a_40 : ∀ pc, pc < 6 → ck_at 40 pc = true := by
  intro pc h
  by_cases h0 : pc < 6
  · have := List.all_eq_true.mp ck_a_40_0 (pc - 0) (List.mem_range.mpr (by omega))
    rwa [show 0 + (pc - 0) = pc by omega] at this
  omega
theorem ck_a_41_0 : (List.range 54).all (fun j => ck_at 41 (0 + j)) = true := by decide +kernel
theorem ck_a_41 : ∀ pc, pc < 54 → ck_at 41 pc = true := by
  intro pc h
  by_cases h0 : pc < 54
  · have := List.all_eq_true.mp ck_a_41_0 (pc - 0) (List.mem_range.mpr (by omega))
    rwa [show 0 + (pc - 0) = pc by omega] at this
  omega
theorem ck_a_42_0 : (List.range 45).all (fun j => ck_at 42 (0 + j)) = true := by decide +kernel
theorem ck_a_42 : ∀ pc, pc < 45 → ck_at 42 pc = true := by
  intro pc h
  by_cases h0 : pc < 45
  · have := List.all_eq_true.mp ck_a_42_0 (pc - 0) (List.mem_range.mpr (by omega))
    rwa [show 0 + (pc - 0) = pc by omega] at this
  omega
theorem ck_a_43_0 : (List.range 34).all (fun j => ck_at 43 (0 + j)) = true := by decide +kernel
theorem ck_a_43 : ∀ pc, pc < 34 → ck_at 43 pc = true := by
  intro pc h
  by_cases h0 : pc < 34
  · have := List.all_eq_true.mp ck_a_43_0 (pc - 0) (List.mem_range.mpr (by omega))
    rwa [show 0 + (pc - 0) = pc by omega] at this
  omega
theorem ck_a_44_0 : (List.range 40).all (fun j => ck_at 44 (0 + j)) = true := by decide +kernel
theorem ck_a_44 : ∀ pc, pc < 40 → ck_at 44 pc = true := by
  intro pc h
  by_cases h0 : pc < 40
  · have := List.all_eq_true.mp ck_a_44_0 (pc - 0) (List.mem_range.mpr (by omega))
    rwa [show 0 + (pc - 0) = pc by omega] at this
  omega
theorem ck_a_45_0 : (List.range 23).all (fun j => ck_at 45 (0 + j)) = true := by decide +kernel
theorem ck_a_45 : ∀ pc, pc < 23 → ck_at 45 pc = true := by
  intro pc h
  by_cases h0 : pc < 23
  · have := List.all_eq_true.mp ck_a_45_0 (pc - 0) (List.mem_range.mpr (by omega))
    rwa [show 0 + (pc - 0) = pc by omega] at this
  omega
theorem ck_a_46_0 : (List.range 19).all (fun j => ck_at 46 (0 + j)) = true := by decide +kernel
theorem ck_a_46 : ∀ pc, pc < 19 → ck_at 46 pc = true := by
  intro pc h
  by_cases h0 : pc < 19
  · have := List.all_eq_true.mp ck_a_46_0 (pc - 0) (List.mem_range.mpr (by omega))
    rwa [show 0 + (pc - 0) = pc by omega] at this
  omega
theorem ck_a_47_0 : (List.range 10).all (fun j => ck_at 47 (0 + j)) = true := by decide +kernel
theorem ck_a_47 : ∀ pc, pc < 10 → ck_at 47 pc = true := by
  intro pc h
  by_cases h0 : pc < 10
  · have := List.all_eq_true.mp ck_a_47_0 (pc - 0) (List.mem_range.mpr (by omega))
    rwa [show 0 + (pc - 0) = pc by omega] at this
  omega
theorem ck_a_48_0 : (List.range 80).all (fun j => ck_at 48 (0 + j)) = true := by decide +kernel
theorem ck_a_48_80 : (List.range 2).all (fun j => ck_at 48 (80 + j)) = true := by decide +kernel
theorem ck_a_48 : ∀ pc, pc < 82 → ck_at 48 pc = true := by
  intro pc h
  by_cases h0 : pc < 80
  · have := List.all_eq_true.mp ck_a_48_0 (pc - 0) (List.mem_range.mpr (by omega))
    rwa [show 0 + (pc - 0) = pc by omega] at this
  by_cases h80 : pc < 82
  · have := List.all_eq_true.mp ck_a_48_80 (pc - 80) (List.mem_range.mpr (by omega))
    rwa [show 80 + (pc - 80) = pc by omega] at this
  omega
theorem ck_a_49_0 : (List.range 42).all (fun j => ck_at 49 (0 + j)) = true := by decide +kernel
theorem ck_a_49 : ∀ pc, pc < 42 → ck_at 49 pc = true := by
  intro pc h
  by_cases h0 : pc < 42
  · have := List.all_eq_true.mp ck_a_49_0 (pc - 0) (List.mem_range.mpr (by omega))
    rwa [show 0 + (pc - 0) = pc by omega] at this
  omega
theorem ck_a_50_0 : (List.range 80).all (fun j => ck_at 50 (0 + j)) = true := by decide +kernel
theorem ck_a_50_80 : (List.range 48).all (fun j => ck_at 50 (80 + j)) = true := by decide +kernel
theorem ck_a_50 : ∀ pc, pc < 128 → ck_at 50 pc = true := by
  intro pc h
  by_cases h0 : pc < 80
  · have := List.all_eq_true.mp ck_a_50_0 (pc - 0) (List.mem_range.mpr (by omega))
    rwa [show 0 + (pc - 0) = pc by omega] at this
  by_cases h80 : pc < 128
  · have := List.all_eq_true.mp ck_a_50_80 (pc - 80) (List.mem_range.mpr (by omega))
    rwa [show 80 + (pc - 80) = pc by omega] at this
  omega
theorem ck_a_51_0 : (List.range 18).all (fun j => ck_at 51 (0 + j)) = true := by decide +kernel
theorem ck_a_51 : ∀ pc, pc < 18 → ck_at 51 pc = true := by
  intro pc h
  by_cases h0 : pc < 18
  · have := List.all_eq_true.mp ck_a_51_0 (pc - 0) (List.mem_range.mpr (by omega))
    rwa [show 0 + (pc - 0) = pc by omega] at this
  omega
theorem ck_a_52_0 : (List.range 16).all (fun j => ck_at 52 (0 + j)) = true := by decide +kernel
theorem ck_a_52 : ∀ pc, pc < 16 → ck_at 52 pc = true := by
  intro pc h
  by_cases h0 : pc < 16
  · have := List.all_eq_true.mp ck_a_52_0 (pc - 0) (List.mem_range.mpr (by omega))
    rwa [show 0 + (pc - 0) = pc by omega] at this
  omega
theorem ck_a_53_0 : (List.range 32).all (fun j => ck_at 53 (0 + j)) = true := by decide +kernel
theorem ck_a_53 : ∀ pc, pc < 32 → ck_at 53 pc = true := by
  intro pc h
  by_cases h0 : pc < 32
  · have := List.all_eq_true.mp ck_a_53_0 (pc - 0) (List.mem_range.mpr (by omega))
    rwa [show 0 + (pc - 0) = pc by omega] at this
  omega
theorem ck_a_54_0 : (List.range 41).all (fun j => ck_at 54 (0 + j)) = true := by decide +kernel
theorem ck_a_54 : ∀ pc, pc < 41 → ck_at 54 pc = true := by
  intro pc h
  by_cases h0 : pc < 41
  · have := List.all_eq_true.mp ck_a_54_0 (pc - 0) (List.mem_range.mpr (by omega))
    rwa [show 0 + (pc - 0) = pc by omega] at this
  omega
theorem ck_a_55_0 : (List.range 24).all (fun j => ck_at 55 (0 + j)) = true := by decide +kernel
theorem ck_a_55 : ∀ pc, pc < 24 → ck_at 55 pc = true := by
  intro pc h
  by_cases h0 : pc < 24
  · have := List.all_eq_true.mp ck_a_55_0 (pc - 0) (List.mem_range.mpr (by omega))
    rwa [show 0 + (pc - 0) = pc by omega] at this
  omega
theorem ck_a_56_0 : (List.range 26).all (fun j => ck_at 56 (0 + j)) = true := by decide +kernel
theorem ck_a_56 : ∀ pc, pc < 26 → ck_at 56 pc = true := by
  intro pc h
  by_cases h0 : pc < 26
  · have := List.all_eq_true.mp ck_a_56_0 (pc - 0) (List.mem_range.mpr (by omega))
    rwa [show 0 + (pc - 0) = pc by omega] at this
  omega
theorem ck_a_57_0 : (List.range 21).all (fun j => ck_at 57 (0 + j)) = true := by decide +kernel
theorem ck_a_57 : ∀ pc, pc < 21 → ck_at 57 pc = true := by
  intro pc h
  by_cases h0 : pc < 21
  · have := List.all_eq_true.mp ck_a_57_0 (pc - 0) (List.mem_range.mpr (by omega))
    rwa [show 0 + (pc - 0) = pc by omega] at this
  omega
theorem ck_a_58_0 : (List.range 50).all (fun j => ck_at 58 (0 + j)) = true := by decide +kernel
theorem ck_a_58 : ∀ pc, pc < 50 → ck_at 58 pc = true := by
  intro pc h
  by_cases h0 : pc < 50
  · have := List.all_eq_true.mp ck_a_58_0 (pc - 0) (List.mem_range.mpr (by omega))
    rwa [show 0 + (pc - 0) = pc by omega] at this
  omega
theorem ck_a_59_0 : (List.range 5).all (fun j => ck_at 59 (0 + j)) = true := by decide +kernel
theorem ck_a_59 : ∀ pc, pc < 5 → ck_at 59 pc = true := by
  intro pc h
  by_cases h0 : pc < 5
  · have := List.all_eq_true.mp ck_a_59_0 (pc - 0) (List.mem_range.mpr (by omega))
    rwa [show 0 + (pc - 0) = pc by omega] at this
  omega
theorem ck_a_60_0 : (List.range 6).all (fun j => ck_at 60 (0 + j)) = true := by decide +kernel
theorem ck_a_60 : ∀ pc, pc < 6 → ck_at 60 pc = true := by
  intro pc h
  by_cases h0 : pc < 6
  · have := List.all_eq_true.mp ck_a_60_0 (pc - 0) (List.mem_range.mpr (by omega))
    rwa [show 0 + (pc - 0) = pc by omega] at this
  omega
theorem ck_a_61_0 : (List.range 80).all (fun j => ck_at 61 (0 + j)) = true := by decide +kernel
theorem ck_a_61_80 : (List.range 1).all (fun j => ck_at 61 (80 + j)) = true := by decide +kernel
theorem ck_a_61 : ∀ pc, pc < 81 → ck_at 61 pc = true := by
  intro pc h
  by_cases h0 : pc < 80
  · have := List.all_eq_true.mp ck_a_61_0 (pc - 0) (List.mem_range.mpr (by omega))
    rwa [show 0 + (pc - 0) = pc by omega] at this
  by_cases h80 : pc < 81
  · have := List.all_eq_true.mp ck_a_61_80 (pc - 80) (List.mem_range.mpr (by omega))
    rwa [show 80 + (pc - 80) = pc by omega] at this
  omega
theorem ck_a_62_0 : (List.range 27).all (fun j => ck_at 62 (0 + j)) = true := by decide +kernel
theorem ck_a_62 : ∀ pc, pc < 27 → ck_at 62 pc = true := by
  intro pc h
  by_cases h0 : pc < 27
  · have := List.all_eq_true.mp ck_a_62_0 (pc - 0) (List.mem_range.mpr (by omega))
    rwa [show 0 + (pc - 0) = pc by omega] at this
  omega
theorem ck_a_63_0 : (List.range 6).all (fun j => ck_at 63 (0 + j)) = true := by decide +kernel
theorem ck_a_63 : ∀ pc, pc < 6 → ck_at 63 pc = true := by
  intro pc h
  by_cases h0 : pc < 6
  · have := List.all_eq_true.mp ck_a_63_0 (pc - 0) (List.mem_range.mpr (by omega))
    rwa [show 0 + (pc - 0) = pc by omega] at this
  omega
theorem ck_a_64_0 : (List.range 32).all (fun j => ck_at 64 (0 + j)) = true := by decide +kernel
theorem ck_a_64 : ∀ pc, pc < 32 → ck_at 64 pc = true := by
  intro pc h
  by_cases h0 : pc < 32
  · have := List.all_eq_true.mp ck_a_64_0 (pc - 0) (List.mem_range.mpr (by omega))
    rwa [show 0 + (pc - 0) = pc by omega] at this
  omega
theorem ck_a_65_0 : (List.range 80).all (fun j => ck_at 65 (0 + j)) = true := by decide +kernel
theorem ck_a_65_80 : (List.range 62).all (fun j => ck_at 65 (80 + j)) = true := by decide +kernel
theorem ck_a_65 : ∀ pc, pc < 142 → ck_at 65 pc = true := by
  intro pc h
  by_cases h0 : pc < 80
  · have := List.all_eq_true.mp ck_a_65_0 (pc - 0) (List.mem_range.mpr (by omega))
    rwa [show 0 + (pc - 0) = pc by omega] at this
  by_cases h80 : pc < 142
  · have := List.all_eq_true.mp ck_a_65_80 (pc - 80) (List.mem_range.mpr (by omega))
    rwa [show 80 + (pc - 80) = pc by omega] at this
  omega
theorem ck_a_66_0 : (List.range 80).all (fun j => ck_at 66 (0 + j)) = true := by decide +kernel
theorem ck_a_66_80 : (List.range 30).all (fun j => ck_at 66 (80 + j)) = true := by decide +kernel
theorem ck_a_66 : ∀ pc, pc < 110 → ck_at 66 pc = true := by
  intro pc h
  by_cases h0 : pc < 80
  · have := List.all_eq_true.mp ck_a_66_0 (pc - 0) (List.mem_range.mpr (by omega))
    rwa [show 0 + (pc - 0) = pc by omega] at this
  by_cases h80 : pc < 110
  · have := List.all_eq_true.mp ck_a_66_80 (pc - 80) (List.mem_range.mpr (by omega))
    rwa [show 80 + (pc - 80) = pc by omega] at this
  omega
theorem ck_a_67_0 : (List.range 80).all (fun j => ck_at 67 (0 + j)) = true := by decide +kernel
theorem ck_a_67_80 : (List.range 8).all (fun j => ck_at 67 (80 + j)) = true := by decide +kernel
theorem ck_a_67 : ∀ pc, pc < 88 → ck_at 67 pc = true := by
  intro pc h
  by_cases h0 : pc < 80
  · have := List.all_eq_true.mp ck_a_67_0 (pc - 0) (List.mem_range.mpr (by omega))
    rwa [show 0 + (pc - 0) = pc by omega] at this
  by_cases h80 : pc < 88
  · have := List.all_eq_true.mp ck_a_67_80 (pc - 80) (List.mem_range.mpr (by omega))
    rwa [show 80 + (pc - 80) = pc by omega] at this
  omega
theorem ck_a_68_0 : (List.range 24).all (fun j => ck_at 68 (0 + j)) = true := by decide +kernel
theorem ck_a_68 : ∀ pc, pc < 24 → ck_at 68 pc = true := by
  intro pc h
  by_cases h0 : pc < 24
  · have := List.all_eq_true.mp ck_a_68_0 (pc - 0) (List.mem_range.mpr (by omega))
    rwa [show 0 + (pc - 0) = pc by omega] at this
  omega
theorem ck_a_69_0 : (List.range 23).all (fun j => ck_at 69 (0 + j)) = true := by decide +kernel
theorem ck_a_69 : ∀ pc, pc < 23 → ck_at 69 pc = true := by
  intro pc h
  by_cases h0 : pc < 23
  · have := List.all_eq_true.mp ck_a_69_0 (pc - 0) (List.mem_range.mpr (by omega))
    rwa [show 0 + (pc - 0) = pc by omega] at this
  omega
theorem ck_a_70_0 : (List.range 24).all (fun j => ck_at 70 (0 + j)) = true := by decide +kernel
theorem ck_a_70 : ∀ pc, pc < 24 → ck_at 70 pc = true := by
  intro pc h
  by_cases h0 : pc < 24
  · have := List.all_eq_true.mp ck_a_70_0 (pc - 0) (List.mem_range.mpr (by omega))
    rwa [show 0 + (pc - 0) = pc by omega] at this
  omega
theorem ck_a_71_0 : (List.range 36).all (fun j => ck_at 71 (0 + j)) = true := by decide +kernel
theorem ck_a_71 : ∀ pc, pc < 36 → ck_at 71 pc = true := by
  intro pc h
  by_cases h0 : pc < 36
  · have := List.all_eq_true.mp ck_a_71_0 (pc - 0) (List.mem_range.mpr (by omega))
    rwa [show 0 + (pc - 0) = pc by omega] at this
  omega
theorem ck_a_72_0 : (List.range 26).all (fun j => ck_at 72 (0 + j)) = true := by decide +kernel
theorem ck_a_72 : ∀ pc, pc < 26 → ck_at 72 pc = true := by
  intro pc h
  by_cases h0 : pc < 26
  · have := List.all_eq_true.mp ck_a_72_0 (pc - 0) (List.mem_range.mpr (by omega))
    rwa [show 0 + (pc - 0) = pc by omega] at this
  omega
theorem ck_a_73_0 : (List.range 66).all (fun j => ck_at 73 (0 + j)) = true := by decide +kernel
theorem ck_a_73 : ∀ pc, pc < 66 → ck_at 73 pc = true := by
  intro pc h
  by_cases h0 : pc < 66
  · have := List.all_eq_true.mp ck_a_73_0 (pc - 0) (List.mem_range.mpr (by omega))
    rwa [show 0 + (pc - 0) = pc by omega] at this
  omega
theorem ck_a_74_0 : (List.range 80).all (fun j => ck_at 74 (0 + j)) = true := by decide +kernel
theorem ck_a_74_80 : (List.range 28).all (fun j => ck_at 74 (80 + j)) = true := by decide +kernel
theorem ck_a_74 : ∀ pc, pc < 108 → ck_at 74 pc = true := by
  intro pc h
  by_cases h0 : pc < 80
  · have := List.all_eq_true.mp ck_a_74_0 (pc - 0) (List.mem_range.mpr (by omega))
    rwa [show 0 + (pc - 0) = pc by omega] at this
  by_cases h80 : pc < 108
  · have := List.all_eq_true.mp ck_a_74_80 (pc - 80) (List.mem_range.mpr (by omega))
    rwa [show 80 + (pc - 80) = pc by omega] at this
  omega
theorem ck_a_75_0 : (List.range 65).all (fun j => ck_at 75 (0 + j)) = true := by decide +kernel
theorem ck_a_75 : ∀ pc, pc < 65 → ck_at 75 pc = true := by
  intro pc h
  by_cases h0 : pc < 65
  · have := List.all_eq_true.mp ck_a_75_0 (pc - 0) (List.mem_range.mpr (by omega))
    rwa [show 0 + (pc - 0) = pc by omega] at this
  omega
theorem ck_a_76_0 : (List.range 24).all (fun j => ck_at 76 (0 + j)) = true := by decide +kernel
theorem ck_a_76 : ∀ pc, pc < 24 → ck_at 76 pc = true := by
  intro pc h
  by_cases h0 : pc < 24
  · have := List.all_eq_true.mp ck_a_76_0 (pc - 0) (List.mem_range.mpr (by omega))
    rwa [show 0 + (pc - 0) = pc by omega] at this
  omega
theorem ck_a_77_0 : (List.range 35).all (fun j => ck_at 77 (0 + j)) = true := by decide +kernel
theorem ck_a_77 : ∀ pc, pc < 35 → ck_at 77 pc = true := by
  intro pc h
  by_cases h0 : pc < 35
  · have := List.all_eq_true.mp ck_a_77_0 (pc - 0) (List.mem_range.mpr (by omega))
    rwa [show 0 + (pc - 0) = pc by omega] at this
  omega
theorem ck_a_78_0 : (List.range 58).all (fun j => ck_at 78 (0 + j)) = true := by decide +kernel
theorem ck_a_78 : ∀ pc, pc < 58 → ck_at 78 pc = true := by
  intro pc h
  by_cases h0 : pc < 58
  · have := List.all_eq_true.mp ck_a_78_0 (pc - 0) (List.mem_range.mpr (by omega))
    rwa [show 0 + (pc - 0) = pc by omega] at this
  omega
theorem ck_a_79_0 : (List.range 5).all (fun j => ck_at 79 (0 + j)) = true := by decide +kernel
theorem ck_a_79 : ∀ pc, pc < 5 → ck_at 79 pc = true := by
  intro pc h
  by_cases h0 : pc < 5
  · have := List.all_eq_true.mp ck_a_79_0 (pc - 0) (List.mem_range.mpr (by omega))
    rwa [show 0 + (pc - 0) = pc by omega] at this
  omega
theorem ck_a_80_0 : (List.range 6).all (fun j => ck_at 80 (0 + j)) = true := by decide +kernel
theorem ck_a_80 : ∀ pc, pc < 6 → ck_at 80 pc = true := by
  intro pc h
  by_cases h0 : pc < 6
  · have := List.all_eq_true.mp ck_a_80_0 (pc - 0) (List.mem_range.mpr (by omega))
    rwa [show 0 + (pc - 0) = pc by omega] at this
  omega
theorem ck_a_81_0 : (List.range 6).all (fun j => ck_at 81 (0 + j)) = true := by decide +kernel
theorem ck_a_81 : ∀ pc, pc < 6 → ck_at 81 pc = true := by
  intro pc h
  by_cases h0 : pc < 6
  · have := List.all_eq_true.mp ck_a_81_0 (pc - 0) (List.mem_range.mpr (by omega))
    rwa [show 0 + (pc - 0) = pc by omega] at this
  omega
theorem ck_a_82_0 : (List.range 5).all (fun j => ck_at 82 (0 + j)) = true := by decide +kernel
theorem ck_a_82 : ∀ pc, pc < 5 → ck_at 82 pc = true := by
  intro pc h
  by_cases h0 : pc < 5
  · have := List.all_eq_true.mp ck_a_82_0 (pc - 0) (List.mem_range.mpr (by omega))
    rwa [show 0 + (pc - 0) = pc by omega] at this
  omega
theorem ck_a_83_0 : (List.range 45).all (fun j => ck_at 83 (0 + j)) = true := by decide +kernel
theorem ck_a_83 : ∀ pc, pc < 45 → ck_at 83 pc = true := by
  intro pc h
  by_cases h0 : pc < 45
  · have := List.all_eq_true.mp ck_a_83_0 (pc - 0) (List.mem_range.mpr (by omega))
    rwa [show 0 + (pc - 0) = pc by omega] at this
  omega
theorem ck_a_84_0 : (List.range 27).all (fun j => ck_at 84 (0 + j)) = true := by decide +kernel
theorem ck_a_84 : ∀ pc, pc < 27 → ck_at 84 pc = true := by
  intro pc h
  by_cases h0 : pc < 27
  · have := List.all_eq_true.mp ck_a_84_0 (pc - 0) (List.mem_range.mpr (by omega))
    rwa [show 0 + (pc - 0) = pc by omega] at this
  omega
theorem ck_a_85_0 : (List.range 11).all (fun j => ck_at 85 (0 + j)) = true := by decide +kernel
theorem ck_a_85 : ∀ pc, pc < 11 → ck_at 85 pc = true := by
  intro pc h
  by_cases h0 : pc < 11
  · have := List.all_eq_true.mp ck_a_85_0 (pc - 0) (List.mem_range.mpr (by omega))
    rwa [show 0 + (pc - 0) = pc by omega] at this
  omega
theorem ck_a_86_0 : (List.range 22).all (fun j => ck_at 86 (0 + j)) = true := by decide +kernel
theorem ck_a_86 : ∀ pc, pc < 22 → ck_at 86 pc = true := by
  intro pc h
  by_cases h0 : pc < 22
  · have := List.all_eq_true.mp ck_a_86_0 (pc - 0) (List.mem_range.mpr (by omega))
    rwa [show 0 + (pc - 0) = pc by omega] at this
  omega
theorem ck_a_87_0 : (List.range 76).all (fun j => ck_at 87 (0 + j)) = true := by decide +kernel
theorem ck_a_87 : ∀ pc, pc < 76 → ck_at 87 pc = true := by
  intro pc h
  by_cases h0 : pc < 76
  · have := List.all_eq_true.mp ck_a_87_0 (pc - 0) (List.mem_range.mpr (by omega))
    rwa [show 0 + (pc - 0) = pc by omega] at this
  omega
theorem ck_a_88_0 : (List.range 18).all (fun j => ck_at 88 (0 + j)) = true := by decide +kernel
theorem ck_a_88 : ∀ pc, pc < 18 → ck_at 88 pc = true := by
  intro pc h
  by_cases h0 : pc < 18
  · have := List.all_eq_true.mp ck_a_88_0 (pc - 0) (List.mem_range.mpr (by omega))
    rwa [show 0 + (pc - 0) = pc by omega] at this
  omega
theorem ck_a_89_0 : (List.range 35).all (fun j => ck_at 89 (0 + j)) = true := by decide +kernel
theorem ck_a_89 : ∀ pc, pc < 35 → ck_at 89 pc = true := by
  intro pc h
  by_cases h0 : pc < 35
  · have := List.all_eq_true.mp ck_a_89_0 (pc - 0) (List.mem_range.mpr (by omega))
    rwa [show 0 + (pc - 0) = pc by omega] at this
  omega
theorem ck_a_90_0 : (List.range 31).all (fun j => ck_at 90 (0 + j)) = true := by decide +kernel
theorem ck_a_90 : ∀ pc, pc < 31 → ck_at 90 pc = true := by
  intro pc h
  by_cases h0 : pc < 31
  · have := List.all_eq_true.mp ck_a_90_0 (pc - 0) (List.mem_range.mpr (by omega))
    rwa [show 0 + (pc - 0) = pc by omega] at this
  omega
theorem ck_a_91_0 : (List.range 49).all (fun j => ck_at 91 (0 + j)) = true := by decide +kernel
theorem ck_a_91 : ∀ pc, pc < 49 → ck_at 91 pc = true := by
  intro pc h
  by_cases h0 : pc < 49
  · have := List.all_eq_true.mp ck_a_91_0 (pc - 0) (List.mem_range.mpr (by omega))
    rwa [show 0 + (pc - 0) = pc by omega] at this
  omega
theorem ck_a_92_0 : (List.range 80).all (fun j => ck_at 92 (0 + j)) = true := by decide +kernel
theorem ck_a_92_80 : (List.range 80).all (fun j => ck_at 92 (80 + j)) = true := by decide +kernel
theorem ck_a_92_160 : (List.range 49).all (fun j => ck_at 92 (160 + j)) = true := by decide +kernel
theorem ck_a_92 : ∀ pc, pc < 209 → ck_at 92 pc = true := by
  intro pc h
  by_cases h0 : pc < 80
  · have := List.all_eq_true.mp ck_a_92_0 (pc - 0) (List.mem_range.mpr (by omega))
    rwa [show 0 + (pc - 0) = pc by omega] at this
  by_cases h80 : pc < 160
  · have := List.all_eq_true.mp ck_a_92_80 (pc - 80) (List.mem_range.mpr (by omega))
    rwa [show 80 + (pc - 80) = pc by omega] at this
  by_cases h160 : pc < 209
  · have := List.all_eq_true.mp ck_a_92_160 (pc - 160) (List.mem_range.mpr (by omega))
    rwa [show 160 + (pc - 160) = pc by omega] at this
  omega
