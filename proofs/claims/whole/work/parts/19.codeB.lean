theorem ck_a_93_0 : (List.range 80).all (fun j => ck_at 93 (0 + j)) = true := by decide +kernel
theorem ck_a_93_80 : (List.range 16).all (fun j => ck_at 93 (80 + j)) = true := by decide +kernel
theorem ck_a_93 : ∀ pc, pc < 96 → ck_at 93 pc = true := by
  intro pc h
  by_cases h0 : pc < 80
  · have := List.all_eq_true.mp ck_a_93_0 (pc - 0) (List.mem_range.mpr (by omega))
    rwa [show 0 + (pc - 0) = pc by omega] at this
  by_cases h80 : pc < 96
  · have := List.all_eq_true.mp ck_a_93_80 (pc - 80) (List.mem_range.mpr (by omega))
    rwa [show 80 + (pc - 80) = pc by omega] at this
  omega
theorem ck_a_94_0 : (List.range 27).all (fun j => ck_at 94 (0 + j)) = true := by decide +kernel
theorem ck_a_94 : ∀ pc, pc < 27 → ck_at 94 pc = true := by
  intro pc h
  by_cases h0 : pc < 27
  · have := List.all_eq_true.mp ck_a_94_0 (pc - 0) (List.mem_range.mpr (by omega))
    rwa [show 0 + (pc - 0) = pc by omega] at this
  omega
theorem ck_a_95_0 : (List.range 38).all (fun j => ck_at 95 (0 + j)) = true := by decide +kernel
theorem ck_a_95 : ∀ pc, pc < 38 → ck_at 95 pc = true := by
  intro pc h
  by_cases h0 : pc < 38
  · have := List.all_eq_true.mp ck_a_95_0 (pc - 0) (List.mem_range.mpr (by omega))
    rwa [show 0 + (pc - 0) = pc by omega] at this
  omega
theorem ck_a_96_0 : (List.range 80).all (fun j => ck_at 96 (0 + j)) = true := by decide +kernel
theorem ck_a_96_80 : (List.range 2).all (fun j => ck_at 96 (80 + j)) = true := by decide +kernel
theorem ck_a_96 : ∀ pc, pc < 82 → ck_at 96 pc = true := by
  intro pc h
  by_cases h0 : pc < 80
  · have := List.all_eq_true.mp ck_a_96_0 (pc - 0) (List.mem_range.mpr (by omega))
    rwa [show 0 + (pc - 0) = pc by omega] at this
  by_cases h80 : pc < 82
  · have := List.all_eq_true.mp ck_a_96_80 (pc - 80) (List.mem_range.mpr (by omega))
    rwa [show 80 + (pc - 80) = pc by omega] at this
  omega
theorem ck_a_97_0 : (List.range 47).all (fun j => ck_at 97 (0 + j)) = true := by decide +kernel
theorem ck_a_97 : ∀ pc, pc < 47 → ck_at 97 pc = true := by
  intro pc h
  by_cases h0 : pc < 47
  · have := List.all_eq_true.mp ck_a_97_0 (pc - 0) (List.mem_range.mpr (by omega))
    rwa [show 0 + (pc - 0) = pc by omega] at this
  omega
theorem ck_a_98_0 : (List.range 40).all (fun j => ck_at 98 (0 + j)) = true := by decide +kernel
theorem ck_a_98 : ∀ pc, pc < 40 → ck_at 98 pc = true := by
  intro pc h
  by_cases h0 : pc < 40
  · have := List.all_eq_true.mp ck_a_98_0 (pc - 0) (List.mem_range.mpr (by omega))
    rwa [show 0 + (pc - 0) = pc by omega] at this
  omega
theorem ck_a_99_0 : (List.range 24).all (fun j => ck_at 99 (0 + j)) = true := by decide +kernel
theorem ck_a_99 : ∀ pc, pc < 24 → ck_at 99 pc = true := by
  intro pc h
  by_cases h0 : pc < 24
  · have := List.all_eq_true.mp ck_a_99_0 (pc - 0) (List.mem_range.mpr (by omega))
    rwa [show 0 + (pc - 0) = pc by omega] at this
  omega
theorem ck_a_100_0 : (List.range 80).all (fun j => ck_at 100 (0 + j)) = true := by decide +kernel
theorem ck_a_100_80 : (List.range 6).all (fun j => ck_at 100 (80 + j)) = true := by decide +kernel
theorem ck_a_100 : ∀ pc, pc < 86 → ck_at 100 pc = true := by
  intro pc h
  by_cases h0 : pc < 80
  · have := List.all_eq_true.mp ck_a_100_0 (pc - 0) (List.mem_range.mpr (by omega))
    rwa [show 0 + (pc - 0) = pc by omega] at this
  by_cases h80 : pc < 86
  · have := List.all_eq_true.mp ck_a_100_80 (pc - 80) (List.mem_range.mpr (by omega))
    rwa [show 80 + (pc - 80) = pc by omega] at this
  omega
theorem ck_a_101_0 : (List.range 24).all (fun j => ck_at 101 (0 + j)) = true := by decide +kernel
theorem ck_a_101 : ∀ pc, pc < 24 → ck_at 101 pc = true := by
  intro pc h
  by_cases h0 : pc < 24
  · have := List.all_eq_true.mp ck_a_101_0 (pc - 0) (List.mem_range.mpr (by omega))
    rwa [show 0 + (pc - 0) = pc by omega] at this
  omega
theorem ck_a_102_0 : (List.range 80).all (fun j => ck_at 102 (0 + j)) = true := by decide +kernel
theorem ck_a_102_80 : (List.range 21).all (fun j => ck_at 102 (80 + j)) = true := by decide +kernel
theorem ck_a_102 : ∀ pc, pc < 101 → ck_at 102 pc = true := by
  intro pc h
  by_cases h0 : pc < 80
  · have := List.all_eq_true.mp ck_a_102_0 (pc - 0) (List.mem_range.mpr (by omega))
    rwa [show 0 + (pc - 0) = pc by omega] at this
  by_cases h80 : pc < 101
  · have := List.all_eq_true.mp ck_a_102_80 (pc - 80) (List.mem_range.mpr (by omega))
    rwa [show 80 + (pc - 80) = pc by omega] at this
  omega
theorem ck_a_103_0 : (List.range 21).all (fun j => ck_at 103 (0 + j)) = true := by decide +kernel
theorem ck_a_103 : ∀ pc, pc < 21 → ck_at 103 pc = true := by
  intro pc h
  by_cases h0 : pc < 21
  · have := List.all_eq_true.mp ck_a_103_0 (pc - 0) (List.mem_range.mpr (by omega))
    rwa [show 0 + (pc - 0) = pc by omega] at this
  omega
theorem ck_a_104_0 : (List.range 28).all (fun j => ck_at 104 (0 + j)) = true := by decide +kernel
theorem ck_a_104 : ∀ pc, pc < 28 → ck_at 104 pc = true := by
  intro pc h
  by_cases h0 : pc < 28
  · have := List.all_eq_true.mp ck_a_104_0 (pc - 0) (List.mem_range.mpr (by omega))
    rwa [show 0 + (pc - 0) = pc by omega] at this
  omega
theorem ck_a_105_0 : (List.range 28).all (fun j => ck_at 105 (0 + j)) = true := by decide +kernel
theorem ck_a_105 : ∀ pc, pc < 28 → ck_at 105 pc = true := by
  intro pc h
  by_cases h0 : pc < 28
  · have := List.all_eq_true.mp ck_a_105_0 (pc - 0) (List.mem_range.mpr (by omega))
    rwa [show 0 + (pc - 0) = pc by omega] at this
  omega
theorem ck_a_106_0 : (List.range 20).all (fun j => ck_at 106 (0 + j)) = true := by decide +kernel
theorem ck_a_106 : ∀ pc, pc < 20 → ck_at 106 pc = true := by
  intro pc h
  by_cases h0 : pc < 20
  · have := List.all_eq_true.mp ck_a_106_0 (pc - 0) (List.mem_range.mpr (by omega))
    rwa [show 0 + (pc - 0) = pc by omega] at this
  omega
theorem ck_a_107_0 : (List.range 22).all (fun j => ck_at 107 (0 + j)) = true := by decide +kernel
theorem ck_a_107 : ∀ pc, pc < 22 → ck_at 107 pc = true := by
  intro pc h
  by_cases h0 : pc < 22
  · have := List.all_eq_true.mp ck_a_107_0 (pc - 0) (List.mem_range.mpr (by omega))
    rwa [show 0 + (pc - 0) = pc by omega] at this
  omega
theorem ck_a_108_0 : (List.range 27).all (fun j => ck_at 108 (0 + j)) = true := by decide +kernel
theorem ck_a_108 : ∀ pc, pc < 27 → ck_at 108 pc = true := by
  intro pc h
  by_cases h0 : pc < 27
  · have := List.all_eq_true.mp ck_a_108_0 (pc - 0) (List.mem_range.mpr (by omega))
    rwa [show 0 + (pc - 0) = pc by omega] at this
  omega
theorem ck_a_109_0 : (List.range 80).all (fun j => ck_at 109 (0 + j)) = true := by decide +kernel
theorem ck_a_109_80 : (List.range 7).all (fun j => ck_at 109 (80 + j)) = true := by decide +kernel
theorem ck_a_109 : ∀ pc, pc < 87 → ck_at 109 pc = true := by
  intro pc h
  by_cases h0 : pc < 80
  · have := List.all_eq_true.mp ck_a_109_0 (pc - 0) (List.mem_range.mpr (by omega))
    rwa [show 0 + (pc - 0) = pc by omega] at this
  by_cases h80 : pc < 87
  · have := List.all_eq_true.mp ck_a_109_80 (pc - 80) (List.mem_range.mpr (by omega))
    rwa [show 80 + (pc - 80) = pc by omega] at this
  omega
theorem ck_a_110_0 : (List.range 80).all (fun j => ck_at 110 (0 + j)) = true := by decide +kernel
theorem ck_a_110_80 : (List.range 38).all (fun j => ck_at 110 (80 + j)) = true := by decide +kernel
theorem ck_a_110 : ∀ pc, pc < 118 → ck_at 110 pc = true := by
  intro pc h
  by_cases h0 : pc < 80
  · have := List.all_eq_true.mp ck_a_110_0 (pc - 0) (List.mem_range.mpr (by omega))
    rwa [show 0 + (pc - 0) = pc by omega] at this
  by_cases h80 : pc < 118
  · have := List.all_eq_true.mp ck_a_110_80 (pc - 80) (List.mem_range.mpr (by omega))
    rwa [show 80 + (pc - 80) = pc by omega] at this
  omega
theorem ck_a_111_0 : (List.range 59).all (fun j => ck_at 111 (0 + j)) = true := by decide +kernel
theorem ck_a_111 : ∀ pc, pc < 59 → ck_at 111 pc = true := by
  intro pc h
  by_cases h0 : pc < 59
  · have := List.all_eq_true.mp ck_a_111_0 (pc - 0) (List.mem_range.mpr (by omega))
    rwa [show 0 + (pc - 0) = pc by omega] at this
  omega
theorem ck_a_112_0 : (List.range 80).all (fun j => ck_at 112 (0 + j)) = true := by decide +kernel
theorem ck_a_112_80 : (List.range 11).all (fun j => ck_at 112 (80 + j)) = true := by decide +kernel
theorem ck_a_112 : ∀ pc, pc < 91 → ck_at 112 pc = true := by
  intro pc h
  by_cases h0 : pc < 80
  · have := List.all_eq_true.mp ck_a_112_0 (pc - 0) (List.mem_range.mpr (by omega))
    rwa [show 0 + (pc - 0) = pc by omega] at this
  by_cases h80 : pc < 91
  · have := List.all_eq_true.mp ck_a_112_80 (pc - 80) (List.mem_range.mpr (by omega))
    rwa [show 80 + (pc - 80) = pc by omega] at this
  omega
theorem ck_a_113_0 : (List.range 80).all (fun j => ck_at 113 (0 + j)) = true := by decide +kernel
theorem ck_a_113_80 : (List.range 57).all (fun j => ck_at 113 (80 + j)) = true := by decide +kernel
theorem ck_a_113 : ∀ pc, pc < 137 → ck_at 113 pc = true := by
  intro pc h
  by_cases h0 : pc < 80
  · have := List.all_eq_true.mp ck_a_113_0 (pc - 0) (List.mem_range.mpr (by omega))
    rwa [show 0 + (pc - 0) = pc by omega] at this
  by_cases h80 : pc < 137
  · have := List.all_eq_true.mp ck_a_113_80 (pc - 80) (List.mem_range.mpr (by omega))
    rwa [show 80 + (pc - 80) = pc by omega] at this
  omega
theorem ck_a_114_0 : (List.range 50).all (fun j => ck_at 114 (0 + j)) = true := by decide +kernel
theorem ck_a_114 : ∀ pc, pc < 50 → ck_at 114 pc = true := by
  intro pc h
  by_cases h0 : pc < 50
  · have := List.all_eq_true.mp ck_a_114_0 (pc - 0) (List.mem_range.mpr (by omega))
    rwa [show 0 + (pc - 0) = pc by omega] at this
  omega
theorem ck_a_115_0 : (List.range 80).all (fun j => ck_at 115 (0 + j)) = true := by decide +kernel
theorem ck_a_115_80 : (List.range 40).all (fun j => ck_at 115 (80 + j)) = true := by decide +kernel
theorem ck_a_115 : ∀ pc, pc < 120 → ck_at 115 pc = true := by
  intro pc h
  by_cases h0 : pc < 80
  · have := List.all_eq_true.mp ck_a_115_0 (pc - 0) (List.mem_range.mpr (by omega))
    rwa [show 0 + (pc - 0) = pc by omega] at this
  by_cases h80 : pc < 120
  · have := List.all_eq_true.mp ck_a_115_80 (pc - 80) (List.mem_range.mpr (by omega))
    rwa [show 80 + (pc - 80) = pc by omega] at this
  omega
theorem ck_a_116_0 : (List.range 80).all (fun j => ck_at 116 (0 + j)) = true := by decide +kernel
theorem ck_a_116_80 : (List.range 3).all (fun j => ck_at 116 (80 + j)) = true := by decide +kernel
theorem ck_a_116 : ∀ pc, pc < 83 → ck_at 116 pc = true := by
  intro pc h
  by_cases h0 : pc < 80
  · have := List.all_eq_true.mp ck_a_116_0 (pc - 0) (List.mem_range.mpr (by omega))
    rwa [show 0 + (pc - 0) = pc by omega] at this
  by_cases h80 : pc < 83
  · have := List.all_eq_true.mp ck_a_116_80 (pc - 80) (List.mem_range.mpr (by omega))
    rwa [show 80 + (pc - 80) = pc by omega] at this
  omega
theorem ck_a_117_0 : (List.range 20).all (fun j => ck_at 117 (0 + j)) = true := by decide +kernel
theorem ck_a_117 : ∀ pc, pc < 20 → ck_at 117 pc = true := by
  intro pc h
  by_cases h0 : pc < 20
  · have := List.all_eq_true.mp ck_a_117_0 (pc - 0) (List.mem_range.mpr (by omega))
    rwa [show 0 + (pc - 0) = pc by omega] at this
  omega
theorem ck_a_118_0 : (List.range 29).all (fun j => ck_at 118 (0 + j)) = true := by decide +kernel
theorem ck_a_118 : ∀ pc, pc < 29 → ck_at 118 pc = true := by
  intro pc h
  by_cases h0 : pc < 29
  · have := List.all_eq_true.mp ck_a_118_0 (pc - 0) (List.mem_range.mpr (by omega))
    rwa [show 0 + (pc - 0) = pc by omega] at this
  omega
theorem ck_a_119_0 : (List.range 80).all (fun j => ck_at 119 (0 + j)) = true := by decide +kernel
theorem ck_a_119_80 : (List.range 69).all (fun j => ck_at 119 (80 + j)) = true := by decide +kernel
theorem ck_a_119 : ∀ pc, pc < 149 → ck_at 119 pc = true := by
  intro pc h
  by_cases h0 : pc < 80
  · have := List.all_eq_true.mp ck_a_119_0 (pc - 0) (List.mem_range.mpr (by omega))
    rwa [show 0 + (pc - 0) = pc by omega] at this
  by_cases h80 : pc < 149
  · have := List.all_eq_true.mp ck_a_119_80 (pc - 80) (List.mem_range.mpr (by omega))
    rwa [show 80 + (pc - 80) = pc by omega] at this
  omega
theorem ck_a_120_0 : (List.range 52).all (fun j => ck_at 120 (0 + j)) = true := by decide +kernel
theorem ck_a_120 : ∀ pc, pc < 52 → ck_at 120 pc = true := by
  intro pc h
  by_cases h0 : pc < 52
  · have := List.all_eq_true.mp ck_a_120_0 (pc - 0) (List.mem_range.mpr (by omega))
    rwa [show 0 + (pc - 0) = pc by omega] at this
  omega
theorem ck_a_121_0 : (List.range 80).all (fun j => ck_at 121 (0 + j)) = true := by decide +kernel
theorem ck_a_121_80 : (List.range 1).all (fun j => ck_at 121 (80 + j)) = true := by decide +kernel
theorem ck_a_121 : ∀ pc, pc < 81 → ck_at 121 pc = true := by
  intro pc h
  by_cases h0 : pc < 80
  · have := List.all_eq_true.mp ck_a_121_0 (pc - 0) (List.mem_range.mpr (by omega))
    rwa [show 0 + (pc - 0) = pc by omega] at this
  by_cases h80 : pc < 81
  · have := List.all_eq_true.mp ck_a_121_80 (pc - 80) (List.mem_range.mpr (by omega))
    rwa [show 80 + (pc - 80) = pc by omega] at this
  omega
theorem ck_a_122_0 : (List.range 41).all (fun j => ck_at 122 (0 + j)) = true := by decide +kernel
theorem ck_a_122 : ∀ pc, pc < 41 → ck_at 122 pc = true := by
  intro pc h
  by_cases h0 : pc < 41
  · have := List.all_eq_true.mp ck_a_122_0 (pc - 0) (List.mem_range.mpr (by omega))
    rwa [show 0 + (pc - 0) = pc by omega] at this
  omega
theorem ck_a_123_0 : (List.range 71).all (fun j => ck_at 123 (0 + j)) = true := by decide +kernel
theorem ck_a_123 : ∀ pc, pc < 71 → ck_at 123 pc = true := by
  intro pc h
  by_cases h0 : pc < 71
  · have := List.all_eq_true.mp ck_a_123_0 (pc - 0) (List.mem_range.mpr (by omega))
    rwa [show 0 + (pc - 0) = pc by omega] at this
  omega
theorem ck_a_124_0 : (List.range 37).all (fun j => ck_at 124 (0 + j)) = true := by decide +kernel
theorem ck_a_124 : ∀ pc, pc < 37 → ck_at 124 pc = true := by
  intro pc h
  by_cases h0 : pc < 37
  · have := List.all_eq_true.mp ck_a_124_0 (pc - 0) (List.mem_range.mpr (by omega))
    rwa [show 0 + (pc - 0) = pc by omega] at this
  omega
theorem ck_a_125_0 : (List.range 24).all (fun j => ck_at 125 (0 + j)) = true := by decide +kernel
theorem ck_a_125 : ∀ pc, pc < 24 → ck_at 125 pc = true := by
  intro pc h
  by_cases h0 : pc < 24
  · have := List.all_eq_true.mp ck_a_125_0 (pc - 0) (List.mem_range.mpr (by omega))
    rwa [show 0 + (pc - 0) = pc by omega] at this
  omega
theorem ck_a_126_0 : (List.range 53).all (fun j => ck_at 126 (0 + j)) = true := by decide +kernel
theorem ck_a_126 : ∀ pc, pc < 53 → ck_at 126 pc = true := by
  intro pc h
  by_cases h0 : pc < 53
  · have := List.all_eq_true.mp ck_a_126_0 (pc - 0) (List.mem_range.mpr (by omega))
    rwa [show 0 + (pc - 0) = pc by omega] at this
  omega
theorem ck_a_127_0 : (List.range 80).all (fun j => ck_at 127 (0 + j)) = true := by decide +kernel
theorem ck_a_127_80 : (List.range 6).all (fun j => ck_at 127 (80 + j)) = true := by decide +kernel
theorem ck_a_127 : ∀ pc, pc < 86 → ck_at 127 pc = true := by
  intro pc h
  by_cases h0 : pc < 80
  · have := List.all_eq_true.mp ck_a_127_0 (pc - 0) (List.mem_range.mpr (by omega))
    rwa [show 0 + (pc - 0) = pc by omega] at this
  by_cases h80 : pc < 86
  · have := List.all_eq_true.mp ck_a_127_80 (pc - 80) (List.mem_range.mpr (by omega))
    rwa [show 80 + (pc - 80) = pc by omega] at this
  omega
theorem ck_a_128_0 : (List.range 54).all (fun j => ck_at 128 (0 + j)) = true := by decide +kernel
theorem ck_a_128 : ∀ pc, pc < 54 → ck_at 128 pc = true := by
  intro pc h
  by_cases h0 : pc < 54
  · have := List.all_eq_true.mp ck_a_128_0 (pc - 0) (List.mem_range.mpr (by omega))
    rwa [show 0 + (pc - 0) = pc by omega] at this
  omega
theorem ck_a_129_0 : (List.range 34).all (fun j => ck_at 129 (0 + j)) = true := by decide +kernel
theorem ck_a_129 : ∀ pc, pc < 34 → ck_at 129 pc = true := by
  intro pc h
  by_cases h0 : pc < 34
  · have := List.all_eq_true.mp ck_a_129_0 (pc - 0) (List.mem_range.mpr (by omega))
    rwa [show 0 + (pc - 0) = pc by omega] at this
  omega
theorem ck_a_130_0 : (List.range 36).all (fun j => ck_at 130 (0 + j)) = true := by decide +kernel
theorem ck_a_130 : ∀ pc, pc < 36 → ck_at 130 pc = true := by
  intro pc h
  by_cases h0 : pc < 36
  · have := List.all_eq_true.mp ck_a_130_0 (pc - 0) (List.mem_range.mpr (by omega))
    rwa [show 0 + (pc - 0) = pc by omega] at this
  omega
theorem ck_a_131_0 : (List.range 22).all (fun j => ck_at 131 (0 + j)) = true := by decide +kernel
theorem ck_a_131 : ∀ pc, pc < 22 → ck_at 131 pc = true := by
  intro pc h
  by_cases h0 : pc < 22
  · have := List.all_eq_true.mp ck_a_131_0 (pc - 0) (List.mem_range.mpr (by omega))
    rwa [show 0 + (pc - 0) = pc by omega] at this
  omega
theorem ck_a_132_0 : (List.range 26).all (fun j => ck_at 132 (0 + j)) = true := by decide +kernel
theorem ck_a_132 : ∀ pc, pc < 26 → ck_at 132 pc = true := by
  intro pc h
  by_cases h0 : pc < 26
  · have := List.all_eq_true.mp ck_a_132_0 (pc - 0) (List.mem_range.mpr (by omega))
    rwa [show 0 + (pc - 0) = pc by omega] at this
  omega
theorem ck_a_133_0 : (List.range 80).all (fun j => ck_at 133 (0 + j)) = true := by decide +kernel
theorem ck_a_133_80 : (List.range 18).all (fun j => ck_at 133 (80 + j)) = true := by decide +kernel
theorem ck_a_133 : ∀ pc, pc < 98 → ck_at 133 pc = true := by
  intro pc h
  by_cases h0 : pc < 80
  · have := List.all_eq_true.mp ck_a_133_0 (pc - 0) (List.mem_range.mpr (by omega))
    rwa [show 0 + (pc - 0) = pc by omega] at this
  by_cases h80 : pc < 98
  · have := List.all_eq_true.mp ck_a_133_80 (pc - 80) (List.mem_range.mpr (by omega))
    rwa [show 80 + (pc - 80) = pc by omega] at this
  omega
theorem ck_a_134_0 : (List.range 56).all (fun j => ck_at 134 (0 + j)) = true := by decide +kernel
theorem ck_a_134 : ∀ pc, pc < 56 → ck_at 134 pc = true := by
  intro pc h
  by_cases h0 : pc < 56
  · have := List.all_eq_true.mp ck_a_134_0 (pc - 0) (List.mem_range.mpr (by omega))
    rwa [show 0 + (pc - 0) = pc by omega] at this
  omega
theorem ck_a_135_0 : (List.range 23).all (fun j => ck_at 135 (0 + j)) = true := by decide +kernel
theorem ck_a_135 : ∀ pc, pc < 23 → ck_at 135 pc = true := by
  intro pc h
  by_cases h0 : pc < 23
  · have := List.all_eq_true.mp ck_a_135_0 (pc - 0) (List.mem_range.mpr (by omega))
    rwa [show 0 + (pc - 0) = pc by omega] at this
  omega
theorem ck_a_136_0 : (List.range 49).all (fun j => ck_at 136 (0 + j)) = true := by decide +kernel
theorem ck_a_136 : ∀ pc, pc < 49 → ck_at 136 pc = true := by
  intro pc h
  by_cases h0 : pc < 49
  · have := List.all_eq_true.mp ck_a_136_0 (pc - 0) (List.mem_range.mpr (by omega))
    rwa [show 0 + (pc - 0) = pc by omega] at this
  omega
theorem ck_a_137_0 : (List.range 80).all (fun j => ck_at 137 (0 + j)) = true := by decide +kernel
theorem ck_a_137_80 : (List.range 30).all (fun j => ck_at 137 (80 + j)) = true := by decide +kernel
theorem ck_a_137 : ∀ pc, pc < 110 → ck_at 137 pc = true := by
  intro pc h
  by_cases h0 : pc < 80
  · have := List.all_eq_true.mp ck_a_137_0 (pc - 0) (List.mem_range.mpr (by omega))
    rwa [show 0 + (pc - 0) = pc by omega] at this
  by_cases h80 : pc < 110
  · have := List.all_eq_true.mp ck_a_137_80 (pc - 80) (List.mem_range.mpr (by omega))
    rwa [show 80 + (pc - 80) = pc by omega] at this
  omega
theorem ck_a_138_0 : (List.range 80).all (fun j => ck_at 138 (0 + j)) = true := by decide +kernel
theorem ck_a_138_80 : (List.range 80).all (fun j => ck_at 138 (80 + j)) = true := by decide +kernel
theorem ck_a_138_160 : (List.range 63).all (fun j => ck_at 138 (160 + j)) = true := by decide +kernel
theorem ck_a_138 : ∀ pc, pc < 223 → ck_at 138 pc = true := by
  intro pc h
  by_cases h0 : pc < 80
  · have := List.all_eq_true.mp ck_a_138_0 (pc - 0) (List.mem_range.mpr (by omega))
    rwa [show 0 + (pc - 0) = pc by omega] at this
  by_cases h80 : pc < 160
  · have := List.all_eq_true.mp ck_a_138_80 (pc - 80) (List.mem_range.mpr (by omega))
    rwa [show 80 + (pc - 80) = pc by omega] at this
  by_cases h160 : pc < 223
  · have := List.all_eq_true.mp ck_a_138_160 (pc - 160) (List.mem_range.mpr (by omega))
    rwa [show 160 + (pc - 160) = pc by omega] at this
  omega
theorem ck_a_139_0 : (List.range 52).all (fun j => ck_at 139 (0 + j)) = true := by decide +kernel
theorem ck_a_139 : ∀ pc, pc < 52 → ck_at 139 pc = true := by
  intro pc h
  by_cases h0 : pc < 52
  · have := List.all_eq_true.mp ck_a_139_0 (pc - 0) (List.mem_range.mpr (by omega))
    rwa [show 0 + (pc - 0) = pc by omega] at this
  omega
theorem ck_a_140_0 : (List.range 80).all (fun j => ck_at 140 (0 + j)) = true := by decide +kernel
theorem ck_a_140_80 : (List.range 1).all (fun j => ck_at 140 (80 + j)) = true := by decide +kernel
theorem ck_a_140 : ∀ pc, pc < 81 → ck_at 140 pc = true := by
  intro pc h
  by_cases h0 : pc < 80
  · have := List.all_eq_true.mp ck_a_140_0 (pc - 0) (List.mem_range.mpr (by omega))
    rwa [show 0 + (pc - 0) = pc by omega] at this
  by_cases h80 : pc < 81
  · have := List.all_eq_true.mp ck_a_140_80 (pc - 80) (List.mem_range.mpr (by omega))
    rwa [show 80 + (pc - 80) = pc by omega] at this
  omega
theorem ck_a_141_0 : (List.range 53).all (fun j => ck_at 141 (0 + j)) = true := by decide +kernel
theorem ck_a_141 : ∀ pc, pc < 53 → ck_at 141 pc = true := by
  intro pc h
  by_cases h0 : pc < 53
  · have := List.all_eq_true.mp ck_a_141_0 (pc - 0) (List.mem_range.mpr (by omega))
    rwa [show 0 + (pc - 0) = pc by omega] at this
  omega
theorem ck_a_142_0 : (List.range 80).all (fun j => ck_at 142 (0 + j)) = true := by decide +kernel
theorem ck_a_142_80 : (List.range 8).all (fun j => ck_at 142 (80 + j)) = true := by decide +kernel
theorem ck_a_142 : ∀ pc, pc < 88 → ck_at 142 pc = true := by
  intro pc h
  by_cases h0 : pc < 80
  · have := List.all_eq_true.mp ck_a_142_0 (pc - 0) (List.mem_range.mpr (by omega))
    rwa [show 0 + (pc - 0) = pc by omega] at this
  by_cases h80 : pc < 88
  · have := List.all_eq_true.mp ck_a_142_80 (pc - 80) (List.mem_range.mpr (by omega))
    rwa [show 80 + (pc - 80) = pc by omega] at this
  omega
theorem ck_a_143_0 : (List.range 65).all (fun j => ck_at 143 (0 + j)) = true := by decide +kernel
theorem ck_a_143 : ∀ pc, pc < 65 → ck_at 143 pc = true := by
  intro pc h
  by_cases h0 : pc < 65
  · have := List.all_eq_true.mp ck_a_143_0 (pc - 0) (List.mem_range.mpr (by omega))
    rwa [show 0 + (pc - 0) = pc by omega] at this
  omega
theorem ck_a_144_0 : (List.range 80).all (fun j => ck_at 144 (0 + j)) = true := by decide +kernel
theorem ck_a_144_80 : (List.range 12).all (fun j => ck_at 144 (80 + j)) = true := by decide +kernel
theorem ck_a_144 : ∀ pc, pc < 92 → ck_at 144 pc = true := by
  intro pc h
  by_cases h0 : pc < 80
  · have := List.all_eq_true.mp ck_a_144_0 (pc - 0) (List.mem_range.mpr (by omega))
    rwa [show 0 + (pc - 0) = pc by omega] at this
  by_cases h80 : pc < 92
  · have := List.all_eq_true.mp ck_a_144_80 (pc - 80) (List.mem_range.mpr (by omega))
    rwa [show 80 + (pc - 80) = pc by omega] at this
  omega
theorem ck_a_145_0 : (List.range 80).all (fun j => ck_at 145 (0 + j)) = true := by decide +kernel
theorem ck_a_145_80 : (List.range 56).all (fun j => ck_at 145 (80 + j)) = true := by decide +kernel
theorem ck_a_145 : ∀ pc, pc < 136 → ck_at 145 pc = true := by
  intro pc h
  by_cases h0 : pc < 80
  · have := List.all_eq_true.mp ck_a_145_0 (pc - 0) (List.mem_range.mpr (by omega))
    rwa [show 0 + (pc - 0) = pc by omega] at this
  by_cases h80 : pc < 136
  · have := List.all_eq_true.mp ck_a_145_80 (pc - 80) (List.mem_range.mpr (by omega))
    rwa [show 80 + (pc - 80) = pc by omega] at this
  omega
theorem ck_a_146_0 : (List.range 80).all (fun j => ck_at 146 (0 + j)) = true := by decide +kernel
theorem ck_a_146_80 : (List.range 13).all (fun j => ck_at 146 (80 + j)) = true := by decide +kernel
theorem ck_a_146 : ∀ pc, pc < 93 → ck_at 146 pc = true := by
  intro pc h
  by_cases h0 : pc < 80
  · have := List.all_eq_true.mp ck_a_146_0 (pc - 0) (List.mem_range.mpr (by omega))
    rwa [show 0 + (pc - 0) = pc by omega] at this
  by_cases h80 : pc < 93
  · have := List.all_eq_true.mp ck_a_146_80 (pc - 80) (List.mem_range.mpr (by omega))
    rwa [show 80 + (pc - 80) = pc by omega] at this
  omega
theorem ck_a_147_0 : (List.range 80).all (fun j => ck_at 147 (0 + j)) = true := by decide +kernel
theorem ck_a_147_80 : (List.range 45).all (fun j => ck_at 147 (80 + j)) = true := by decide +kernel
theorem ck_a_147 : ∀ pc, pc < 125 → ck_at 147 pc = true := by
  intro pc h
  by_cases h0 : pc < 80
  · have := List.all_eq_true.mp ck_a_147_0 (pc - 0) (List.mem_range.mpr (by omega))
    rwa [show 0 + (pc - 0) = pc by omega] at this
  by_cases h80 : pc < 125
  · have := List.all_eq_true.mp ck_a_147_80 (pc - 80) (List.mem_range.mpr (by omega))
    rwa [show 80 + (pc - 80) = pc by omega] at this
  omega
theorem ck_a_148_0 : (List.range 35).all (fun j => ck_at 148 (0 + j)) = true := by decide +kernel
theorem ck_a_148 : ∀ pc, pc < 35 → ck_at 148 pc = true := by
  intro pc h
  by_cases h0 : pc < 35
  · have := List.all_eq_true.mp ck_a_148_0 (pc - 0) (List.mem_range.mpr (by omega))
    rwa [show 0 + (pc - 0) = pc by omega] at this
  omega
theorem ck_a_149_0 : (List.range 74).all (fun j => ck_at 149 (0 + j)) = true := by decide +kernel
theorem ck_a_149 : ∀ pc, pc < 74 → ck_at 149 pc = true := by
  intro pc h
  by_cases h0 : pc < 74
  · have := List.all_eq_true.mp ck_a_149_0 (pc - 0) (List.mem_range.mpr (by omega))
    rwa [show 0 + (pc - 0) = pc by omega] at this
  omega
theorem ck_a_150_0 : (List.range 80).all (fun j => ck_at 150 (0 + j)) = true := by decide +kernel
theorem ck_a_150_80 : (List.range 9).all (fun j => ck_at 150 (80 + j)) = true := by decide +kernel
theorem ck_a_150 : ∀ pc, pc < 89 → ck_at 150 pc = true := by
  intro pc h
  by_cases h0 : pc < 80
  · have := List.all_eq_true.mp ck_a_150_0 (pc - 0) (List.mem_range.mpr (by omega))
    rwa [show 0 + (pc - 0) = pc by omega] at this
  by_cases h80 : pc < 89
  · have := List.all_eq_true.mp ck_a_150_80 (pc - 80) (List.mem_range.mpr (by omega))
    rwa [show 80 + (pc - 80) = pc by omega] at this
  omega
theorem ck_a_151_0 : (List.range 80).all (fun j => ck_at 151 (0 + j)) = true := by decide +kernel
theorem ck_a_151_80 : (List.range 13).all (fun j => ck_at 151 (80 + j)) = true := by decide +kernel
theorem ck_a_151 : ∀ pc, pc < 93 → ck_at 151 pc = true := by
  intro pc h
  by_cases h0 : pc < 80
  · have := List.all_eq_true.mp ck_a_151_0 (pc - 0) (List.mem_range.mpr (by omega))
    rwa [show 0 + (pc - 0) = pc by omega] at this
  by_cases h80 : pc < 93
  · have := List.all_eq_true.mp ck_a_151_80 (pc - 80) (List.mem_range.mpr (by omega))
    rwa [show 80 + (pc - 80) = pc by omega] at this
  omega
theorem ck_a_152_0 : (List.range 27).all (fun j => ck_at 152 (0 + j)) = true := by decide +kernel
theorem ck_a_152 : ∀ pc, pc < 27 → ck_at 152 pc = true := by
  intro pc h
  by_cases h0 : pc < 27
  · have := List.all_eq_true.mp ck_a_152_0 (pc - 0) (List.mem_range.mpr (by omega))
    rwa [show 0 + (pc - 0) = pc by omega] at this
  omega
theorem ck_a_153_0 : (List.range 52).all (fun j => ck_at 153 (0 + j)) = true := by decide +kernel
theorem ck_a_153 : ∀ pc, pc < 52 → ck_at 153 pc = true := by
  intro pc h
  by_cases h0 : pc < 52
  · have := List.all_eq_true.mp ck_a_153_0 (pc - 0) (List.mem_range.mpr (by omega))
    rwa [show 0 + (pc - 0) = pc by omega] at this
  omega
theorem ck_a_154_0 : (List.range 33).all (fun j => ck_at 154 (0 + j)) = true := by decide +kernel
theorem ck_a_154 : ∀ pc, pc < 33 → ck_at 154 pc = true := by
  intro pc h
  by_cases h0 : pc < 33
  · have := List.all_eq_true.mp ck_a_154_0 (pc - 0) (List.mem_range.mpr (by omega))
    rwa [show 0 + (pc - 0) = pc by omega] at this
  omega
theorem ck_a_155_0 : (List.range 28).all (fun j => ck_at 155 (0 + j)) = true := by decide +kernel
theorem ck_a_155 : ∀ pc, pc < 28 → ck_at 155 pc = true := by
  intro pc h
  by_cases h0 : pc < 28
  · have := List.all_eq_true.mp ck_a_155_0 (pc - 0) (List.mem_range.mpr (by omega))
    rwa [show 0 + (pc - 0) = pc by omega] at this
  omega
theorem ck_a_156_0 : (List.range 26).all (fun j => ck_at 156 (0 + j)) = true := by decide +kernel
theorem ck_a_156 : ∀ pc, pc < 26 → ck_at 156 pc = true := by
  intro pc h
  by_cases h0 : pc < 26
  · have := List.all_eq_true.mp ck_a_156_0 (pc - 0) (List.mem_range.mpr (by omega))
    rwa [show 0 + (pc - 0) = pc by omega] at this
  omega
theorem ck_a_157_0 : (List.range 22).all (fun j => ck_at 157 (0 + j)) = true := by decide +kernel
theorem ck_a_157 : ∀ pc, pc < 22 → ck_at 157 pc = true := by
  intro pc h
  by_cases h0 : pc < 22
  · have := List.all_eq_true.mp ck_a_157_0 (pc - 0) (List.mem_range.mpr (by omega))
    rwa [show 0 + (pc - 0) = pc by omega] at this
  omega
theorem ck_a_158_0 : (List.range 15).all (fun j => ck_at 158 (0 + j)) = true := by decide +kernel
theorem ck_a_158 : ∀ pc, pc < 15 → ck_at 158 pc = true := by
  intro pc h
  by_cases h0 : pc < 15
  · have := List.all_eq_true.mp ck_a_158_0 (pc - 0) (List.mem_range.mpr (by omega))
    rwa [show 0 + (pc - 0) = pc by omega] at this
  omega
theorem ck_a_159_0 : (List.range 80).all (fun j => ck_at 159 (0 + j)) = true := by decide +kernel
theorem ck_a_159_80 : (List.range 43).all (fun j => ck_at 159 (80 + j)) = true := by decide +kernel
theorem ck_a_159 : ∀ pc, pc < 123 → ck_at 159 pc = true := by
  intro pc h
  by_cases h0 : pc < 80
  · have := List.all_eq_true.mp ck_a_159_0 (pc - 0) (List.mem_range.mpr (by omega))
    rwa [show 0 + (pc - 0) = pc by omega] at this
  by_cases h80 : pc < 123
  · have := List.all_eq_true.mp ck_a_159_80 (pc - 80) (List.mem_range.mpr (by omega))
    rwa [show 80 + (pc - 80) = pc by omega] at this
  omega
theorem ck_a_160_0 : (List.range 51).all (fun j => ck_at 160 (0 + j)) = true := by decide +kernel
theorem ck_a_160 : ∀ pc, pc < 51 → ck_at 160 pc = true := by
  intro pc h
  by_cases h0 : pc < 51
  · have := List.all_eq_true.mp ck_a_160_0 (pc - 0) (List.mem_range.mpr (by omega))
    rwa [show 0 + (pc - 0) = pc by omega] at this
  omega
theorem ck_a_161_0 : (List.range 56).all (fun j => ck_at 161 (0 + j)) = true := by decide +kernel
theorem ck_a_161 : ∀ pc, pc < 56 → ck_at 161 pc = true := by
  intro pc h
  by_cases h0 : pc < 56
  · have := List.all_eq_true.mp ck_a_161_0 (pc - 0) (List.mem_range.mpr (by omega))
    rwa [show 0 + (pc - 0) = pc by omega] at this
  omega
theorem ck_a_162_0 : (List.range 51).all (fun j => ck_at 162 (0 + j)) = true := by decide +kernel
theorem ck_a_162 : ∀ pc, pc < 51 → ck_at 162 pc = true := by
  intro pc h
  by_cases h0 : pc < 51
  · have := List.all_eq_true.mp ck_a_162_0 (pc - 0) (List.mem_range.mpr (by omega))
    rwa [show 0 + (pc - 0) = pc by omega] at this
  omega
theorem ck_a_163_0 : (List.range 26).all (fun j => ck_at 163 (0 + j)) = true := by decide +kernel
theorem ck_a_163 : ∀ pc, pc < 26 → ck_at 163 pc = true := by
  intro pc h
  by_cases h0 : pc < 26
  · have := List.all_eq_true.mp ck_a_163_0 (pc - 0) (List.mem_range.mpr (by omega))
    rwa [show 0 + (pc - 0) = pc by omega] at this
  omega
theorem ck_a_164_0 : (List.range 80).all (fun j => ck_at 164 (0 + j)) = true := by decide +kernel
theorem ck_a_164_80 : (List.range 54).all (fun j => ck_at 164 (80 + j)) = true := by decide +kernel
theorem ck_a_164 : ∀ pc, pc < 134 → ck_at 164 pc = true := by
  intro pc h
  by_cases h0 : pc < 80
  · have := List.all_eq_true.mp ck_a_164_0 (pc - 0) (List.mem_range.mpr (by omega))
    rwa [show 0 + (pc - 0) = pc by omega] at this
  by_cases h80 : pc < 134
  · have := List.all_eq_true.mp ck_a_164_80 (pc - 80) (List.mem_range.mpr (by omega))
    rwa [show 80 + (pc - 80) = pc by omega] at this
  omega
theorem ck_a_165_0 : (List.range 80).all (fun j => ck_at 165 (0 + j)) = true := by decide +kernel
theorem ck_a_165 : ∀ pc, pc < 80 → ck_at 165 pc = true := by
  intro pc h
  by_cases h0 : pc < 80
  · have := List.all_eq_true.mp ck_a_165_0 (pc - 0) (List.mem_range.mpr (by omega))
    rwa [show 0 + (pc - 0) = pc by omega] at this
  omega
theorem ck_a_166_0 : (List.range 80).all (fun j => ck_at 166 (0 + j)) = true := by decide +kernel
theorem ck_a_166_80 : (List.range 21).all (fun j => ck_at 166 (80 + j)) = true := by decide +kernel
theorem ck_a_166 : ∀ pc, pc < 101 → ck_at 166 pc = true := by
  intro pc h
  by_cases h0 : pc < 80
  · have := List.all_eq_true.mp ck_a_166_0 (pc - 0) (List.mem_range.mpr (by omega))
    rwa [show 0 + (pc - 0) = pc by omega] at this
  by_cases h80 : pc < 101
  · have := List.all_eq_true.mp ck_a_166_80 (pc - 80) (List.mem_range.mpr (by omega))
    rwa [show 80 + (pc - 80) = pc by omega] at this
  omega
theorem ck_a_167_0 : (List.range 50).all (fun j => ck_at 167 (0 + j)) = true := by decide +kernel
theorem ck_a_167 : ∀ pc, pc < 50 → ck_at 167 pc = true := by
  intro pc h
  by_cases h0 : pc < 50
  · have := List.all_eq_true.mp ck_a_167_0 (pc - 0) (List.mem_range.mpr (by omega))
    rwa [show 0 + (pc - 0) = pc by omega] at this
  omega
theorem ck_a_168_0 : (List.range 49).all (fun j => ck_at 168 (0 + j)) = true := by decide +kernel
theorem ck_a_168 : ∀ pc, pc < 49 → ck_at 168 pc = true := by
  intro pc h
  by_cases h0 : pc < 49
  · have := List.all_eq_true.mp ck_a_168_0 (pc - 0) (List.mem_range.mpr (by omega))
    rwa [show 0 + (pc - 0) = pc by omega] at this
  omega
theorem ck_a_169_0 : (List.range 71).all (fun j => ck_at 169 (0 + j)) = true := by decide +kernel
theorem ck_a_169 : ∀ pc, pc < 71 → ck_at 169 pc = true := by
  intro pc h
  by_cases h0 : pc < 71
  · have := List.all_eq_true.mp ck_a_169_0 (pc - 0) (List.mem_range.mpr (by omega))
    rwa [show 0 + (pc - 0) = pc by omega] at this
  omega
theorem ck_a_170_0 : (List.range 70).all (fun j => ck_at 170 (0 + j)) = true := by decide +kernel
theorem ck_a_170 : ∀ pc, pc < 70 → ck_at 170 pc = true := by
  intro pc h
  by_cases h0 : pc < 70
  · have := List.all_eq_true.mp ck_a_170_0 (pc - 0) (List.mem_range.mpr (by omega))
    rwa [show 0 + (pc - 0) = pc by omega] at this
  omega
theorem ck_a_171_0 : (List.range 48).all (fun j => ck_at 171 (0 + j)) = true := by decide +kernel
theorem ck_a_171 : ∀ pc, pc < 48 → ck_at 171 pc = true := by
  intro pc h
  by_cases h0 : pc < 48
  · have := List.all_eq_true.mp ck_a_171_0 (pc - 0) (List.mem_range.mpr (by omega))
    rwa [show 0 + (pc - 0) = pc by omega] at this
  omega
theorem ck_a_172_0 : (List.range 33).all (fun j => ck_at 172 (0 + j)) = true := by decide +kernel
theorem ck_a_172 : ∀ pc, pc < 33 → ck_at 172 pc = true := by
  intro pc h
  by_cases h0 : pc < 33
  · have := List.all_eq_true.mp ck_a_172_0 (pc - 0) (List.mem_range.mpr (by omega))
    rwa [show 0 + (pc - 0) = pc by omega] at this
  omega
theorem ck_a_173_0 : (List.range 35).all (fun j => ck_at 173 (0 + j)) = true := by decide +kernel
theorem ck_a_173 : ∀ pc, pc < 35 → ck_at 173 pc = true := by
  intro pc h
  by_cases h0 : pc < 35
  · have := List.all_eq_true.mp ck_a_173_0 (pc - 0) (List.mem_range.mpr (by omega))
    rwa [show 0 + (pc - 0) = pc by omega] at this
  omega
theorem ck_a_174_0 : (List.range 80).all (fun j => ck_at 174 (0 + j)) = true := by decide +kernel
theorem ck_a_174_80 : (List.range 62).all (fun j => ck_at 174 (80 + j)) = true := by decide +kernel
theorem ck_a_174 : ∀ pc, pc < 142 → ck_at 174 pc = true := by
  intro pc h
  by_cases h0 : pc < 80
  · have := List.all_eq_true.mp ck_a_174_0 (pc - 0) (List.mem_range.mpr (by omega))
    rwa [show 0 + (pc - 0) = pc by omega] at this
  by_cases h80 : pc < 142
  · have := List.all_eq_true.mp ck_a_174_80 (pc - 80) (List.mem_range.mpr (by omega))
    rwa [show 80 + (pc - 80) = pc by omega] at this
  omega
theorem ck_a_175_0 : (List.range 18).all (fun j => ck_at 175 (0 + j)) = true := by decide +kernel
theorem ck_a_175 : ∀ pc, pc < 18 → ck_at 175 pc = true := by
  intro pc h
  by_cases h0 : pc < 18
  · have := List.all_eq_true.mp ck_a_175_0 (pc - 0) (List.mem_range.mpr (by omega))
    rwa [show 0 + (pc - 0) = pc by omega] at this
  omega
theorem ck_a_176_0 : (List.range 15).all (fun j => ck_at 176 (0 + j)) = true := by decide +kernel
theorem ck_a_176 : ∀ pc, pc < 15 → ck_at 176 pc = true := by
  intro pc h
  by_cases h0 : pc < 15
  · have := List.all_eq_true.mp ck_a_176_0 (pc - 0) (List.mem_range.mpr (by omega))
    rwa [show 0 + (pc - 0) = pc by omega] at this
  omega
theorem ck_a_177_0 : (List.range 27).all (fun j => ck_at 177 (0 + j)) = true := by decide +kernel
theorem ck_a_177 : ∀ pc, pc < 27 → ck_at 177 pc = true := by
  intro pc h
  by_cases h0 : pc < 27
  · have := List.all_eq_true.mp ck_a_177_0 (pc - 0) (List.mem_range.mpr (by omega))
    rwa [show 0 + (pc - 0) = pc by omega] at this
  omega
