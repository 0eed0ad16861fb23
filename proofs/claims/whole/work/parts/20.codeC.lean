theorem ck_a_178_0 : (List.range 16).all (fun j => ck_at 178 (0 + j)) = true := by decide +kernel
theorem ck_a_178 : ∀ pc, pc < 16 → ck_at 178 pc = true := by
  intro pc h
  by_cases h0 : pc < 16
  · have := List.all_eq_true.mp ck_a_178_0 (pc - 0) (List.mem_range.mpr (by omega))
    rwa [show 0 + (pc - 0) = pc by omega] at this
  omega
theorem ck_a_179_0 : (List.range 15).all (fun j => ck_at 179 (0 + j)) = true := by decide +kernel
theorem ck_a_179 : ∀ pc, pc < 15 → ck_at 179 pc = true := by
  intro pc h
  by_cases h0 : pc < 15
  · have := List.all_eq_true.mp ck_a_179_0 (pc - 0) (List.mem_range.mpr (by omega))
    rwa [show 0 + (pc - 0) = pc by omega] at this
  omega
theorem ck_a_180_0 : (List.range 80).all (fun j => ck_at 180 (0 + j)) = true := by decide +kernel
theorem ck_a_180_80 : (List.range 80).all (fun j => ck_at 180 (80 + j)) = true := by decide +kernel
theorem ck_a_180_160 : (List.range 80).all (fun j => ck_at 180 (160 + j)) = true := by decide +kernel
theorem ck_a_180_240 : (List.range 34).all (fun j => ck_at 180 (240 + j)) = true := by decide +kernel
theorem ck_a_180 : ∀ pc, pc < 274 → ck_at 180 pc = true := by
  intro pc h
  by_cases h0 : pc < 80
  · have := List.all_eq_true.mp ck_a_180_0 (pc - 0) (List.mem_range.mpr (by omega))
    rwa [show 0 + (pc - 0) = pc by omega] at this
  by_cases h80 : pc < 160
  · have := List.all_eq_true.mp ck_a_180_80 (pc - 80) (List.mem_range.mpr (by omega))
    rwa [show 80 + (pc - 80) = pc by omega] at this
  by_cases h160 : pc < 240
  · have := List.all_eq_true.mp ck_a_180_160 (pc - 160) (List.mem_range.mpr (by omega))
    rwa [show 160 + (pc - 160) = pc by omega] at this
  by_cases h240 : pc < 274
  · have := List.all_eq_true.mp ck_a_180_240 (pc - 240) (List.mem_range.mpr (by omega))
    rwa [show 240 + (pc - 240) = pc by omega] at this
  omega
theorem ck_a_181_0 : (List.range 5).all (fun j => ck_at 181 (0 + j)) = true := by decide +kernel
theorem ck_a_181 : ∀ pc, pc < 5 → ck_at 181 pc = true := by
  intro pc h
  by_cases h0 : pc < 5
  · have := List.all_eq_true.mp ck_a_181_0 (pc - 0) (List.mem_range.mpr (by omega))
    rwa [show 0 + (pc - 0) = pc by omega] at this
  omega
theorem ck_a_182_0 : (List.range 65).all (fun j => ck_at 182 (0 + j)) = true := by decide +kernel
theorem ck_a_182 : ∀ pc, pc < 65 → ck_at 182 pc = true := by
  intro pc h
  by_cases h0 : pc < 65
  · have := List.all_eq_true.mp ck_a_182_0 (pc - 0) (List.mem_range.mpr (by omega))
    rwa [show 0 + (pc - 0) = pc by omega] at this
  omega
theorem ck_a_183_0 : (List.range 80).all (fun j => ck_at 183 (0 + j)) = true := by decide +kernel
theorem ck_a_183_80 : (List.range 40).all (fun j => ck_at 183 (80 + j)) = true := by decide +kernel
theorem ck_a_183 : ∀ pc, pc < 120 → ck_at 183 pc = true := by
  intro pc h
  by_cases h0 : pc < 80
  · have := List.all_eq_true.mp ck_a_183_0 (pc - 0) (List.mem_range.mpr (by omega))
    rwa [show 0 + (pc - 0) = pc by omega] at this
  by_cases h80 : pc < 120
  · have := List.all_eq_true.mp ck_a_183_80 (pc - 80) (List.mem_range.mpr (by omega))
    rwa [show 80 + (pc - 80) = pc by omega] at this
  omega
theorem ck_a_184_0 : (List.range 21).all (fun j => ck_at 184 (0 + j)) = true := by decide +kernel
theorem ck_a_184 : ∀ pc, pc < 21 → ck_at 184 pc = true := by
  intro pc h
  by_cases h0 : pc < 21
  · have := List.all_eq_true.mp ck_a_184_0 (pc - 0) (List.mem_range.mpr (by omega))
    rwa [show 0 + (pc - 0) = pc by omega] at this
  omega
theorem ck_a_185_0 : (List.range 25).all (fun j => ck_at 185 (0 + j)) = true := by decide +kernel
theorem ck_a_185 : ∀ pc, pc < 25 → ck_at 185 pc = true := by
  intro pc h
  by_cases h0 : pc < 25
  · have := List.all_eq_true.mp ck_a_185_0 (pc - 0) (List.mem_range.mpr (by omega))
    rwa [show 0 + (pc - 0) = pc by omega] at this
  omega
theorem ck_a_186_0 : (List.range 27).all (fun j => ck_at 186 (0 + j)) = true := by decide +kernel
theorem ck_a_186 : ∀ pc, pc < 27 → ck_at 186 pc = true := by
  intro pc h
  by_cases h0 : pc < 27
  · have := List.all_eq_true.mp ck_a_186_0 (pc - 0) (List.mem_range.mpr (by omega))
    rwa [show 0 + (pc - 0) = pc by omega] at this
  omega
theorem ck_a_187_0 : (List.range 24).all (fun j => ck_at 187 (0 + j)) = true := by decide +kernel
theorem ck_a_187 : ∀ pc, pc < 24 → ck_at 187 pc = true := by
  intro pc h
  by_cases h0 : pc < 24
  · have := List.all_eq_true.mp ck_a_187_0 (pc - 0) (List.mem_range.mpr (by omega))
    rwa [show 0 + (pc - 0) = pc by omega] at this
  omega
theorem ck_a_188_0 : (List.range 18).all (fun j => ck_at 188 (0 + j)) = true := by decide +kernel
theorem ck_a_188 : ∀ pc, pc < 18 → ck_at 188 pc = true := by
  intro pc h
  by_cases h0 : pc < 18
  · have := List.all_eq_true.mp ck_a_188_0 (pc - 0) (List.mem_range.mpr (by omega))
    rwa [show 0 + (pc - 0) = pc by omega] at this
  omega
theorem ck_a_189_0 : (List.range 62).all (fun j => ck_at 189 (0 + j)) = true := by decide +kernel
theorem ck_a_189 : ∀ pc, pc < 62 → ck_at 189 pc = true := by
  intro pc h
  by_cases h0 : pc < 62
  · have := List.all_eq_true.mp ck_a_189_0 (pc - 0) (List.mem_range.mpr (by omega))
    rwa [show 0 + (pc - 0) = pc by omega] at this
  omega
theorem ck_a_190_0 : (List.range 62).all (fun j => ck_at 190 (0 + j)) = true := by decide +kernel
theorem ck_a_190 : ∀ pc, pc < 62 → ck_at 190 pc = true := by
  intro pc h
  by_cases h0 : pc < 62
  · have := List.all_eq_true.mp ck_a_190_0 (pc - 0) (List.mem_range.mpr (by omega))
    rwa [show 0 + (pc - 0) = pc by omega] at this
  omega
theorem ck_a_191_0 : (List.range 34).all (fun j => ck_at 191 (0 + j)) = true := by decide +kernel
theorem ck_a_191 : ∀ pc, pc < 34 → ck_at 191 pc = true := by
  intro pc h
  by_cases h0 : pc < 34
  · have := List.all_eq_true.mp ck_a_191_0 (pc - 0) (List.mem_range.mpr (by omega))
    rwa [show 0 + (pc - 0) = pc by omega] at this
  omega
theorem ck_a_192_0 : (List.range 41).all (fun j => ck_at 192 (0 + j)) = true := by decide +kernel
theorem ck_a_192 : ∀ pc, pc < 41 → ck_at 192 pc = true := by
  intro pc h
  by_cases h0 : pc < 41
  · have := List.all_eq_true.mp ck_a_192_0 (pc - 0) (List.mem_range.mpr (by omega))
    rwa [show 0 + (pc - 0) = pc by omega] at this
  omega
theorem ck_a_193_0 : (List.range 64).all (fun j => ck_at 193 (0 + j)) = true := by decide +kernel
theorem ck_a_193 : ∀ pc, pc < 64 → ck_at 193 pc = true := by
  intro pc h
  by_cases h0 : pc < 64
  · have := List.all_eq_true.mp ck_a_193_0 (pc - 0) (List.mem_range.mpr (by omega))
    rwa [show 0 + (pc - 0) = pc by omega] at this
  omega
theorem ck_a_194_0 : (List.range 80).all (fun j => ck_at 194 (0 + j)) = true := by decide +kernel
theorem ck_a_194_80 : (List.range 10).all (fun j => ck_at 194 (80 + j)) = true := by decide +kernel
theorem ck_a_194 : ∀ pc, pc < 90 → ck_at 194 pc = true := by
  intro pc h
  by_cases h0 : pc < 80
  · have := List.all_eq_true.mp ck_a_194_0 (pc - 0) (List.mem_range.mpr (by omega))
    rwa [show 0 + (pc - 0) = pc by omega] at this
  by_cases h80 : pc < 90
  · have := List.all_eq_true.mp ck_a_194_80 (pc - 80) (List.mem_range.mpr (by omega))
    rwa [show 80 + (pc - 80) = pc by omega] at this
  omega
theorem ck_a_195_0 : (List.range 80).all (fun j => ck_at 195 (0 + j)) = true := by decide +kernel
theorem ck_a_195_80 : (List.range 4).all (fun j => ck_at 195 (80 + j)) = true := by decide +kernel
theorem ck_a_195 : ∀ pc, pc < 84 → ck_at 195 pc = true := by
  intro pc h
  by_cases h0 : pc < 80
  · have := List.all_eq_true.mp ck_a_195_0 (pc - 0) (List.mem_range.mpr (by omega))
    rwa [show 0 + (pc - 0) = pc by omega] at this
  by_cases h80 : pc < 84
  · have := List.all_eq_true.mp ck_a_195_80 (pc - 80) (List.mem_range.mpr (by omega))
    rwa [show 80 + (pc - 80) = pc by omega] at this
  omega
theorem ck_a_196_0 : (List.range 80).all (fun j => ck_at 196 (0 + j)) = true := by decide +kernel
theorem ck_a_196_80 : (List.range 4).all (fun j => ck_at 196 (80 + j)) = true := by decide +kernel
theorem ck_a_196 : ∀ pc, pc < 84 → ck_at 196 pc = true := by
  intro pc h
  by_cases h0 : pc < 80
  · have := List.all_eq_true.mp ck_a_196_0 (pc - 0) (List.mem_range.mpr (by omega))
    rwa [show 0 + (pc - 0) = pc by omega] at this
  by_cases h80 : pc < 84
  · have := List.all_eq_true.mp ck_a_196_80 (pc - 80) (List.mem_range.mpr (by omega))
    rwa [show 80 + (pc - 80) = pc by omega] at this
  omega
theorem ck_a_197_0 : (List.range 24).all (fun j => ck_at 197 (0 + j)) = true := by decide +kernel
theorem ck_a_197 : ∀ pc, pc < 24 → ck_at 197 pc = true := by
  intro pc h
  by_cases h0 : pc < 24
  · have := List.all_eq_true.mp ck_a_197_0 (pc - 0) (List.mem_range.mpr (by omega))
    rwa [show 0 + (pc - 0) = pc by omega] at this
  omega
theorem ck_a_198_0 : (List.range 73).all (fun j => ck_at 198 (0 + j)) = true := by decide +kernel
theorem ck_a_198 : ∀ pc, pc < 73 → ck_at 198 pc = true := by
  intro pc h
  by_cases h0 : pc < 73
  · have := List.all_eq_true.mp ck_a_198_0 (pc - 0) (List.mem_range.mpr (by omega))
    rwa [show 0 + (pc - 0) = pc by omega] at this
  omega
theorem ck_a_199_0 : (List.range 80).all (fun j => ck_at 199 (0 + j)) = true := by decide +kernel
theorem ck_a_199_80 : (List.range 15).all (fun j => ck_at 199 (80 + j)) = true := by decide +kernel
theorem ck_a_199 : ∀ pc, pc < 95 → ck_at 199 pc = true := by
  intro pc h
  by_cases h0 : pc < 80
  · have := List.all_eq_true.mp ck_a_199_0 (pc - 0) (List.mem_range.mpr (by omega))
    rwa [show 0 + (pc - 0) = pc by omega] at this
  by_cases h80 : pc < 95
  · have := List.all_eq_true.mp ck_a_199_80 (pc - 80) (List.mem_range.mpr (by omega))
    rwa [show 80 + (pc - 80) = pc by omega] at this
  omega
theorem ck_a_200_0 : (List.range 42).all (fun j => ck_at 200 (0 + j)) = true := by decide +kernel
theorem ck_a_200 : ∀ pc, pc < 42 → ck_at 200 pc = true := by
  intro pc h
  by_cases h0 : pc < 42
  · have := List.all_eq_true.mp ck_a_200_0 (pc - 0) (List.mem_range.mpr (by omega))
    rwa [show 0 + (pc - 0) = pc by omega] at this
  omega
theorem ck_a_201_0 : (List.range 46).all (fun j => ck_at 201 (0 + j)) = true := by decide +kernel
theorem ck_a_201 : ∀ pc, pc < 46 → ck_at 201 pc = true := by
  intro pc h
  by_cases h0 : pc < 46
  · have := List.all_eq_true.mp ck_a_201_0 (pc - 0) (List.mem_range.mpr (by omega))
    rwa [show 0 + (pc - 0) = pc by omega] at this
  omega
theorem ck_a_202_0 : (List.range 13).all (fun j => ck_at 202 (0 + j)) = true := by decide +kernel
theorem ck_a_202 : ∀ pc, pc < 13 → ck_at 202 pc = true := by
  intro pc h
  by_cases h0 : pc < 13
  · have := List.all_eq_true.mp ck_a_202_0 (pc - 0) (List.mem_range.mpr (by omega))
    rwa [show 0 + (pc - 0) = pc by omega] at this
  omega
theorem ck_a_203_0 : (List.range 80).all (fun j => ck_at 203 (0 + j)) = true := by decide +kernel
theorem ck_a_203_80 : (List.range 80).all (fun j => ck_at 203 (80 + j)) = true := by decide +kernel
theorem ck_a_203_160 : (List.range 80).all (fun j => ck_at 203 (160 + j)) = true := by decide +kernel
theorem ck_a_203_240 : (List.range 40).all (fun j => ck_at 203 (240 + j)) = true := by decide +kernel
theorem ck_a_203 : ∀ pc, pc < 280 → ck_at 203 pc = true := by
  intro pc h
  by_cases h0 : pc < 80
  · have := List.all_eq_true.mp ck_a_203_0 (pc - 0) (List.mem_range.mpr (by omega))
    rwa [show 0 + (pc - 0) = pc by omega] at this
  by_cases h80 : pc < 160
  · have := List.all_eq_true.mp ck_a_203_80 (pc - 80) (List.mem_range.mpr (by omega))
    rwa [show 80 + (pc - 80) = pc by omega] at this
  by_cases h160 : pc < 240
  · have := List.all_eq_true.mp ck_a_203_160 (pc - 160) (List.mem_range.mpr (by omega))
    rwa [show 160 + (pc - 160) = pc by omega] at this
  by_cases h240 : pc < 280
  · have := List.all_eq_true.mp ck_a_203_240 (pc - 240) (List.mem_range.mpr (by omega))
    rwa [show 240 + (pc - 240) = pc by omega] at this
  omega
theorem ck_a_204_0 : (List.range 35).all (fun j => ck_at 204 (0 + j)) = true := by decide +kernel
theorem ck_a_204 : ∀ pc, pc < 35 → ck_at 204 pc = true := by
  intro pc h
  by_cases h0 : pc < 35
  · have := List.all_eq_true.mp ck_a_204_0 (pc - 0) (List.mem_range.mpr (by omega))
    rwa [show 0 + (pc - 0) = pc by omega] at this
  omega
theorem ck_a_205_0 : (List.range 25).all (fun j => ck_at 205 (0 + j)) = true := by decide +kernel
theorem ck_a_205 : ∀ pc, pc < 25 → ck_at 205 pc = true := by
  intro pc h
  by_cases h0 : pc < 25
  · have := List.all_eq_true.mp ck_a_205_0 (pc - 0) (List.mem_range.mpr (by omega))
    rwa [show 0 + (pc - 0) = pc by omega] at this
  omega
theorem ck_a_206_0 : (List.range 48).all (fun j => ck_at 206 (0 + j)) = true := by decide +kernel
theorem ck_a_206 : ∀ pc, pc < 48 → ck_at 206 pc = true := by
  intro pc h
  by_cases h0 : pc < 48
  · have := List.all_eq_true.mp ck_a_206_0 (pc - 0) (List.mem_range.mpr (by omega))
    rwa [show 0 + (pc - 0) = pc by omega] at this
  omega
theorem ck_a_207_0 : (List.range 15).all (fun j => ck_at 207 (0 + j)) = true := by decide +kernel
theorem ck_a_207 : ∀ pc, pc < 15 → ck_at 207 pc = true := by
  intro pc h
  by_cases h0 : pc < 15
  · have := List.all_eq_true.mp ck_a_207_0 (pc - 0) (List.mem_range.mpr (by omega))
    rwa [show 0 + (pc - 0) = pc by omega] at this
  omega
theorem ck_a_208_0 : (List.range 80).all (fun j => ck_at 208 (0 + j)) = true := by decide +kernel
theorem ck_a_208_80 : (List.range 80).all (fun j => ck_at 208 (80 + j)) = true := by decide +kernel
theorem ck_a_208_160 : (List.range 2).all (fun j => ck_at 208 (160 + j)) = true := by decide +kernel
theorem ck_a_208 : ∀ pc, pc < 162 → ck_at 208 pc = true := by
  intro pc h
  by_cases h0 : pc < 80
  · have := List.all_eq_true.mp ck_a_208_0 (pc - 0) (List.mem_range.mpr (by omega))
    rwa [show 0 + (pc - 0) = pc by omega] at this
  by_cases h80 : pc < 160
  · have := List.all_eq_true.mp ck_a_208_80 (pc - 80) (List.mem_range.mpr (by omega))
    rwa [show 80 + (pc - 80) = pc by omega] at this
  by_cases h160 : pc < 162
  · have := List.all_eq_true.mp ck_a_208_160 (pc - 160) (List.mem_range.mpr (by omega))
    rwa [show 160 + (pc - 160) = pc by omega] at this
  omega
theorem ck_a_209_0 : (List.range 80).all (fun j => ck_at 209 (0 + j)) = true := by decide +kernel
theorem ck_a_209_80 : (List.range 80).all (fun j => ck_at 209 (80 + j)) = true := by decide +kernel
theorem ck_a_209_160 : (List.range 18).all (fun j => ck_at 209 (160 + j)) = true := by decide +kernel
theorem ck_a_209 : ∀ pc, pc < 178 → ck_at 209 pc = true := by
  intro pc h
  by_cases h0 : pc < 80
  · have := List.all_eq_true.mp ck_a_209_0 (pc - 0) (List.mem_range.mpr (by omega))
    rwa [show 0 + (pc - 0) = pc by omega] at this
  by_cases h80 : pc < 160
  · have := List.all_eq_true.mp ck_a_209_80 (pc - 80) (List.mem_range.mpr (by omega))
    rwa [show 80 + (pc - 80) = pc by omega] at this
  by_cases h160 : pc < 178
  · have := List.all_eq_true.mp ck_a_209_160 (pc - 160) (List.mem_range.mpr (by omega))
    rwa [show 160 + (pc - 160) = pc by omega] at this
  omega
theorem ck_a_210_0 : (List.range 80).all (fun j => ck_at 210 (0 + j)) = true := by decide +kernel
theorem ck_a_210_80 : (List.range 3).all (fun j => ck_at 210 (80 + j)) = true := by decide +kernel
theorem ck_a_210 : ∀ pc, pc < 83 → ck_at 210 pc = true := by
  intro pc h
  by_cases h0 : pc < 80
  · have := List.all_eq_true.mp ck_a_210_0 (pc - 0) (List.mem_range.mpr (by omega))
    rwa [show 0 + (pc - 0) = pc by omega] at this
  by_cases h80 : pc < 83
  · have := List.all_eq_true.mp ck_a_210_80 (pc - 80) (List.mem_range.mpr (by omega))
    rwa [show 80 + (pc - 80) = pc by omega] at this
  omega
theorem ck_a_211_0 : (List.range 80).all (fun j => ck_at 211 (0 + j)) = true := by decide +kernel
theorem ck_a_211_80 : (List.range 29).all (fun j => ck_at 211 (80 + j)) = true := by decide +kernel
theorem ck_a_211 : ∀ pc, pc < 109 → ck_at 211 pc = true := by
  intro pc h
  by_cases h0 : pc < 80
  · have := List.all_eq_true.mp ck_a_211_0 (pc - 0) (List.mem_range.mpr (by omega))
    rwa [show 0 + (pc - 0) = pc by omega] at this
  by_cases h80 : pc < 109
  · have := List.all_eq_true.mp ck_a_211_80 (pc - 80) (List.mem_range.mpr (by omega))
    rwa [show 80 + (pc - 80) = pc by omega] at this
  omega
theorem ck_a_212_0 : (List.range 80).all (fun j => ck_at 212 (0 + j)) = true := by decide +kernel
theorem ck_a_212_80 : (List.range 54).all (fun j => ck_at 212 (80 + j)) = true := by decide +kernel
theorem ck_a_212 : ∀ pc, pc < 134 → ck_at 212 pc = true := by
  intro pc h
  by_cases h0 : pc < 80
  · have := List.all_eq_true.mp ck_a_212_0 (pc - 0) (List.mem_range.mpr (by omega))
    rwa [show 0 + (pc - 0) = pc by omega] at this
  by_cases h80 : pc < 134
  · have := List.all_eq_true.mp ck_a_212_80 (pc - 80) (List.mem_range.mpr (by omega))
    rwa [show 80 + (pc - 80) = pc by omega] at this
  omega
theorem ck_a_213_0 : (List.range 27).all (fun j => ck_at 213 (0 + j)) = true := by decide +kernel
theorem ck_a_213 : ∀ pc, pc < 27 → ck_at 213 pc = true := by
  intro pc h
  by_cases h0 : pc < 27
  · have := List.all_eq_true.mp ck_a_213_0 (pc - 0) (List.mem_range.mpr (by omega))
    rwa [show 0 + (pc - 0) = pc by omega] at this
  omega
theorem ck_a_214_0 : (List.range 80).all (fun j => ck_at 214 (0 + j)) = true := by decide +kernel
theorem ck_a_214_80 : (List.range 14).all (fun j => ck_at 214 (80 + j)) = true := by decide +kernel
theorem ck_a_214 : ∀ pc, pc < 94 → ck_at 214 pc = true := by
  intro pc h
  by_cases h0 : pc < 80
  · have := List.all_eq_true.mp ck_a_214_0 (pc - 0) (List.mem_range.mpr (by omega))
    rwa [show 0 + (pc - 0) = pc by omega] at this
  by_cases h80 : pc < 94
  · have := List.all_eq_true.mp ck_a_214_80 (pc - 80) (List.mem_range.mpr (by omega))
    rwa [show 80 + (pc - 80) = pc by omega] at this
  omega
theorem ck_a_215_0 : (List.range 80).all (fun j => ck_at 215 (0 + j)) = true := by decide +kernel
theorem ck_a_215_80 : (List.range 9).all (fun j => ck_at 215 (80 + j)) = true := by decide +kernel
theorem ck_a_215 : ∀ pc, pc < 89 → ck_at 215 pc = true := by
  intro pc h
  by_cases h0 : pc < 80
  · have := List.all_eq_true.mp ck_a_215_0 (pc - 0) (List.mem_range.mpr (by omega))
    rwa [show 0 + (pc - 0) = pc by omega] at this
  by_cases h80 : pc < 89
  · have := List.all_eq_true.mp ck_a_215_80 (pc - 80) (List.mem_range.mpr (by omega))
    rwa [show 80 + (pc - 80) = pc by omega] at this
  omega
theorem ck_a_216_0 : (List.range 80).all (fun j => ck_at 216 (0 + j)) = true := by decide +kernel
theorem ck_a_216_80 : (List.range 52).all (fun j => ck_at 216 (80 + j)) = true := by decide +kernel
theorem ck_a_216 : ∀ pc, pc < 132 → ck_at 216 pc = true := by
  intro pc h
  by_cases h0 : pc < 80
  · have := List.all_eq_true.mp ck_a_216_0 (pc - 0) (List.mem_range.mpr (by omega))
    rwa [show 0 + (pc - 0) = pc by omega] at this
  by_cases h80 : pc < 132
  · have := List.all_eq_true.mp ck_a_216_80 (pc - 80) (List.mem_range.mpr (by omega))
    rwa [show 80 + (pc - 80) = pc by omega] at this
  omega
theorem ck_a_217_0 : (List.range 80).all (fun j => ck_at 217 (0 + j)) = true := by decide +kernel
theorem ck_a_217_80 : (List.range 40).all (fun j => ck_at 217 (80 + j)) = true := by decide +kernel
theorem ck_a_217 : ∀ pc, pc < 120 → ck_at 217 pc = true := by
  intro pc h
  by_cases h0 : pc < 80
  · have := List.all_eq_true.mp ck_a_217_0 (pc - 0) (List.mem_range.mpr (by omega))
    rwa [show 0 + (pc - 0) = pc by omega] at this
  by_cases h80 : pc < 120
  · have := List.all_eq_true.mp ck_a_217_80 (pc - 80) (List.mem_range.mpr (by omega))
    rwa [show 80 + (pc - 80) = pc by omega] at this
  omega
theorem ck_a_218_0 : (List.range 80).all (fun j => ck_at 218 (0 + j)) = true := by decide +kernel
theorem ck_a_218_80 : (List.range 80).all (fun j => ck_at 218 (80 + j)) = true := by decide +kernel
theorem ck_a_218_160 : (List.range 80).all (fun j => ck_at 218 (160 + j)) = true := by decide +kernel
theorem ck_a_218_240 : (List.range 67).all (fun j => ck_at 218 (240 + j)) = true := by decide +kernel
theorem ck_a_218 : ∀ pc, pc < 307 → ck_at 218 pc = true := by
  intro pc h
  by_cases h0 : pc < 80
  · have := List.all_eq_true.mp ck_a_218_0 (pc - 0) (List.mem_range.mpr (by omega))
    rwa [show 0 + (pc - 0) = pc by omega] at this
  by_cases h80 : pc < 160
  · have := List.all_eq_true.mp ck_a_218_80 (pc - 80) (List.mem_range.mpr (by omega))
    rwa [show 80 + (pc - 80) = pc by omega] at this
  by_cases h160 : pc < 240
  · have := List.all_eq_true.mp ck_a_218_160 (pc - 160) (List.mem_range.mpr (by omega))
    rwa [show 160 + (pc - 160) = pc by omega] at this
  by_cases h240 : pc < 307
  · have := List.all_eq_true.mp ck_a_218_240 (pc - 240) (List.mem_range.mpr (by omega))
    rwa [show 240 + (pc - 240) = pc by omega] at this
  omega
theorem ck_a_219_0 : (List.range 27).all (fun j => ck_at 219 (0 + j)) = true := by decide +kernel
theorem ck_a_219 : ∀ pc, pc < 27 → ck_at 219 pc = true := by
  intro pc h
  by_cases h0 : pc < 27
  · have := List.all_eq_true.mp ck_a_219_0 (pc - 0) (List.mem_range.mpr (by omega))
    rwa [show 0 + (pc - 0) = pc by omega] at this
  omega
theorem ck_a_220_0 : (List.range 12).all (fun j => ck_at 220 (0 + j)) = true := by decide +kernel
theorem ck_a_220 : ∀ pc, pc < 12 → ck_at 220 pc = true := by
  intro pc h
  by_cases h0 : pc < 12
  · have := List.all_eq_true.mp ck_a_220_0 (pc - 0) (List.mem_range.mpr (by omega))
    rwa [show 0 + (pc - 0) = pc by omega] at this
  omega
theorem ck_a_221_0 : (List.range 13).all (fun j => ck_at 221 (0 + j)) = true := by decide +kernel
theorem ck_a_221 : ∀ pc, pc < 13 → ck_at 221 pc = true := by
  intro pc h
  by_cases h0 : pc < 13
  · have := List.all_eq_true.mp ck_a_221_0 (pc - 0) (List.mem_range.mpr (by omega))
    rwa [show 0 + (pc - 0) = pc by omega] at this
  omega
theorem ck_a_222_0 : (List.range 58).all (fun j => ck_at 222 (0 + j)) = true := by decide +kernel
theorem ck_a_222 : ∀ pc, pc < 58 → ck_at 222 pc = true := by
  intro pc h
  by_cases h0 : pc < 58
  · have := List.all_eq_true.mp ck_a_222_0 (pc - 0) (List.mem_range.mpr (by omega))
    rwa [show 0 + (pc - 0) = pc by omega] at this
  omega
theorem ck_a_223_0 : (List.range 80).all (fun j => ck_at 223 (0 + j)) = true := by decide +kernel
theorem ck_a_223_80 : (List.range 80).all (fun j => ck_at 223 (80 + j)) = true := by decide +kernel
theorem ck_a_223_160 : (List.range 5).all (fun j => ck_at 223 (160 + j)) = true := by decide +kernel
theorem ck_a_223 : ∀ pc, pc < 165 → ck_at 223 pc = true := by
  intro pc h
  by_cases h0 : pc < 80
  · have := List.all_eq_true.mp ck_a_223_0 (pc - 0) (List.mem_range.mpr (by omega))
    rwa [show 0 + (pc - 0) = pc by omega] at this
  by_cases h80 : pc < 160
  · have := List.all_eq_true.mp ck_a_223_80 (pc - 80) (List.mem_range.mpr (by omega))
    rwa [show 80 + (pc - 80) = pc by omega] at this
  by_cases h160 : pc < 165
  · have := List.all_eq_true.mp ck_a_223_160 (pc - 160) (List.mem_range.mpr (by omega))
    rwa [show 160 + (pc - 160) = pc by omega] at this
  omega
theorem ck_a_224_0 : (List.range 71).all (fun j => ck_at 224 (0 + j)) = true := by decide +kernel
theorem ck_a_224 : ∀ pc, pc < 71 → ck_at 224 pc = true := by
  intro pc h
  by_cases h0 : pc < 71
  · have := List.all_eq_true.mp ck_a_224_0 (pc - 0) (List.mem_range.mpr (by omega))
    rwa [show 0 + (pc - 0) = pc by omega] at this
  omega
theorem ck_a_225_0 : (List.range 26).all (fun j => ck_at 225 (0 + j)) = true := by decide +kernel
theorem ck_a_225 : ∀ pc, pc < 26 → ck_at 225 pc = true := by
  intro pc h
  by_cases h0 : pc < 26
  · have := List.all_eq_true.mp ck_a_225_0 (pc - 0) (List.mem_range.mpr (by omega))
    rwa [show 0 + (pc - 0) = pc by omega] at this
  omega
theorem ck_a_226_0 : (List.range 24).all (fun j => ck_at 226 (0 + j)) = true := by decide +kernel
theorem ck_a_226 : ∀ pc, pc < 24 → ck_at 226 pc = true := by
  intro pc h
  by_cases h0 : pc < 24
  · have := List.all_eq_true.mp ck_a_226_0 (pc - 0) (List.mem_range.mpr (by omega))
    rwa [show 0 + (pc - 0) = pc by omega] at this
  omega
theorem ck_a_227_0 : (List.range 14).all (fun j => ck_at 227 (0 + j)) = true := by decide +kernel
theorem ck_a_227 : ∀ pc, pc < 14 → ck_at 227 pc = true := by
  intro pc h
  by_cases h0 : pc < 14
  · have := List.all_eq_true.mp ck_a_227_0 (pc - 0) (List.mem_range.mpr (by omega))
    rwa [show 0 + (pc - 0) = pc by omega] at this
  omega
theorem ck_a_228_0 : (List.range 27).all (fun j => ck_at 228 (0 + j)) = true := by decide +kernel
theorem ck_a_228 : ∀ pc, pc < 27 → ck_at 228 pc = true := by
  intro pc h
  by_cases h0 : pc < 27
  · have := List.all_eq_true.mp ck_a_228_0 (pc - 0) (List.mem_range.mpr (by omega))
    rwa [show 0 + (pc - 0) = pc by omega] at this
  omega
theorem ck_a_229_0 : (List.range 29).all (fun j => ck_at 229 (0 + j)) = true := by decide +kernel
theorem ck_a_229 : ∀ pc, pc < 29 → ck_at 229 pc = true := by
  intro pc h
  by_cases h0 : pc < 29
  · have := List.all_eq_true.mp ck_a_229_0 (pc - 0) (List.mem_range.mpr (by omega))
    rwa [show 0 + (pc - 0) = pc by omega] at this
  omega
theorem ck_a_230_0 : (List.range 14).all (fun j => ck_at 230 (0 + j)) = true := by decide +kernel
theorem ck_a_230 : ∀ pc, pc < 14 → ck_at 230 pc = true := by
  intro pc h
  by_cases h0 : pc < 14
  · have := List.all_eq_true.mp ck_a_230_0 (pc - 0) (List.mem_range.mpr (by omega))
    rwa [show 0 + (pc - 0) = pc by omega] at this
  omega
theorem ck_a_231_0 : (List.range 29).all (fun j => ck_at 231 (0 + j)) = true := by decide +kernel
theorem ck_a_231 : ∀ pc, pc < 29 → ck_at 231 pc = true := by
  intro pc h
  by_cases h0 : pc < 29
  · have := List.all_eq_true.mp ck_a_231_0 (pc - 0) (List.mem_range.mpr (by omega))
    rwa [show 0 + (pc - 0) = pc by omega] at this
  omega
theorem ck_a_232_0 : (List.range 36).all (fun j => ck_at 232 (0 + j)) = true := by decide +kernel
theorem ck_a_232 : ∀ pc, pc < 36 → ck_at 232 pc = true := by
  intro pc h
  by_cases h0 : pc < 36
  · have := List.all_eq_true.mp ck_a_232_0 (pc - 0) (List.mem_range.mpr (by omega))
    rwa [show 0 + (pc - 0) = pc by omega] at this
  omega
theorem ck_a_233_0 : (List.range 42).all (fun j => ck_at 233 (0 + j)) = true := by decide +kernel
theorem ck_a_233 : ∀ pc, pc < 42 → ck_at 233 pc = true := by
  intro pc h
  by_cases h0 : pc < 42
  · have := List.all_eq_true.mp ck_a_233_0 (pc - 0) (List.mem_range.mpr (by omega))
    rwa [show 0 + (pc - 0) = pc by omega] at this
  omega
theorem ck_a_234_0 : (List.range 59).all (fun j => ck_at 234 (0 + j)) = true := by decide +kernel
theorem ck_a_234 : ∀ pc, pc < 59 → ck_at 234 pc = true := by
  intro pc h
  by_cases h0 : pc < 59
  · have := List.all_eq_true.mp ck_a_234_0 (pc - 0) (List.mem_range.mpr (by omega))
    rwa [show 0 + (pc - 0) = pc by omega] at this
  omega
theorem ck_a_235_0 : (List.range 80).all (fun j => ck_at 235 (0 + j)) = true := by decide +kernel
theorem ck_a_235_80 : (List.range 60).all (fun j => ck_at 235 (80 + j)) = true := by decide +kernel
theorem ck_a_235 : ∀ pc, pc < 140 → ck_at 235 pc = true := by
  intro pc h
  by_cases h0 : pc < 80
  · have := List.all_eq_true.mp ck_a_235_0 (pc - 0) (List.mem_range.mpr (by omega))
    rwa [show 0 + (pc - 0) = pc by omega] at this
  by_cases h80 : pc < 140
  · have := List.all_eq_true.mp ck_a_235_80 (pc - 80) (List.mem_range.mpr (by omega))
    rwa [show 80 + (pc - 80) = pc by omega] at this
  omega
theorem ck_a_236_0 : (List.range 80).all (fun j => ck_at 236 (0 + j)) = true := by decide +kernel
theorem ck_a_236_80 : (List.range 80).all (fun j => ck_at 236 (80 + j)) = true := by decide +kernel
theorem ck_a_236_160 : (List.range 33).all (fun j => ck_at 236 (160 + j)) = true := by decide +kernel
theorem ck_a_236 : ∀ pc, pc < 193 → ck_at 236 pc = true := by
  intro pc h
  by_cases h0 : pc < 80
  · have := List.all_eq_true.mp ck_a_236_0 (pc - 0) (List.mem_range.mpr (by omega))
    rwa [show 0 + (pc - 0) = pc by omega] at this
  by_cases h80 : pc < 160
  · have := List.all_eq_true.mp ck_a_236_80 (pc - 80) (List.mem_range.mpr (by omega))
    rwa [show 80 + (pc - 80) = pc by omega] at this
  by_cases h160 : pc < 193
  · have := List.all_eq_true.mp ck_a_236_160 (pc - 160) (List.mem_range.mpr (by omega))
    rwa [show 160 + (pc - 160) = pc by omega] at this
  omega
theorem ck_a_237_0 : (List.range 39).all (fun j => ck_at 237 (0 + j)) = true := by decide +kernel
theorem ck_a_237 : ∀ pc, pc < 39 → ck_at 237 pc = true := by
  intro pc h
  by_cases h0 : pc < 39
  · have := List.all_eq_true.mp ck_a_237_0 (pc - 0) (List.mem_range.mpr (by omega))
    rwa [show 0 + (pc - 0) = pc by omega] at this
  omega
theorem ck_a_238_0 : (List.range 80).all (fun j => ck_at 238 (0 + j)) = true := by decide +kernel
theorem ck_a_238_80 : (List.range 15).all (fun j => ck_at 238 (80 + j)) = true := by decide +kernel
theorem ck_a_238 : ∀ pc, pc < 95 → ck_at 238 pc = true := by
  intro pc h
  by_cases h0 : pc < 80
  · have := List.all_eq_true.mp ck_a_238_0 (pc - 0) (List.mem_range.mpr (by omega))
    rwa [show 0 + (pc - 0) = pc by omega] at this
  by_cases h80 : pc < 95
  · have := List.all_eq_true.mp ck_a_238_80 (pc - 80) (List.mem_range.mpr (by omega))
    rwa [show 80 + (pc - 80) = pc by omega] at this
  omega
theorem ck_a_239_0 : (List.range 80).all (fun j => ck_at 239 (0 + j)) = true := by decide +kernel
theorem ck_a_239_80 : (List.range 50).all (fun j => ck_at 239 (80 + j)) = true := by decide +kernel
theorem ck_a_239 : ∀ pc, pc < 130 → ck_at 239 pc = true := by
  intro pc h
  by_cases h0 : pc < 80
  · have := List.all_eq_true.mp ck_a_239_0 (pc - 0) (List.mem_range.mpr (by omega))
    rwa [show 0 + (pc - 0) = pc by omega] at this
  by_cases h80 : pc < 130
  · have := List.all_eq_true.mp ck_a_239_80 (pc - 80) (List.mem_range.mpr (by omega))
    rwa [show 80 + (pc - 80) = pc by omega] at this
  omega
