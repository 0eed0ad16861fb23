theorem ck_a_240_0 : (List.range 42).all (fun j => ck_at 240 (0 + j)) = true := by decide +kernel
theorem ck_a_240 : ∀ pc, pc < 42 → ck_at 240 pc = true := by
  intro pc h
  by_cases h0 : pc < 42
  · have := List.all_eq_true.mp ck_a_240_0 (pc - 0) (List.mem_range.mpr (by omega))
    rwa [show 0 + (pc - 0) = pc by omega] at this
  omega
theorem ck_a_241_0 : (List.range 19).all (fun j => ck_at 241 (0 + j)) = true := by decide +kernel
theorem ck_a_241 : ∀ pc, pc < 19 → ck_at 241 pc = true := by
  intro pc h
  by_cases h0 : pc < 19
  · have := List.all_eq_true.mp ck_a_241_0 (pc - 0) (List.mem_range.mpr (by omega))
    rwa [show 0 + (pc - 0) = pc by omega] at this
  omega
theorem ck_a_242_0 : (List.range 45).all (fun j => ck_at 242 (0 + j)) = true := by decide +kernel
theorem ck_a_242 : ∀ pc, pc < 45 → ck_at 242 pc = true := by
  intro pc h
  by_cases h0 : pc < 45
  · have := List.all_eq_true.mp ck_a_242_0 (pc - 0) (List.mem_range.mpr (by omega))
    rwa [show 0 + (pc - 0) = pc by omega] at this
  omega
theorem ck_a_243_0 : (List.range 18).all (fun j => ck_at 243 (0 + j)) = true := by decide +kernel
theorem ck_a_243 : ∀ pc, pc < 18 → ck_at 243 pc = true := by
  intro pc h
  by_cases h0 : pc < 18
  · have := List.all_eq_true.mp ck_a_243_0 (pc - 0) (List.mem_range.mpr (by omega))
    rwa [show 0 + (pc - 0) = pc by omega] at this
  omega
theorem ck_a_244_0 : (List.range 23).all (fun j => ck_at 244 (0 + j)) = true := by decide +kernel
theorem ck_a_244 : ∀ pc, pc < 23 → ck_at 244 pc = true := by
  intro pc h
  by_cases h0 : pc < 23
  · have := List.all_eq_true.mp ck_a_244_0 (pc - 0) (List.mem_range.mpr (by omega))
    rwa [show 0 + (pc - 0) = pc by omega] at this
  omega
theorem ck_a_245_0 : (List.range 27).all (fun j => ck_at 245 (0 + j)) = true := by decide +kernel
theorem ck_a_245 : ∀ pc, pc < 27 → ck_at 245 pc = true := by
  intro pc h
  by_cases h0 : pc < 27
  · have := List.all_eq_true.mp ck_a_245_0 (pc - 0) (List.mem_range.mpr (by omega))
    rwa [show 0 + (pc - 0) = pc by omega] at this
  omega
theorem ck_a_246_0 : (List.range 80).all (fun j => ck_at 246 (0 + j)) = true := by decide +kernel
theorem ck_a_246_80 : (List.range 19).all (fun j => ck_at 246 (80 + j)) = true := by decide +kernel
theorem ck_a_246 : ∀ pc, pc < 99 → ck_at 246 pc = true := by
  intro pc h
  by_cases h0 : pc < 80
  · have := List.all_eq_true.mp ck_a_246_0 (pc - 0) (List.mem_range.mpr (by omega))
    rwa [show 0 + (pc - 0) = pc by omega] at this
  by_cases h80 : pc < 99
  · have := List.all_eq_true.mp ck_a_246_80 (pc - 80) (List.mem_range.mpr (by omega))
    rwa [show 80 + (pc - 80) = pc by omega] at this
  omega
theorem ck_a_247_0 : (List.range 26).all (fun j => ck_at 247 (0 + j)) = true := by decide +kernel
theorem ck_a_247 : ∀ pc, pc < 26 → ck_at 247 pc = true := by
  intro pc h
  by_cases h0 : pc < 26
  · have := List.all_eq_true.mp ck_a_247_0 (pc - 0) (List.mem_range.mpr (by omega))
    rwa [show 0 + (pc - 0) = pc by omega] at this
  omega
theorem ck_a_248_0 : (List.range 31).all (fun j => ck_at 248 (0 + j)) = true := by decide +kernel
theorem ck_a_248 : ∀ pc, pc < 31 → ck_at 248 pc = true := by
  intro pc h
  by_cases h0 : pc < 31
  · have := List.all_eq_true.mp ck_a_248_0 (pc - 0) (List.mem_range.mpr (by omega))
    rwa [show 0 + (pc - 0) = pc by omega] at this
  omega
theorem ck_a_249_0 : (List.range 76).all (fun j => ck_at 249 (0 + j)) = true := by decide +kernel
theorem ck_a_249 : ∀ pc, pc < 76 → ck_at 249 pc = true := by
  intro pc h
  by_cases h0 : pc < 76
  · have := List.all_eq_true.mp ck_a_249_0 (pc - 0) (List.mem_range.mpr (by omega))
    rwa [show 0 + (pc - 0) = pc by omega] at this
  omega
theorem ck_a_250_0 : (List.range 80).all (fun j => ck_at 250 (0 + j)) = true := by decide +kernel
theorem ck_a_250_80 : (List.range 27).all (fun j => ck_at 250 (80 + j)) = true := by decide +kernel
theorem ck_a_250 : ∀ pc, pc < 107 → ck_at 250 pc = true := by
  intro pc h
  by_cases h0 : pc < 80
  · have := List.all_eq_true.mp ck_a_250_0 (pc - 0) (List.mem_range.mpr (by omega))
    rwa [show 0 + (pc - 0) = pc by omega] at this
  by_cases h80 : pc < 107
  · have := List.all_eq_true.mp ck_a_250_80 (pc - 80) (List.mem_range.mpr (by omega))
    rwa [show 80 + (pc - 80) = pc by omega] at this
  omega
theorem ck_a_251_0 : (List.range 74).all (fun j => ck_at 251 (0 + j)) = true := by decide +kernel
theorem ck_a_251 : ∀ pc, pc < 74 → ck_at 251 pc = true := by
  intro pc h
  by_cases h0 : pc < 74
  · have := List.all_eq_true.mp ck_a_251_0 (pc - 0) (List.mem_range.mpr (by omega))
    rwa [show 0 + (pc - 0) = pc by omega] at this
  omega
theorem ck_a_252_0 : (List.range 80).all (fun j => ck_at 252 (0 + j)) = true := by decide +kernel
theorem ck_a_252_80 : (List.range 11).all (fun j => ck_at 252 (80 + j)) = true := by decide +kernel
theorem ck_a_252 : ∀ pc, pc < 91 → ck_at 252 pc = true := by
  intro pc h
  by_cases h0 : pc < 80
  · have := List.all_eq_true.mp ck_a_252_0 (pc - 0) (List.mem_range.mpr (by omega))
    rwa [show 0 + (pc - 0) = pc by omega] at this
  by_cases h80 : pc < 91
  · have := List.all_eq_true.mp ck_a_252_80 (pc - 80) (List.mem_range.mpr (by omega))
    rwa [show 80 + (pc - 80) = pc by omega] at this
  omega
theorem ck_a_253_0 : (List.range 26).all (fun j => ck_at 253 (0 + j)) = true := by decide +kernel
theorem ck_a_253 : ∀ pc, pc < 26 → ck_at 253 pc = true := by
  intro pc h
  by_cases h0 : pc < 26
  · have := List.all_eq_true.mp ck_a_253_0 (pc - 0) (List.mem_range.mpr (by omega))
    rwa [show 0 + (pc - 0) = pc by omega] at this
  omega
theorem ck_a_254_0 : (List.range 80).all (fun j => ck_at 254 (0 + j)) = true := by decide +kernel
theorem ck_a_254_80 : (List.range 59).all (fun j => ck_at 254 (80 + j)) = true := by decide +kernel
theorem ck_a_254 : ∀ pc, pc < 139 → ck_at 254 pc = true := by
  intro pc h
  by_cases h0 : pc < 80
  · have := List.all_eq_true.mp ck_a_254_0 (pc - 0) (List.mem_range.mpr (by omega))
    rwa [show 0 + (pc - 0) = pc by omega] at this
  by_cases h80 : pc < 139
  · have := List.all_eq_true.mp ck_a_254_80 (pc - 80) (List.mem_range.mpr (by omega))
    rwa [show 80 + (pc - 80) = pc by omega] at this
  omega
theorem ck_a_255_0 : (List.range 65).all (fun j => ck_at 255 (0 + j)) = true := by decide +kernel
theorem ck_a_255 : ∀ pc, pc < 65 → ck_at 255 pc = true := by
  intro pc h
  by_cases h0 : pc < 65
  · have := List.all_eq_true.mp ck_a_255_0 (pc - 0) (List.mem_range.mpr (by omega))
    rwa [show 0 + (pc - 0) = pc by omega] at this
  omega
theorem ck_a_256_0 : (List.range 80).all (fun j => ck_at 256 (0 + j)) = true := by decide +kernel
theorem ck_a_256_80 : (List.range 17).all (fun j => ck_at 256 (80 + j)) = true := by decide +kernel
theorem ck_a_256 : ∀ pc, pc < 97 → ck_at 256 pc = true := by
  intro pc h
  by_cases h0 : pc < 80
  · have := List.all_eq_true.mp ck_a_256_0 (pc - 0) (List.mem_range.mpr (by omega))
    rwa [show 0 + (pc - 0) = pc by omega] at this
  by_cases h80 : pc < 97
  · have := List.all_eq_true.mp ck_a_256_80 (pc - 80) (List.mem_range.mpr (by omega))
    rwa [show 80 + (pc - 80) = pc by omega] at this
  omega
theorem ck_a_257_0 : (List.range 77).all (fun j => ck_at 257 (0 + j)) = true := by decide +kernel
theorem ck_a_257 : ∀ pc, pc < 77 → ck_at 257 pc = true := by
  intro pc h
  by_cases h0 : pc < 77
  · have := List.all_eq_true.mp ck_a_257_0 (pc - 0) (List.mem_range.mpr (by omega))
    rwa [show 0 + (pc - 0) = pc by omega] at this
  omega
theorem ck_a_258_0 : (List.range 28).all (fun j => ck_at 258 (0 + j)) = true := by decide +kernel
theorem ck_a_258 : ∀ pc, pc < 28 → ck_at 258 pc = true := by
  intro pc h
  by_cases h0 : pc < 28
  · have := List.all_eq_true.mp ck_a_258_0 (pc - 0) (List.mem_range.mpr (by omega))
    rwa [show 0 + (pc - 0) = pc by omega] at this
  omega
theorem ck_a_259_0 : (List.range 78).all (fun j => ck_at 259 (0 + j)) = true := by decide +kernel
theorem ck_a_259 : ∀ pc, pc < 78 → ck_at 259 pc = true := by
  intro pc h
  by_cases h0 : pc < 78
  · have := List.all_eq_true.mp ck_a_259_0 (pc - 0) (List.mem_range.mpr (by omega))
    rwa [show 0 + (pc - 0) = pc by omega] at this
  omega
theorem ck_a_260_0 : (List.range 57).all (fun j => ck_at 260 (0 + j)) = true := by decide +kernel
theorem ck_a_260 : ∀ pc, pc < 57 → ck_at 260 pc = true := by
  intro pc h
  by_cases h0 : pc < 57
  · have := List.all_eq_true.mp ck_a_260_0 (pc - 0) (List.mem_range.mpr (by omega))
    rwa [show 0 + (pc - 0) = pc by omega] at this
  omega
theorem ck_a_261_0 : (List.range 20).all (fun j => ck_at 261 (0 + j)) = true := by decide +kernel
theorem ck_a_261 : ∀ pc, pc < 20 → ck_at 261 pc = true := by
  intro pc h
  by_cases h0 : pc < 20
  · have := List.all_eq_true.mp ck_a_261_0 (pc - 0) (List.mem_range.mpr (by omega))
    rwa [show 0 + (pc - 0) = pc by omega] at this
  omega
theorem ck_a_262_0 : (List.range 60).all (fun j => ck_at 262 (0 + j)) = true := by decide +kernel
theorem ck_a_262 : ∀ pc, pc < 60 → ck_at 262 pc = true := by
  intro pc h
  by_cases h0 : pc < 60
  · have := List.all_eq_true.mp ck_a_262_0 (pc - 0) (List.mem_range.mpr (by omega))
    rwa [show 0 + (pc - 0) = pc by omega] at this
  omega
theorem ck_a_263_0 : (List.range 54).all (fun j => ck_at 263 (0 + j)) = true := by decide +kernel
theorem ck_a_263 : ∀ pc, pc < 54 → ck_at 263 pc = true := by
  intro pc h
  by_cases h0 : pc < 54
  · have := List.all_eq_true.mp ck_a_263_0 (pc - 0) (List.mem_range.mpr (by omega))
    rwa [show 0 + (pc - 0) = pc by omega] at this
  omega
theorem ck_a_264_0 : (List.range 32).all (fun j => ck_at 264 (0 + j)) = true := by decide +kernel
theorem ck_a_264 : ∀ pc, pc < 32 → ck_at 264 pc = true := by
  intro pc h
  by_cases h0 : pc < 32
  · have := List.all_eq_true.mp ck_a_264_0 (pc - 0) (List.mem_range.mpr (by omega))
    rwa [show 0 + (pc - 0) = pc by omega] at this
  omega
theorem ck_a_265_0 : (List.range 32).all (fun j => ck_at 265 (0 + j)) = true := by decide +kernel
theorem ck_a_265 : ∀ pc, pc < 32 → ck_at 265 pc = true := by
  intro pc h
  by_cases h0 : pc < 32
  · have := List.all_eq_true.mp ck_a_265_0 (pc - 0) (List.mem_range.mpr (by omega))
    rwa [show 0 + (pc - 0) = pc by omega] at this
  omega
theorem ck_a_266_0 : (List.range 56).all (fun j => ck_at 266 (0 + j)) = true := by decide +kernel
theorem ck_a_266 : ∀ pc, pc < 56 → ck_at 266 pc = true := by
  intro pc h
  by_cases h0 : pc < 56
  · have := List.all_eq_true.mp ck_a_266_0 (pc - 0) (List.mem_range.mpr (by omega))
    rwa [show 0 + (pc - 0) = pc by omega] at this
  omega
theorem ck_a_267_0 : (List.range 68).all (fun j => ck_at 267 (0 + j)) = true := by decide +kernel
theorem ck_a_267 : ∀ pc, pc < 68 → ck_at 267 pc = true := by
  intro pc h
  by_cases h0 : pc < 68
  · have := List.all_eq_true.mp ck_a_267_0 (pc - 0) (List.mem_range.mpr (by omega))
    rwa [show 0 + (pc - 0) = pc by omega] at this
  omega
theorem ck_a_268_0 : (List.range 20).all (fun j => ck_at 268 (0 + j)) = true := by decide +kernel
theorem ck_a_268 : ∀ pc, pc < 20 → ck_at 268 pc = true := by
  intro pc h
  by_cases h0 : pc < 20
  · have := List.all_eq_true.mp ck_a_268_0 (pc - 0) (List.mem_range.mpr (by omega))
    rwa [show 0 + (pc - 0) = pc by omega] at this
  omega
theorem ck_a_269_0 : (List.range 29).all (fun j => ck_at 269 (0 + j)) = true := by decide +kernel
theorem ck_a_269 : ∀ pc, pc < 29 → ck_at 269 pc = true := by
  intro pc h
  by_cases h0 : pc < 29
  · have := List.all_eq_true.mp ck_a_269_0 (pc - 0) (List.mem_range.mpr (by omega))
    rwa [show 0 + (pc - 0) = pc by omega] at this
  omega
theorem ck_a_270_0 : (List.range 80).all (fun j => ck_at 270 (0 + j)) = true := by decide +kernel
theorem ck_a_270_80 : (List.range 15).all (fun j => ck_at 270 (80 + j)) = true := by decide +kernel
theorem ck_a_270 : ∀ pc, pc < 95 → ck_at 270 pc = true := by
  intro pc h
  by_cases h0 : pc < 80
  · have := List.all_eq_true.mp ck_a_270_0 (pc - 0) (List.mem_range.mpr (by omega))
    rwa [show 0 + (pc - 0) = pc by omega] at this
  by_cases h80 : pc < 95
  · have := List.all_eq_true.mp ck_a_270_80 (pc - 80) (List.mem_range.mpr (by omega))
    rwa [show 80 + (pc - 80) = pc by omega] at this
  omega
theorem ck_a_271_0 : (List.range 31).all (fun j => ck_at 271 (0 + j)) = true := by decide +kernel
theorem ck_a_271 : ∀ pc, pc < 31 → ck_at 271 pc = true := by
  intro pc h
  by_cases h0 : pc < 31
  · have := List.all_eq_true.mp ck_a_271_0 (pc - 0) (List.mem_range.mpr (by omega))
    rwa [show 0 + (pc - 0) = pc by omega] at this
  omega
theorem ck_a_272_0 : (List.range 80).all (fun j => ck_at 272 (0 + j)) = true := by decide +kernel
theorem ck_a_272_80 : (List.range 80).all (fun j => ck_at 272 (80 + j)) = true := by decide +kernel
theorem ck_a_272_160 : (List.range 27).all (fun j => ck_at 272 (160 + j)) = true := by decide +kernel
theorem ck_a_272 : ∀ pc, pc < 187 → ck_at 272 pc = true := by
  intro pc h
  by_cases h0 : pc < 80
  · have := List.all_eq_true.mp ck_a_272_0 (pc - 0) (List.mem_range.mpr (by omega))
    rwa [show 0 + (pc - 0) = pc by omega] at this
  by_cases h80 : pc < 160
  · have := List.all_eq_true.mp ck_a_272_80 (pc - 80) (List.mem_range.mpr (by omega))
    rwa [show 80 + (pc - 80) = pc by omega] at this
  by_cases h160 : pc < 187
  · have := List.all_eq_true.mp ck_a_272_160 (pc - 160) (List.mem_range.mpr (by omega))
    rwa [show 160 + (pc - 160) = pc by omega] at this
  omega
theorem ck_a_273_0 : (List.range 80).all (fun j => ck_at 273 (0 + j)) = true := by decide +kernel
theorem ck_a_273_80 : (List.range 80).all (fun j => ck_at 273 (80 + j)) = true := by decide +kernel
theorem ck_a_273_160 : (List.range 27).all (fun j => ck_at 273 (160 + j)) = true := by decide +kernel
theorem ck_a_273 : ∀ pc, pc < 187 → ck_at 273 pc = true := by
  intro pc h
  by_cases h0 : pc < 80
  · have := List.all_eq_true.mp ck_a_273_0 (pc - 0) (List.mem_range.mpr (by omega))
    rwa [show 0 + (pc - 0) = pc by omega] at this
  by_cases h80 : pc < 160
  · have := List.all_eq_true.mp ck_a_273_80 (pc - 80) (List.mem_range.mpr (by omega))
    rwa [show 80 + (pc - 80) = pc by omega] at this
  by_cases h160 : pc < 187
  · have := List.all_eq_true.mp ck_a_273_160 (pc - 160) (List.mem_range.mpr (by omega))
    rwa [show 160 + (pc - 160) = pc by omega] at this
  omega
theorem ck_a_274_0 : (List.range 66).all (fun j => ck_at 274 (0 + j)) = true := by decide +kernel
theorem ck_a_274 : ∀ pc, pc < 66 → ck_at 274 pc = true := by
  intro pc h
  by_cases h0 : pc < 66
  · have := List.all_eq_true.mp ck_a_274_0 (pc - 0) (List.mem_range.mpr (by omega))
    rwa [show 0 + (pc - 0) = pc by omega] at this
  omega
theorem ck_a_275_0 : (List.range 80).all (fun j => ck_at 275 (0 + j)) = true := by decide +kernel
theorem ck_a_275_80 : (List.range 80).all (fun j => ck_at 275 (80 + j)) = true := by decide +kernel
theorem ck_a_275_160 : (List.range 80).all (fun j => ck_at 275 (160 + j)) = true := by decide +kernel
theorem ck_a_275_240 : (List.range 29).all (fun j => ck_at 275 (240 + j)) = true := by decide +kernel
theorem ck_a_275 : ∀ pc, pc < 269 → ck_at 275 pc = true := by
  intro pc h
  by_cases h0 : pc < 80
  · have := List.all_eq_true.mp ck_a_275_0 (pc - 0) (List.mem_range.mpr (by omega))
    rwa [show 0 + (pc - 0) = pc by omega] at this
  by_cases h80 : pc < 160
  · have := List.all_eq_true.mp ck_a_275_80 (pc - 80) (List.mem_range.mpr (by omega))
    rwa [show 80 + (pc - 80) = pc by omega] at this
  by_cases h160 : pc < 240
  · have := List.all_eq_true.mp ck_a_275_160 (pc - 160) (List.mem_range.mpr (by omega))
    rwa [show 160 + (pc - 160) = pc by omega] at this
  by_cases h240 : pc < 269
  · have := List.all_eq_true.mp ck_a_275_240 (pc - 240) (List.mem_range.mpr (by omega))
    rwa [show 240 + (pc - 240) = pc by omega] at this
  omega
theorem ck_a_276_0 : (List.range 27).all (fun j => ck_at 276 (0 + j)) = true := by decide +kernel
theorem ck_a_276 : ∀ pc, pc < 27 → ck_at 276 pc = true := by
  intro pc h
  by_cases h0 : pc < 27
  · have := List.all_eq_true.mp ck_a_276_0 (pc - 0) (List.mem_range.mpr (by omega))
    rwa [show 0 + (pc - 0) = pc by omega] at this
  omega
theorem ck_a_277_0 : (List.range 80).all (fun j => ck_at 277 (0 + j)) = true := by decide +kernel
theorem ck_a_277_80 : (List.range 36).all (fun j => ck_at 277 (80 + j)) = true := by decide +kernel
theorem ck_a_277 : ∀ pc, pc < 116 → ck_at 277 pc = true := by
  intro pc h
  by_cases h0 : pc < 80
  · have := List.all_eq_true.mp ck_a_277_0 (pc - 0) (List.mem_range.mpr (by omega))
    rwa [show 0 + (pc - 0) = pc by omega] at this
  by_cases h80 : pc < 116
  · have := List.all_eq_true.mp ck_a_277_80 (pc - 80) (List.mem_range.mpr (by omega))
    rwa [show 80 + (pc - 80) = pc by omega] at this
  omega
theorem ck_a_278_0 : (List.range 80).all (fun j => ck_at 278 (0 + j)) = true := by decide +kernel
theorem ck_a_278_80 : (List.range 16).all (fun j => ck_at 278 (80 + j)) = true := by decide +kernel
theorem ck_a_278 : ∀ pc, pc < 96 → ck_at 278 pc = true := by
  intro pc h
  by_cases h0 : pc < 80
  · have := List.all_eq_true.mp ck_a_278_0 (pc - 0) (List.mem_range.mpr (by omega))
    rwa [show 0 + (pc - 0) = pc by omega] at this
  by_cases h80 : pc < 96
  · have := List.all_eq_true.mp ck_a_278_80 (pc - 80) (List.mem_range.mpr (by omega))
    rwa [show 80 + (pc - 80) = pc by omega] at this
  omega
theorem ck_a_279_0 : (List.range 71).all (fun j => ck_at 279 (0 + j)) = true := by decide +kernel
theorem ck_a_279 : ∀ pc, pc < 71 → ck_at 279 pc = true := by
  intro pc h
  by_cases h0 : pc < 71
  · have := List.all_eq_true.mp ck_a_279_0 (pc - 0) (List.mem_range.mpr (by omega))
    rwa [show 0 + (pc - 0) = pc by omega] at this
  omega
theorem ck_a_280_0 : (List.range 65).all (fun j => ck_at 280 (0 + j)) = true := by decide +kernel
theorem ck_a_280 : ∀ pc, pc < 65 → ck_at 280 pc = true := by
  intro pc h
  by_cases h0 : pc < 65
  · have := List.all_eq_true.mp ck_a_280_0 (pc - 0) (List.mem_range.mpr (by omega))
    rwa [show 0 + (pc - 0) = pc by omega] at this
  omega
theorem ck_a_281_0 : (List.range 80).all (fun j => ck_at 281 (0 + j)) = true := by decide +kernel
theorem ck_a_281_80 : (List.range 5).all (fun j => ck_at 281 (80 + j)) = true := by decide +kernel
theorem ck_a_281 : ∀ pc, pc < 85 → ck_at 281 pc = true := by
  intro pc h
  by_cases h0 : pc < 80
  · have := List.all_eq_true.mp ck_a_281_0 (pc - 0) (List.mem_range.mpr (by omega))
    rwa [show 0 + (pc - 0) = pc by omega] at this
  by_cases h80 : pc < 85
  · have := List.all_eq_true.mp ck_a_281_80 (pc - 80) (List.mem_range.mpr (by omega))
    rwa [show 80 + (pc - 80) = pc by omega] at this
  omega
theorem ck_a_282_0 : (List.range 80).all (fun j => ck_at 282 (0 + j)) = true := by decide +kernel
theorem ck_a_282_80 : (List.range 69).all (fun j => ck_at 282 (80 + j)) = true := by decide +kernel
theorem ck_a_282 : ∀ pc, pc < 149 → ck_at 282 pc = true := by
  intro pc h
  by_cases h0 : pc < 80
  · have := List.all_eq_true.mp ck_a_282_0 (pc - 0) (List.mem_range.mpr (by omega))
    rwa [show 0 + (pc - 0) = pc by omega] at this
  by_cases h80 : pc < 149
  · have := List.all_eq_true.mp ck_a_282_80 (pc - 80) (List.mem_range.mpr (by omega))
    rwa [show 80 + (pc - 80) = pc by omega] at this
  omega
theorem ck_a_283_0 : (List.range 27).all (fun j => ck_at 283 (0 + j)) = true := by decide +kernel
theorem ck_a_283 : ∀ pc, pc < 27 → ck_at 283 pc = true := by
  intro pc h
  by_cases h0 : pc < 27
  · have := List.all_eq_true.mp ck_a_283_0 (pc - 0) (List.mem_range.mpr (by omega))
    rwa [show 0 + (pc - 0) = pc by omega] at this
  omega
theorem ck_a_284_0 : (List.range 13).all (fun j => ck_at 284 (0 + j)) = true := by decide +kernel
theorem ck_a_284 : ∀ pc, pc < 13 → ck_at 284 pc = true := by
  intro pc h
  by_cases h0 : pc < 13
  · have := List.all_eq_true.mp ck_a_284_0 (pc - 0) (List.mem_range.mpr (by omega))
    rwa [show 0 + (pc - 0) = pc by omega] at this
  omega
theorem ck_a_285_0 : (List.range 27).all (fun j => ck_at 285 (0 + j)) = true := by decide +kernel
theorem ck_a_285 : ∀ pc, pc < 27 → ck_at 285 pc = true := by
  intro pc h
  by_cases h0 : pc < 27
  · have := List.all_eq_true.mp ck_a_285_0 (pc - 0) (List.mem_range.mpr (by omega))
    rwa [show 0 + (pc - 0) = pc by omega] at this
  omega
theorem ck_a_286_0 : (List.range 69).all (fun j => ck_at 286 (0 + j)) = true := by decide +kernel
theorem ck_a_286 : ∀ pc, pc < 69 → ck_at 286 pc = true := by
  intro pc h
  by_cases h0 : pc < 69
  · have := List.all_eq_true.mp ck_a_286_0 (pc - 0) (List.mem_range.mpr (by omega))
    rwa [show 0 + (pc - 0) = pc by omega] at this
  omega
theorem ck_a_287_0 : (List.range 52).all (fun j => ck_at 287 (0 + j)) = true := by decide +kernel
theorem ck_a_287 : ∀ pc, pc < 52 → ck_at 287 pc = true := by
  intro pc h
  by_cases h0 : pc < 52
  · have := List.all_eq_true.mp ck_a_287_0 (pc - 0) (List.mem_range.mpr (by omega))
    rwa [show 0 + (pc - 0) = pc by omega] at this
  omega
theorem ck_a_288_0 : (List.range 80).all (fun j => ck_at 288 (0 + j)) = true := by decide +kernel
theorem ck_a_288_80 : (List.range 5).all (fun j => ck_at 288 (80 + j)) = true := by decide +kernel
theorem ck_a_288 : ∀ pc, pc < 85 → ck_at 288 pc = true := by
  intro pc h
  by_cases h0 : pc < 80
  · have := List.all_eq_true.mp ck_a_288_0 (pc - 0) (List.mem_range.mpr (by omega))
    rwa [show 0 + (pc - 0) = pc by omega] at this
  by_cases h80 : pc < 85
  · have := List.all_eq_true.mp ck_a_288_80 (pc - 80) (List.mem_range.mpr (by omega))
    rwa [show 80 + (pc - 80) = pc by omega] at this
  omega
theorem ck_a_289_0 : (List.range 27).all (fun j => ck_at 289 (0 + j)) = true := by decide +kernel
theorem ck_a_289 : ∀ pc, pc < 27 → ck_at 289 pc = true := by
  intro pc h
  by_cases h0 : pc < 27
  · have := List.all_eq_true.mp ck_a_289_0 (pc - 0) (List.mem_range.mpr (by omega))
    rwa [show 0 + (pc - 0) = pc by omega] at this
  omega
theorem ck_a_290_0 : (List.range 80).all (fun j => ck_at 290 (0 + j)) = true := by decide +kernel
theorem ck_a_290_80 : (List.range 20).all (fun j => ck_at 290 (80 + j)) = true := by decide +kernel
theorem ck_a_290 : ∀ pc, pc < 100 → ck_at 290 pc = true := by
  intro pc h
  by_cases h0 : pc < 80
  · have := List.all_eq_true.mp ck_a_290_0 (pc - 0) (List.mem_range.mpr (by omega))
    rwa [show 0 + (pc - 0) = pc by omega] at this
  by_cases h80 : pc < 100
  · have := List.all_eq_true.mp ck_a_290_80 (pc - 80) (List.mem_range.mpr (by omega))
    rwa [show 80 + (pc - 80) = pc by omega] at this
  omega
theorem ck_a_291_0 : (List.range 80).all (fun j => ck_at 291 (0 + j)) = true := by decide +kernel
theorem ck_a_291_80 : (List.range 44).all (fun j => ck_at 291 (80 + j)) = true := by decide +kernel
theorem ck_a_291 : ∀ pc, pc < 124 → ck_at 291 pc = true := by
  intro pc h
  by_cases h0 : pc < 80
  · have := List.all_eq_true.mp ck_a_291_0 (pc - 0) (List.mem_range.mpr (by omega))
    rwa [show 0 + (pc - 0) = pc by omega] at this
  by_cases h80 : pc < 124
  · have := List.all_eq_true.mp ck_a_291_80 (pc - 80) (List.mem_range.mpr (by omega))
    rwa [show 80 + (pc - 80) = pc by omega] at this
  omega
theorem ck_a_292_0 : (List.range 56).all (fun j => ck_at 292 (0 + j)) = true := by decide +kernel
theorem ck_a_292 : ∀ pc, pc < 56 → ck_at 292 pc = true := by
  intro pc h
  by_cases h0 : pc < 56
  · have := List.all_eq_true.mp ck_a_292_0 (pc - 0) (List.mem_range.mpr (by omega))
    rwa [show 0 + (pc - 0) = pc by omega] at this
  omega
theorem ck_a_293_0 : (List.range 50).all (fun j => ck_at 293 (0 + j)) = true := by decide +kernel
theorem ck_a_293 : ∀ pc, pc < 50 → ck_at 293 pc = true := by
  intro pc h
  by_cases h0 : pc < 50
  · have := List.all_eq_true.mp ck_a_293_0 (pc - 0) (List.mem_range.mpr (by omega))
    rwa [show 0 + (pc - 0) = pc by omega] at this
  omega
theorem ck_a_294_0 : (List.range 52).all (fun j => ck_at 294 (0 + j)) = true := by decide +kernel
theorem ck_a_294 : ∀ pc, pc < 52 → ck_at 294 pc = true := by
  intro pc h
  by_cases h0 : pc < 52
  · have := List.all_eq_true.mp ck_a_294_0 (pc - 0) (List.mem_range.mpr (by omega))
    rwa [show 0 + (pc - 0) = pc by omega] at this
  omega
theorem ck_a_295_0 : (List.range 48).all (fun j => ck_at 295 (0 + j)) = true := by decide +kernel
theorem ck_a_295 : ∀ pc, pc < 48 → ck_at 295 pc = true := by
  intro pc h
  by_cases h0 : pc < 48
  · have := List.all_eq_true.mp ck_a_295_0 (pc - 0) (List.mem_range.mpr (by omega))
    rwa [show 0 + (pc - 0) = pc by omega] at this
  omega
theorem ck_a_296_0 : (List.range 66).all (fun j => ck_at 296 (0 + j)) = true := by decide +kernel
theorem ck_a_296 : ∀ pc, pc < 66 → ck_at 296 pc = true := by
  intro pc h
  by_cases h0 : pc < 66
  · have := List.all_eq_true.mp ck_a_296_0 (pc - 0) (List.mem_range.mpr (by omega))
    rwa [show 0 + (pc - 0) = pc by omega] at this
  omega
theorem ck_a_297_0 : (List.range 40).all (fun j => ck_at 297 (0 + j)) = true := by decide +kernel
theorem ck_a_297 : ∀ pc, pc < 40 → ck_at 297 pc = true := by
  intro pc h
  by_cases h0 : pc < 40
  · have := List.all_eq_true.mp ck_a_297_0 (pc - 0) (List.mem_range.mpr (by omega))
    rwa [show 0 + (pc - 0) = pc by omega] at this
  omega
theorem ck_a_298_0 : (List.range 80).all (fun j => ck_at 298 (0 + j)) = true := by decide +kernel
theorem ck_a_298_80 : (List.range 80).all (fun j => ck_at 298 (80 + j)) = true := by decide +kernel
theorem ck_a_298_160 : (List.range 17).all (fun j => ck_at 298 (160 + j)) = true := by decide +kernel
theorem ck_a_298 : ∀ pc, pc < 177 → ck_at 298 pc = true := by
  intro pc h
  by_cases h0 : pc < 80
  · have := List.all_eq_true.mp ck_a_298_0 (pc - 0) (List.mem_range.mpr (by omega))
    rwa [show 0 + (pc - 0) = pc by omega] at this
  by_cases h80 : pc < 160
  · have := List.all_eq_true.mp ck_a_298_80 (pc - 80) (List.mem_range.mpr (by omega))
    rwa [show 80 + (pc - 80) = pc by omega] at this
  by_cases h160 : pc < 177
  · have := List.all_eq_true.mp ck_a_298_160 (pc - 160) (List.mem_range.mpr (by omega))
    rwa [show 160 + (pc - 160) = pc by omega] at this
  omega
theorem ck_a_299_0 : (List.range 49).all (fun j => ck_at 299 (0 + j)) = true := by decide +kernel
theorem ck_a_299 : ∀ pc, pc < 49 → ck_at 299 pc = true := by
  intro pc h
  by_cases h0 : pc < 49
  · have := List.all_eq_true.mp ck_a_299_0 (pc - 0) (List.mem_range.mpr (by omega))
    rwa [show 0 + (pc - 0) = pc by omega] at this
  omega
theorem ck_a_300_0 : (List.range 49).all (fun j => ck_at 300 (0 + j)) = true := by decide +kernel
theorem ck_a_300 : ∀ pc, pc < 49 → ck_at 300 pc = true := by
  intro pc h
  by_cases h0 : pc < 49
  · have := List.all_eq_true.mp ck_a_300_0 (pc - 0) (List.mem_range.mpr (by omega))
    rwa [show 0 + (pc - 0) = pc by omega] at this
  omega
theorem ck_a_301_0 : (List.range 80).all (fun j => ck_at 301 (0 + j)) = true := by decide +kernel
theorem ck_a_301_80 : (List.range 40).all (fun j => ck_at 301 (80 + j)) = true := by decide +kernel
theorem ck_a_301 : ∀ pc, pc < 120 → ck_at 301 pc = true := by
  intro pc h
  by_cases h0 : pc < 80
  · have := List.all_eq_true.mp ck_a_301_0 (pc - 0) (List.mem_range.mpr (by omega))
    rwa [show 0 + (pc - 0) = pc by omega] at this
  by_cases h80 : pc < 120
  · have := List.all_eq_true.mp ck_a_301_80 (pc - 80) (List.mem_range.mpr (by omega))
    rwa [show 80 + (pc - 80) = pc by omega] at this
  omega
theorem ck_a_302_0 : (List.range 53).all (fun j => ck_at 302 (0 + j)) = true := by decide +kernel
theorem ck_a_302 : ∀ pc, pc < 53 → ck_at 302 pc = true := by
  intro pc h
  by_cases h0 : pc < 53
  · have := List.all_eq_true.mp ck_a_302_0 (pc - 0) (List.mem_range.mpr (by omega))
    rwa [show 0 + (pc - 0) = pc by omega] at this
  omega
theorem ck_a_303_0 : (List.range 30).all (fun j => ck_at 303 (0 + j)) = true := by decide +kernel
theorem ck_a_303 : ∀ pc, pc < 30 → ck_at 303 pc = true := by
  intro pc h
  by_cases h0 : pc < 30
  · have := List.all_eq_true.mp ck_a_303_0 (pc - 0) (List.mem_range.mpr (by omega))
    rwa [show 0 + (pc - 0) = pc by omega] at this
  omega
theorem ck_a_304_0 : (List.range 20).all (fun j => ck_at 304 (0 + j)) = true := by decide +kernel
theorem ck_a_304 : ∀ pc, pc < 20 → ck_at 304 pc = true := by
  intro pc h
  by_cases h0 : pc < 20
  · have := List.all_eq_true.mp ck_a_304_0 (pc - 0) (List.mem_range.mpr (by omega))
    rwa [show 0 + (pc - 0) = pc by omega] at this
  omega
theorem ck_a_305_0 : (List.range 11).all (fun j => ck_at 305 (0 + j)) = true := by decide +kernel
theorem ck_a_305 : ∀ pc, pc < 11 → ck_at 305 pc = true := by
  intro pc h
  by_cases h0 : pc < 11
  · have := List.all_eq_true.mp ck_a_305_0 (pc - 0) (List.mem_range.mpr (by omega))
    rwa [show 0 + (pc - 0) = pc by omega] at this
  omega
theorem ck_a_306_0 : (List.range 11).all (fun j => ck_at 306 (0 + j)) = true := by decide +kernel
theorem ck_a_306 : ∀ pc, pc < 11 → ck_at 306 pc = true := by
  intro pc h
  by_cases h0 : pc < 11
  · have := List.all_eq_true.mp ck_a_306_0 (pc - 0) (List.mem_range.mpr (by omega))
    rwa [show 0 + (pc - 0) = pc by omega] at this
  omega
theorem ck_a_307_0 : (List.range 12).all (fun j => ck_at 307 (0 + j)) = true := by decide +kernel
theorem ck_a_307 : ∀ pc, pc < 12 → ck_at 307 pc = true := by
  intro pc h
  by_cases h0 : pc < 12
  · have := List.all_eq_true.mp ck_a_307_0 (pc - 0) (List.mem_range.mpr (by omega))
    rwa [show 0 + (pc - 0) = pc by omega] at this
  omega
theorem ck_a_308_0 : (List.range 11).all (fun j => ck_at 308 (0 + j)) = true := by decide +kernel
theorem ck_a_308 : ∀ pc, pc < 11 → ck_at 308 pc = true := by
  intro pc h
  by_cases h0 : pc < 11
  · have := List.all_eq_true.mp ck_a_308_0 (pc - 0) (List.mem_range.mpr (by omega))
    rwa [show 0 + (pc - 0) = pc by omega] at this
  omega
theorem ck_a_309_0 : (List.range 12).all (fun j => ck_at 309 (0 + j)) = true := by decide +kernel
theorem ck_a_309 : ∀ pc, pc < 12 → ck_at 309 pc = true := by
  intro pc h
  by_cases h0 : pc < 12
  · have := List.all_eq_true.mp ck_a_309_0 (pc - 0) (List.mem_range.mpr (by omega))
    rwa [show 0 + (pc - 0) = pc by omega] at this
  omega
theorem ck_a_310 : ∀ pc, pc < 0 → ck_at 310 pc = true := by
  intro pc h
  omega
theorem ck_a_311_0 : (List.range 80).all (fun j => ck_at 311 (0 + j)) = true := by decide +kernel
theorem ck_a_311_80 : (List.range 80).all (fun j => ck_at 311 (80 + j)) = true := by decide +kernel
theorem ck_a_311_160 : (List.range 80).all (fun j => ck_at 311 (160 + j)) = true := by decide +kernel
theorem ck_a_311_240 : (List.range 80).all (fun j => ck_at 311 (240 + j)) = true := by decide +kernel
theorem ck_a_311_320 : (List.range 80).all (fun j => ck_at 311 (320 + j)) = true := by decide +kernel
theorem ck_a_311_400 : (List.range 80).all (fun j => ck_at 311 (400 + j)) = true := by decide +kernel
theorem ck_a_311_480 : (List.range 80).all (fun j => ck_at 311 (480 + j)) = true := by decide +kernel
theorem ck_a_311_560 : (List.range 80).all (fun j => ck_at 311 (560 + j)) = true := by decide +kernel
theorem ck_a_311_640 : (List.range 80).all (fun j => ck_at 311 (640 + j)) = true := by decide +kernel
theorem ck_a_311_720 : (List.range 80).all (fun j => ck_at 311 (720 + j)) = true := by decide +kernel
theorem ck_a_311_800 : (List.range 80).all (fun j => ck_at 311 (800 + j)) = true := by decide +kernel
theorem ck_a_311_880 : (List.range 80).all (fun j => ck_at 311 (880 + j)) = true := by decide +kernel
theorem ck_a_311_960 : (List.range 80).all (fun j => ck_at 311 (960 + j)) = true := by decide +kernel
theorem ck_a_311_1040 : (List.range 80).all (fun j => ck_at 311 (1040 + j)) = true := by decide +kernel
theorem ck_a_311_1120 : (List.range 80).all (fun j => ck_at 311 (1120 + j)) = true := by decide +kernel
theorem ck_a_311_1200 : (List.range 80).all (fun j => ck_at 311 (1200 + j)) = true := by decide +kernel
theorem ck_a_311_1280 : (List.range 80).all (fun j => ck_at 311 (1280 + j)) = true := by decide +kernel
theorem ck_a_311_1360 : (List.range 80).all (fun j => ck_at 311 (1360 + j)) = true := by decide +kernel
theorem ck_a_311_1440 : (List.range 80).all (fun j => ck_at 311 (1440 + j)) = true := by decide +kernel
theorem ck_a_311_1520 : (List.range 80).all (fun j => ck_at 311 (1520 + j)) = true := by decide +kernel
theorem ck_a_311_1600 : (List.range 3).all (fun j => ck_at 311 (1600 + j)) = true := by decide +kernel
theorem ck_a_311 : ∀ pc, pc < 1603 → ck_at 311 pc = true := by
  intro pc h
  by_cases h0 : pc < 80
  · have := List.all_eq_true.mp ck_a_311_0 (pc - 0) (List.mem_range.mpr (by omega))
    rwa [show 0 + (pc - 0) = pc by omega] at this
  by_cases h80 : pc < 160
  · have := List.all_eq_true.mp ck_a_311_80 (pc - 80) (List.mem_range.mpr (by omega))
    rwa [show 80 + (pc - 80) = pc by omega] at this
  by_cases h160 : pc < 240
  · have := List.all_eq_true.mp ck_a_311_160 (pc - 160) (List.mem_range.mpr (by omega))
    rwa [show 160 + (pc - 160) = pc by omega] at this
  by_cases h240 : pc < 320
  · have := List.all_eq_true.mp ck_a_311_240 (pc - 240) (List.mem_range.mpr (by omega))
    rwa [show 240 + (pc - 240) = pc by omega] at this
  by_cases h320 : pc < 400
  · have := List.all_eq_true.mp ck_a_311_320 (pc - 320) (List.mem_range.mpr (by omega))
    rwa [show 320 + (pc - 320) = pc by omega] at this
  by_cases h400 : pc < 480
  · have := List.all_eq_true.mp ck_a_311_400 (pc - 400) (List.mem_range.mpr (by omega))
    rwa [show 400 + (pc - 400) = pc by omega] at this
  by_cases h480 : pc < 560
  · have := List.all_eq_true.mp ck_a_311_480 (pc - 480) (List.mem_range.mpr (by omega))
    rwa [show 480 + (pc - 480) = pc by omega] at this
  by_cases h560 : pc < 640
  · have := List.all_eq_true.mp ck_a_311_560 (pc - 560) (List.mem_range.mpr (by omega))
    rwa [show 560 + (pc - 560) = pc by omega] at this
  by_cases h640 : pc < 720
  · have := List.all_eq_true.mp ck_a_311_640 (pc - 640) (List.mem_range.mpr (by omega))
    rwa [show 640 + (pc - 640) = pc by omega] at this
  by_cases h720 : pc < 800
  · have := List.all_eq_true.mp ck_a_311_720 (pc - 720) (List.mem_range.mpr (by omega))
    rwa [show 720 + (pc - 720) = pc by omega] at this
  by_cases h800 : pc < 880
  · have := List.all_eq_true.mp ck_a_311_800 (pc - 800) (List.mem_range.mpr (by omega))
    rwa [show 800 + (pc - 800) = pc by omega] at this
  by_cases h880 : pc < 960
  · have := List.all_eq_true.mp ck_a_311_880 (pc - 880) (List.mem_range.mpr (by omega))
    rwa [show 880 + (pc - 880) = pc by omega] at this
  by_cases h960 : pc < 1040
  · have := List.all_eq_true.mp ck_a_311_960 (pc - 960) (List.mem_range.mpr (by omega))
    rwa [show 960 + (pc - 960) = pc by omega] at this
  by_cases h1040 : pc < 1120
  · have := List.all_eq_true.mp ck_a_311_1040 (pc - 1040) (List.mem_range.mpr (by omega))
    rwa [show 1040 + (pc - 1040) = pc by omega] at this
  by_cases h1120 : pc < 1200
  · have := List.all_eq_true.mp ck_a_311_1120 (pc - 1120) (List.mem_range.mpr (by omega))
    rwa [show 1120 + (pc - 1120) = pc by omega] at this
  by_cases h1200 : pc < 1280
  · have := List.all_eq_true.mp ck_a_311_1200 (pc - 1200) (List.mem_range.mpr (by omega))
    rwa [show 1200 + (pc - 1200) = pc by omega] at this
  by_cases h1280 : pc < 1360
  · have := List.all_eq_true.mp ck_a_311_1280 (pc - 1280) (List.mem_range.mpr (by omega))
    rwa [show 1280 + (pc - 1280) = pc by omega] at this
  by_cases h1360 : pc < 1440
  · have := List.all_eq_true.mp ck_a_311_1360 (pc - 1360) (List.mem_range.mpr (by omega))
    rwa [show 1360 + (pc - 1360) = pc by omega] at this
  by_cases h1440 : pc < 1520
  · have := List.all_eq_true.mp ck_a_311_1440 (pc - 1440) (List.mem_range.mpr (by omega))
    rwa [show 1440 + (pc - 1440) = pc by omega] at this
  by_cases h1520 : pc < 1600
  · have := List.all_eq_true.mp ck_a_311_1520 (pc - 1520) (List.mem_range.mpr (by omega))
    rwa [show 1520 + (pc - 1520) = pc by omega] at this
  by_cases h1600 : pc < 1603
  · have := List.all_eq_true.mp ck_a_311_1600 (pc - 1600) (List.mem_range.mpr (by omega))
    rwa [show 1600 + (pc - 1600) = pc by omega] at this
  omega
