/-! the check of the reference's methods -/
set_option maxRecDepth 100000 in
theorem mj_k_226 : (List.range' 226 12).all mj_mck = true := by decide +kernel
set_option maxRecDepth 100000 in
theorem mj_k_238 : (List.range' 238 12).all mj_mck = true := by decide +kernel
set_option maxRecDepth 100000 in
theorem mj_k_250 : (List.range' 250 12).all mj_mck = true := by decide +kernel
set_option maxRecDepth 100000 in
theorem mj_k_262 : (List.range' 262 12).all mj_mck = true := by decide +kernel
set_option maxRecDepth 100000 in
theorem mj_k_274 : (List.range' 274 12).all mj_mck = true := by decide +kernel
set_option maxRecDepth 100000 in
theorem mj_k_286 : (List.range' 286 12).all mj_mck = true := by decide +kernel
set_option maxRecDepth 100000 in
theorem mj_k_298 : (List.range' 298 12).all mj_mck = true := by decide +kernel
set_option maxRecDepth 100000 in
theorem mj_k_310 : (List.range' 310 12).all mj_mck = true := by decide +kernel
set_option maxRecDepth 100000 in
theorem mj_k_322 : (List.range' 322 12).all mj_mck = true := by decide +kernel
set_option maxRecDepth 100000 in
theorem mj_k_334 : (List.range' 334 12).all mj_mck = true := by decide +kernel
set_option maxRecDepth 100000 in
theorem mj_k_346 : (List.range' 346 12).all mj_mck = true := by decide +kernel
set_option maxRecDepth 100000 in
theorem mj_k_358 : (List.range' 358 12).all mj_mck = true := by decide +kernel
set_option maxRecDepth 100000 in
theorem mj_k_370 : (List.range' 370 6).all mj_mck = true := by decide +kernel
set_option maxRecDepth 100000 in
theorem mj_k_376 : (List.range' 376 1).all mj_mck = true := by decide +kernel
set_option maxRecDepth 100000 in
theorem mj_k_377 : (List.range' 377 3).all mj_mck = true := by decide +kernel
set_option maxRecDepth 100000 in
theorem mj_k_380 : (List.range' 380 7).all mj_mck = true := by decide +kernel
set_option maxRecDepth 100000 in
theorem mj_k_387 : (List.range' 387 4).all mj_mck = true := by decide +kernel
set_option maxRecDepth 100000 in
theorem mj_k_391 : (List.range' 391 1).all mj_mck = true := by decide +kernel
set_option maxRecDepth 100000 in
theorem mj_f_0 : (List.range' 0 94).all mj_mfc = true := by decide +kernel
set_option maxRecDepth 100000 in
theorem mj_f_94 : (List.range' 94 94).all mj_mfc = true := by decide +kernel
set_option maxRecDepth 100000 in
theorem mj_f_188 : (List.range' 188 94).all mj_mfc = true := by decide +kernel
set_option maxRecDepth 100000 in
theorem mj_f_282 : (List.range' 282 94).all mj_mfc = true := by decide +kernel
set_option maxRecDepth 100000 in
theorem mj_f_376 : (List.range' 376 16).all mj_mfc = true := by decide +kernel
theorem mj_kall {m : Nat} (h : m < 392) : mj_mck m = true := by
  by_cases h0 : m < 12
  · exact mj_rng mj_k_0 (by omega) (by omega)
  by_cases h12 : m < 24
  · exact mj_rng mj_k_12 (by omega) (by omega)
  by_cases h24 : m < 36
  · exact mj_rng mj_k_24 (by omega) (by omega)
  by_cases h36 : m < 48
  · exact mj_rng mj_k_36 (by omega) (by omega)
  by_cases h48 : m < 52
  · exact mj_rng mj_k_48 (by omega) (by omega)
  by_cases h52 : m < 64
  · exact mj_rng mj_k_52 (by omega) (by omega)
  by_cases h64 : m < 71
  · exact mj_rng mj_k_64 (by omega) (by omega)
  by_cases h71 : m < 83
  · exact mj_rng mj_k_71 (by omega) (by omega)
  by_cases h83 : m < 85
  · exact mj_rng mj_k_83 (by omega) (by omega)
  by_cases h85 : m < 95
  · exact mj_rng mj_k_85 (by omega) (by omega)
  by_cases h95 : m < 107
  · exact mj_rng mj_k_95 (by omega) (by omega)
  by_cases h107 : m < 119
  · exact mj_rng mj_k_107 (by omega) (by omega)
  by_cases h119 : m < 121
  · exact mj_rng mj_k_119 (by omega) (by omega)
  by_cases h121 : m < 126
  · exact mj_rng mj_k_121 (by omega) (by omega)
  by_cases h126 : m < 138
  · exact mj_rng mj_k_126 (by omega) (by omega)
  by_cases h138 : m < 144
  · exact mj_rng mj_k_138 (by omega) (by omega)
  by_cases h144 : m < 147
  · exact mj_rng mj_k_144 (by omega) (by omega)
  by_cases h147 : m < 159
  · exact mj_rng mj_k_147 (by omega) (by omega)
  by_cases h159 : m < 171
  · exact mj_rng mj_k_159 (by omega) (by omega)
  by_cases h171 : m < 172
  · exact mj_rng mj_k_171 (by omega) (by omega)
  by_cases h172 : m < 184
  · exact mj_rng mj_k_172 (by omega) (by omega)
  by_cases h184 : m < 196
  · exact mj_rng mj_k_184 (by omega) (by omega)
  by_cases h196 : m < 208
  · exact mj_rng mj_k_196 (by omega) (by omega)
  by_cases h208 : m < 220
  · exact mj_rng mj_k_208 (by omega) (by omega)
  by_cases h220 : m < 226
  · exact mj_rng mj_k_220 (by omega) (by omega)
  by_cases h226 : m < 238
  · exact mj_rng mj_k_226 (by omega) (by omega)
  by_cases h238 : m < 250
  · exact mj_rng mj_k_238 (by omega) (by omega)
  by_cases h250 : m < 262
  · exact mj_rng mj_k_250 (by omega) (by omega)
  by_cases h262 : m < 274
  · exact mj_rng mj_k_262 (by omega) (by omega)
  by_cases h274 : m < 286
  · exact mj_rng mj_k_274 (by omega) (by omega)
  by_cases h286 : m < 298
  · exact mj_rng mj_k_286 (by omega) (by omega)
  by_cases h298 : m < 310
  · exact mj_rng mj_k_298 (by omega) (by omega)
  by_cases h310 : m < 322
  · exact mj_rng mj_k_310 (by omega) (by omega)
  by_cases h322 : m < 334
  · exact mj_rng mj_k_322 (by omega) (by omega)
  by_cases h334 : m < 346
  · exact mj_rng mj_k_334 (by omega) (by omega)
  by_cases h346 : m < 358
  · exact mj_rng mj_k_346 (by omega) (by omega)
  by_cases h358 : m < 370
  · exact mj_rng mj_k_358 (by omega) (by omega)
  by_cases h370 : m < 376
  · exact mj_rng mj_k_370 (by omega) (by omega)
  by_cases h376 : m < 377
  · exact mj_rng mj_k_376 (by omega) (by omega)
  by_cases h377 : m < 380
  · exact mj_rng mj_k_377 (by omega) (by omega)
  by_cases h380 : m < 387
  · exact mj_rng mj_k_380 (by omega) (by omega)
  by_cases h387 : m < 391
  · exact mj_rng mj_k_387 (by omega) (by omega)
  by_cases h391 : m < 392
  · exact mj_rng mj_k_391 (by omega) (by omega)
  omega
theorem mj_fall {m : Nat} (h : m < 392) : mj_mfc m = true := by
  by_cases h0 : m < 94
  · exact mj_rng mj_f_0 (by omega) (by omega)
  by_cases h94 : m < 188
  · exact mj_rng mj_f_94 (by omega) (by omega)
  by_cases h188 : m < 282
  · exact mj_rng mj_f_188 (by omega) (by omega)
  by_cases h282 : m < 376
  · exact mj_rng mj_f_282 (by omega) (by omega)
  by_cases h376 : m < 392
  · exact mj_rng mj_f_376 (by omega) (by omega)
  omega
