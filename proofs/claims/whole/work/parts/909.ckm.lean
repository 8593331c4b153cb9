theorem cky_240 : ckY 240 = true := by decide +kernel
set_option maxRecDepth 100000 in
theorem ckm_240_0 : ckP 240 0 64 = true := by decide +kernel
theorem cka_240 (pc : Nat) (e : aE) (h : code_ 240 pc = some e) : ckE 240 pc e = true := by
  have h0 : pc < 64 := by
    refine Nat.not_le.mp (fun hq => ?_)
    have : code_ 240 pc = none := by
      show cd_240 pc = none
      unfold cd_240
      rw [Nat.ble_eq_true_of_le hq]; rfl
    rw [this] at h; cases h
  by_cases h1 : pc < 64
  · exact ckP_ok ckm_240_0 (by omega) (by omega) h
  omega
theorem cky_241 : ckY 241 = true := by decide +kernel
set_option maxRecDepth 100000 in
theorem ckm_241_0 : ckP 241 0 64 = true := by decide +kernel
set_option maxRecDepth 100000 in
theorem ckm_241_1 : ckP 241 64 4 = true := by decide +kernel
theorem cka_241 (pc : Nat) (e : aE) (h : code_ 241 pc = some e) : ckE 241 pc e = true := by
  have h0 : pc < 68 := by
    refine Nat.not_le.mp (fun hq => ?_)
    have : code_ 241 pc = none := by
      show cd_241 pc = none
      unfold cd_241
      rw [Nat.ble_eq_true_of_le hq]; rfl
    rw [this] at h; cases h
  by_cases h1 : pc < 64
  · exact ckP_ok ckm_241_0 (by omega) (by omega) h
  by_cases h2 : pc < 68
  · exact ckP_ok ckm_241_1 (by omega) (by omega) h
  omega
theorem cky_242 : ckY 242 = true := by decide +kernel
set_option maxRecDepth 100000 in
theorem ckm_242_0 : ckP 242 0 17 = true := by decide +kernel
theorem cka_242 (pc : Nat) (e : aE) (h : code_ 242 pc = some e) : ckE 242 pc e = true := by
  have h0 : pc < 17 := by
    refine Nat.not_le.mp (fun hq => ?_)
    have : code_ 242 pc = none := by
      show cd_242 pc = none
      unfold cd_242
      rw [Nat.ble_eq_true_of_le hq]; rfl
    rw [this] at h; cases h
  by_cases h1 : pc < 17
  · exact ckP_ok ckm_242_0 (by omega) (by omega) h
  omega
theorem cky_243 : ckY 243 = true := by decide +kernel
set_option maxRecDepth 100000 in
theorem ckm_243_0 : ckP 243 0 64 = true := by decide +kernel
set_option maxRecDepth 100000 in
theorem ckm_243_1 : ckP 243 64 46 = true := by decide +kernel
theorem cka_243 (pc : Nat) (e : aE) (h : code_ 243 pc = some e) : ckE 243 pc e = true := by
  have h0 : pc < 110 := by
    refine Nat.not_le.mp (fun hq => ?_)
    have : code_ 243 pc = none := by
      show cd_243 pc = none
      unfold cd_243
      rw [Nat.ble_eq_true_of_le hq]; rfl
    rw [this] at h; cases h
  by_cases h1 : pc < 64
  · exact ckP_ok ckm_243_0 (by omega) (by omega) h
  by_cases h2 : pc < 110
  · exact ckP_ok ckm_243_1 (by omega) (by omega) h
  omega
theorem cky_244 : ckY 244 = true := by decide +kernel
set_option maxRecDepth 100000 in
theorem ckm_244_0 : ckP 244 0 27 = true := by decide +kernel
theorem cka_244 (pc : Nat) (e : aE) (h : code_ 244 pc = some e) : ckE 244 pc e = true := by
  have h0 : pc < 27 := by
    refine Nat.not_le.mp (fun hq => ?_)
    have : code_ 244 pc = none := by
      show cd_244 pc = none
      unfold cd_244
      rw [Nat.ble_eq_true_of_le hq]; rfl
    rw [this] at h; cases h
  by_cases h1 : pc < 27
  · exact ckP_ok ckm_244_0 (by omega) (by omega) h
  omega
theorem cky_245 : ckY 245 = true := by decide +kernel
set_option maxRecDepth 100000 in
theorem ckm_245_0 : ckP 245 0 64 = true := by decide +kernel
set_option maxRecDepth 100000 in
theorem ckm_245_1 : ckP 245 64 64 = true := by decide +kernel
set_option maxRecDepth 100000 in
theorem ckm_245_2 : ckP 245 128 64 = true := by decide +kernel
set_option maxRecDepth 100000 in
theorem ckm_245_3 : ckP 245 192 43 = true := by decide +kernel
theorem cka_245 (pc : Nat) (e : aE) (h : code_ 245 pc = some e) : ckE 245 pc e = true := by
  have h0 : pc < 235 := by
    refine Nat.not_le.mp (fun hq => ?_)
    have : code_ 245 pc = none := by
      show cd_245 pc = none
      unfold cd_245
      rw [Nat.ble_eq_true_of_le hq]; rfl
    rw [this] at h; cases h
  by_cases h1 : pc < 64
  · exact ckP_ok ckm_245_0 (by omega) (by omega) h
  by_cases h2 : pc < 128
  · exact ckP_ok ckm_245_1 (by omega) (by omega) h
  by_cases h3 : pc < 192
  · exact ckP_ok ckm_245_2 (by omega) (by omega) h
  by_cases h4 : pc < 235
  · exact ckP_ok ckm_245_3 (by omega) (by omega) h
  omega
theorem cky_246 : ckY 246 = true := by decide +kernel
set_option maxRecDepth 100000 in
theorem ckm_246_0 : ckP 246 0 64 = true := by decide +kernel
set_option maxRecDepth 100000 in
theorem ckm_246_1 : ckP 246 64 63 = true := by decide +kernel
theorem cka_246 (pc : Nat) (e : aE) (h : code_ 246 pc = some e) : ckE 246 pc e = true := by
  have h0 : pc < 127 := by
    refine Nat.not_le.mp (fun hq => ?_)
    have : code_ 246 pc = none := by
      show cd_246 pc = none
      unfold cd_246
      rw [Nat.ble_eq_true_of_le hq]; rfl
    rw [this] at h; cases h
  by_cases h1 : pc < 64
  · exact ckP_ok ckm_246_0 (by omega) (by omega) h
  by_cases h2 : pc < 127
  · exact ckP_ok ckm_246_1 (by omega) (by omega) h
  omega
theorem cky_247 : ckY 247 = true := by decide +kernel
set_option maxRecDepth 100000 in
theorem ckm_247_0 : ckP 247 0 64 = true := by decide +kernel
set_option maxRecDepth 100000 in
theorem ckm_247_1 : ckP 247 64 2 = true := by decide +kernel
theorem cka_247 (pc : Nat) (e : aE) (h : code_ 247 pc = some e) : ckE 247 pc e = true := by
  have h0 : pc < 66 := by
    refine Nat.not_le.mp (fun hq => ?_)
    have : code_ 247 pc = none := by
      show cd_247 pc = none
      unfold cd_247
      rw [Nat.ble_eq_true_of_le hq]; rfl
    rw [this] at h; cases h
  by_cases h1 : pc < 64
  · exact ckP_ok ckm_247_0 (by omega) (by omega) h
  by_cases h2 : pc < 66
  · exact ckP_ok ckm_247_1 (by omega) (by omega) h
  omega
theorem cky_248 : ckY 248 = true := by decide +kernel
set_option maxRecDepth 100000 in
theorem ckm_248_0 : ckP 248 0 64 = true := by decide +kernel
set_option maxRecDepth 100000 in
theorem ckm_248_1 : ckP 248 64 54 = true := by decide +kernel
theorem cka_248 (pc : Nat) (e : aE) (h : code_ 248 pc = some e) : ckE 248 pc e = true := by
  have h0 : pc < 118 := by
    refine Nat.not_le.mp (fun hq => ?_)
    have : code_ 248 pc = none := by
      show cd_248 pc = none
      unfold cd_248
      rw [Nat.ble_eq_true_of_le hq]; rfl
    rw [this] at h; cases h
  by_cases h1 : pc < 64
  · exact ckP_ok ckm_248_0 (by omega) (by omega) h
  by_cases h2 : pc < 118
  · exact ckP_ok ckm_248_1 (by omega) (by omega) h
  omega
theorem cky_249 : ckY 249 = true := by decide +kernel
set_option maxRecDepth 100000 in
theorem ckm_249_0 : ckP 249 0 64 = true := by decide +kernel
set_option maxRecDepth 100000 in
theorem ckm_249_1 : ckP 249 64 20 = true := by decide +kernel
theorem cka_249 (pc : Nat) (e : aE) (h : code_ 249 pc = some e) : ckE 249 pc e = true := by
  have h0 : pc < 84 := by
    refine Nat.not_le.mp (fun hq => ?_)
    have : code_ 249 pc = none := by
      show cd_249 pc = none
      unfold cd_249
      rw [Nat.ble_eq_true_of_le hq]; rfl
    rw [this] at h; cases h
  by_cases h1 : pc < 64
  · exact ckP_ok ckm_249_0 (by omega) (by omega) h
  by_cases h2 : pc < 84
  · exact ckP_ok ckm_249_1 (by omega) (by omega) h
  omega
theorem cky_250 : ckY 250 = true := by decide +kernel
set_option maxRecDepth 100000 in
theorem ckm_250_0 : ckP 250 0 64 = true := by decide +kernel
set_option maxRecDepth 100000 in
theorem ckm_250_1 : ckP 250 64 29 = true := by decide +kernel
theorem cka_250 (pc : Nat) (e : aE) (h : code_ 250 pc = some e) : ckE 250 pc e = true := by
  have h0 : pc < 93 := by
    refine Nat.not_le.mp (fun hq => ?_)
    have : code_ 250 pc = none := by
      show cd_250 pc = none
      unfold cd_250
      rw [Nat.ble_eq_true_of_le hq]; rfl
    rw [this] at h; cases h
  by_cases h1 : pc < 64
  · exact ckP_ok ckm_250_0 (by omega) (by omega) h
  by_cases h2 : pc < 93
  · exact ckP_ok ckm_250_1 (by omega) (by omega) h
  omega
theorem cky_251 : ckY 251 = true := by decide +kernel
set_option maxRecDepth 100000 in
theorem ckm_251_0 : ckP 251 0 64 = true := by decide +kernel
set_option maxRecDepth 100000 in
theorem ckm_251_1 : ckP 251 64 64 = true := by decide +kernel
set_option maxRecDepth 100000 in
theorem ckm_251_2 : ckP 251 128 64 = true := by decide +kernel
set_option maxRecDepth 100000 in
theorem ckm_251_3 : ckP 251 192 60 = true := by decide +kernel
theorem cka_251 (pc : Nat) (e : aE) (h : code_ 251 pc = some e) : ckE 251 pc e = true := by
  have h0 : pc < 252 := by
    refine Nat.not_le.mp (fun hq => ?_)
    have : code_ 251 pc = none := by
      show cd_251 pc = none
      unfold cd_251
      rw [Nat.ble_eq_true_of_le hq]; rfl
    rw [this] at h; cases h
  by_cases h1 : pc < 64
  · exact ckP_ok ckm_251_0 (by omega) (by omega) h
  by_cases h2 : pc < 128
  · exact ckP_ok ckm_251_1 (by omega) (by omega) h
  by_cases h3 : pc < 192
  · exact ckP_ok ckm_251_2 (by omega) (by omega) h
  by_cases h4 : pc < 252
  · exact ckP_ok ckm_251_3 (by omega) (by omega) h
  omega
theorem cky_252 : ckY 252 = true := by decide +kernel
set_option maxRecDepth 100000 in
theorem ckm_252_0 : ckP 252 0 64 = true := by decide +kernel
set_option maxRecDepth 100000 in
theorem ckm_252_1 : ckP 252 64 64 = true := by decide +kernel
set_option maxRecDepth 100000 in
theorem ckm_252_2 : ckP 252 128 57 = true := by decide +kernel
theorem cka_252 (pc : Nat) (e : aE) (h : code_ 252 pc = some e) : ckE 252 pc e = true := by
  have h0 : pc < 185 := by
    refine Nat.not_le.mp (fun hq => ?_)
    have : code_ 252 pc = none := by
      show cd_252 pc = none
      unfold cd_252
      rw [Nat.ble_eq_true_of_le hq]; rfl
    rw [this] at h; cases h
  by_cases h1 : pc < 64
  · exact ckP_ok ckm_252_0 (by omega) (by omega) h
  by_cases h2 : pc < 128
  · exact ckP_ok ckm_252_1 (by omega) (by omega) h
  by_cases h3 : pc < 185
  · exact ckP_ok ckm_252_2 (by omega) (by omega) h
  omega
theorem cky_253 : ckY 253 = true := by decide +kernel
set_option maxRecDepth 100000 in
theorem ckm_253_0 : ckP 253 0 64 = true := by decide +kernel
set_option maxRecDepth 100000 in
theorem ckm_253_1 : ckP 253 64 64 = true := by decide +kernel
set_option maxRecDepth 100000 in
theorem ckm_253_2 : ckP 253 128 13 = true := by decide +kernel
theorem cka_253 (pc : Nat) (e : aE) (h : code_ 253 pc = some e) : ckE 253 pc e = true := by
  have h0 : pc < 141 := by
    refine Nat.not_le.mp (fun hq => ?_)
    have : code_ 253 pc = none := by
      show cd_253 pc = none
      unfold cd_253
      rw [Nat.ble_eq_true_of_le hq]; rfl
    rw [this] at h; cases h
  by_cases h1 : pc < 64
  · exact ckP_ok ckm_253_0 (by omega) (by omega) h
  by_cases h2 : pc < 128
  · exact ckP_ok ckm_253_1 (by omega) (by omega) h
  by_cases h3 : pc < 141
  · exact ckP_ok ckm_253_2 (by omega) (by omega) h
  omega
theorem cky_254 : ckY 254 = true := by decide +kernel
set_option maxRecDepth 100000 in
theorem ckm_254_0 : ckP 254 0 64 = true := by decide +kernel
set_option maxRecDepth 100000 in
theorem ckm_254_1 : ckP 254 64 3 = true := by decide +kernel
theorem cka_254 (pc : Nat) (e : aE) (h : code_ 254 pc = some e) : ckE 254 pc e = true := by
  have h0 : pc < 67 := by
    refine Nat.not_le.mp (fun hq => ?_)
    have : code_ 254 pc = none := by
      show cd_254 pc = none
      unfold cd_254
      rw [Nat.ble_eq_true_of_le hq]; rfl
    rw [this] at h; cases h
  by_cases h1 : pc < 64
  · exact ckP_ok ckm_254_0 (by omega) (by omega) h
  by_cases h2 : pc < 67
  · exact ckP_ok ckm_254_1 (by omega) (by omega) h
  omega
theorem cky_255 : ckY 255 = true := by decide +kernel
set_option maxRecDepth 100000 in
theorem ckm_255_0 : ckP 255 0 64 = true := by decide +kernel
set_option maxRecDepth 100000 in
theorem ckm_255_1 : ckP 255 64 64 = true := by decide +kernel
set_option maxRecDepth 100000 in
theorem ckm_255_2 : ckP 255 128 64 = true := by decide +kernel
set_option maxRecDepth 100000 in
theorem ckm_255_3 : ckP 255 192 5 = true := by decide +kernel
theorem cka_255 (pc : Nat) (e : aE) (h : code_ 255 pc = some e) : ckE 255 pc e = true := by
  have h0 : pc < 197 := by
    refine Nat.not_le.mp (fun hq => ?_)
    have : code_ 255 pc = none := by
      show cd_255 pc = none
      unfold cd_255
      rw [Nat.ble_eq_true_of_le hq]; rfl
    rw [this] at h; cases h
  by_cases h1 : pc < 64
  · exact ckP_ok ckm_255_0 (by omega) (by omega) h
  by_cases h2 : pc < 128
  · exact ckP_ok ckm_255_1 (by omega) (by omega) h
  by_cases h3 : pc < 192
  · exact ckP_ok ckm_255_2 (by omega) (by omega) h
  by_cases h4 : pc < 197
  · exact ckP_ok ckm_255_3 (by omega) (by omega) h
  omega
theorem cky_256 : ckY 256 = true := by decide +kernel
set_option maxRecDepth 100000 in
theorem ckm_256_0 : ckP 256 0 64 = true := by decide +kernel
set_option maxRecDepth 100000 in
theorem ckm_256_1 : ckP 256 64 47 = true := by decide +kernel
theorem cka_256 (pc : Nat) (e : aE) (h : code_ 256 pc = some e) : ckE 256 pc e = true := by
  have h0 : pc < 111 := by
    refine Nat.not_le.mp (fun hq => ?_)
    have : code_ 256 pc = none := by
      show cd_256 pc = none
      unfold cd_256
      rw [Nat.ble_eq_true_of_le hq]; rfl
    rw [this] at h; cases h
  by_cases h1 : pc < 64
  · exact ckP_ok ckm_256_0 (by omega) (by omega) h
  by_cases h2 : pc < 111
  · exact ckP_ok ckm_256_1 (by omega) (by omega) h
  omega
theorem cky_257 : ckY 257 = true := by decide +kernel
set_option maxRecDepth 100000 in
theorem ckm_257_0 : ckP 257 0 64 = true := by decide +kernel
set_option maxRecDepth 100000 in
theorem ckm_257_1 : ckP 257 64 64 = true := by decide +kernel
set_option maxRecDepth 100000 in
theorem ckm_257_2 : ckP 257 128 64 = true := by decide +kernel
set_option maxRecDepth 100000 in
theorem ckm_257_3 : ckP 257 192 64 = true := by decide +kernel
set_option maxRecDepth 100000 in
theorem ckm_257_4 : ckP 257 256 24 = true := by decide +kernel
theorem cka_257 (pc : Nat) (e : aE) (h : code_ 257 pc = some e) : ckE 257 pc e = true := by
  have h0 : pc < 280 := by
    refine Nat.not_le.mp (fun hq => ?_)
    have : code_ 257 pc = none := by
      show cd_257 pc = none
      unfold cd_257
      rw [Nat.ble_eq_true_of_le hq]; rfl
    rw [this] at h; cases h
  by_cases h1 : pc < 64
  · exact ckP_ok ckm_257_0 (by omega) (by omega) h
  by_cases h2 : pc < 128
  · exact ckP_ok ckm_257_1 (by omega) (by omega) h
  by_cases h3 : pc < 192
  · exact ckP_ok ckm_257_2 (by omega) (by omega) h
  by_cases h4 : pc < 256
  · exact ckP_ok ckm_257_3 (by omega) (by omega) h
  by_cases h5 : pc < 280
  · exact ckP_ok ckm_257_4 (by omega) (by omega) h
  omega
theorem cky_258 : ckY 258 = true := by decide +kernel
set_option maxRecDepth 100000 in
theorem ckm_258_0 : ckP 258 0 64 = true := by decide +kernel
set_option maxRecDepth 100000 in
theorem ckm_258_1 : ckP 258 64 64 = true := by decide +kernel
set_option maxRecDepth 100000 in
theorem ckm_258_2 : ckP 258 128 64 = true := by decide +kernel
set_option maxRecDepth 100000 in
theorem ckm_258_3 : ckP 258 192 64 = true := by decide +kernel
set_option maxRecDepth 100000 in
theorem ckm_258_4 : ckP 258 256 34 = true := by decide +kernel
theorem cka_258 (pc : Nat) (e : aE) (h : code_ 258 pc = some e) : ckE 258 pc e = true := by
  have h0 : pc < 290 := by
    refine Nat.not_le.mp (fun hq => ?_)
    have : code_ 258 pc = none := by
      show cd_258 pc = none
      unfold cd_258
      rw [Nat.ble_eq_true_of_le hq]; rfl
    rw [this] at h; cases h
  by_cases h1 : pc < 64
  · exact ckP_ok ckm_258_0 (by omega) (by omega) h
  by_cases h2 : pc < 128
  · exact ckP_ok ckm_258_1 (by omega) (by omega) h
  by_cases h3 : pc < 192
  · exact ckP_ok ckm_258_2 (by omega) (by omega) h
  by_cases h4 : pc < 256
  · exact ckP_ok ckm_258_3 (by omega) (by omega) h
  by_cases h5 : pc < 290
  · exact ckP_ok ckm_258_4 (by omega) (by omega) h
  omega
