theorem cky_215 : ckY 215 = true := by decide +kernel
set_option maxRecDepth 100000 in
theorem ckm_215_0 : ckP 215 0 64 = true := by decide +kernel
set_option maxRecDepth 100000 in
theorem ckm_215_1 : ckP 215 64 18 = true := by decide +kernel
theorem cka_215 (pc : Nat) (e : aE) (h : code_ 215 pc = some e) : ckE 215 pc e = true := by
  have h0 : pc < 82 := by
    refine Nat.not_le.mp (fun hq => ?_)
    have : code_ 215 pc = none := by
      show cd_215 pc = none
      unfold cd_215
      rw [Nat.ble_eq_true_of_le hq]; rfl
    rw [this] at h; cases h
  by_cases h1 : pc < 64
  · exact ckP_ok ckm_215_0 (by omega) (by omega) h
  by_cases h2 : pc < 82
  · exact ckP_ok ckm_215_1 (by omega) (by omega) h
  omega
theorem cky_216 : ckY 216 = true := by decide +kernel
set_option maxRecDepth 100000 in
theorem ckm_216_0 : ckP 216 0 64 = true := by decide +kernel
set_option maxRecDepth 100000 in
theorem ckm_216_1 : ckP 216 64 64 = true := by decide +kernel
set_option maxRecDepth 100000 in
theorem ckm_216_2 : ckP 216 128 7 = true := by decide +kernel
theorem cka_216 (pc : Nat) (e : aE) (h : code_ 216 pc = some e) : ckE 216 pc e = true := by
  have h0 : pc < 135 := by
    refine Nat.not_le.mp (fun hq => ?_)
    have : code_ 216 pc = none := by
      show cd_216 pc = none
      unfold cd_216
      rw [Nat.ble_eq_true_of_le hq]; rfl
    rw [this] at h; cases h
  by_cases h1 : pc < 64
  · exact ckP_ok ckm_216_0 (by omega) (by omega) h
  by_cases h2 : pc < 128
  · exact ckP_ok ckm_216_1 (by omega) (by omega) h
  by_cases h3 : pc < 135
  · exact ckP_ok ckm_216_2 (by omega) (by omega) h
  omega
theorem cky_217 : ckY 217 = true := by decide +kernel
set_option maxRecDepth 100000 in
theorem ckm_217_0 : ckP 217 0 64 = true := by decide +kernel
set_option maxRecDepth 100000 in
theorem ckm_217_1 : ckP 217 64 60 = true := by decide +kernel
theorem cka_217 (pc : Nat) (e : aE) (h : code_ 217 pc = some e) : ckE 217 pc e = true := by
  have h0 : pc < 124 := by
    refine Nat.not_le.mp (fun hq => ?_)
    have : code_ 217 pc = none := by
      show cd_217 pc = none
      unfold cd_217
      rw [Nat.ble_eq_true_of_le hq]; rfl
    rw [this] at h; cases h
  by_cases h1 : pc < 64
  · exact ckP_ok ckm_217_0 (by omega) (by omega) h
  by_cases h2 : pc < 124
  · exact ckP_ok ckm_217_1 (by omega) (by omega) h
  omega
theorem cky_218 : ckY 218 = true := by decide +kernel
set_option maxRecDepth 100000 in
theorem ckm_218_0 : ckP 218 0 24 = true := by decide +kernel
theorem cka_218 (pc : Nat) (e : aE) (h : code_ 218 pc = some e) : ckE 218 pc e = true := by
  have h0 : pc < 24 := by
    refine Nat.not_le.mp (fun hq => ?_)
    have : code_ 218 pc = none := by
      show cd_218 pc = none
      unfold cd_218
      rw [Nat.ble_eq_true_of_le hq]; rfl
    rw [this] at h; cases h
  by_cases h1 : pc < 24
  · exact ckP_ok ckm_218_0 (by omega) (by omega) h
  omega
theorem cky_219 : ckY 219 = true := by decide +kernel
set_option maxRecDepth 100000 in
theorem ckm_219_0 : ckP 219 0 51 = true := by decide +kernel
theorem cka_219 (pc : Nat) (e : aE) (h : code_ 219 pc = some e) : ckE 219 pc e = true := by
  have h0 : pc < 51 := by
    refine Nat.not_le.mp (fun hq => ?_)
    have : code_ 219 pc = none := by
      show cd_219 pc = none
      unfold cd_219
      rw [Nat.ble_eq_true_of_le hq]; rfl
    rw [this] at h; cases h
  by_cases h1 : pc < 51
  · exact ckP_ok ckm_219_0 (by omega) (by omega) h
  omega
theorem cky_220 : ckY 220 = true := by decide +kernel
set_option maxRecDepth 100000 in
theorem ckm_220_0 : ckP 220 0 27 = true := by decide +kernel
theorem cka_220 (pc : Nat) (e : aE) (h : code_ 220 pc = some e) : ckE 220 pc e = true := by
  have h0 : pc < 27 := by
    refine Nat.not_le.mp (fun hq => ?_)
    have : code_ 220 pc = none := by
      show cd_220 pc = none
      unfold cd_220
      rw [Nat.ble_eq_true_of_le hq]; rfl
    rw [this] at h; cases h
  by_cases h1 : pc < 27
  · exact ckP_ok ckm_220_0 (by omega) (by omega) h
  omega
theorem cky_221 : ckY 221 = true := by decide +kernel
set_option maxRecDepth 100000 in
theorem ckm_221_0 : ckP 221 0 64 = true := by decide +kernel
set_option maxRecDepth 100000 in
theorem ckm_221_1 : ckP 221 64 50 = true := by decide +kernel
theorem cka_221 (pc : Nat) (e : aE) (h : code_ 221 pc = some e) : ckE 221 pc e = true := by
  have h0 : pc < 114 := by
    refine Nat.not_le.mp (fun hq => ?_)
    have : code_ 221 pc = none := by
      show cd_221 pc = none
      unfold cd_221
      rw [Nat.ble_eq_true_of_le hq]; rfl
    rw [this] at h; cases h
  by_cases h1 : pc < 64
  · exact ckP_ok ckm_221_0 (by omega) (by omega) h
  by_cases h2 : pc < 114
  · exact ckP_ok ckm_221_1 (by omega) (by omega) h
  omega
theorem cky_222 : ckY 222 = true := by decide +kernel
set_option maxRecDepth 100000 in
theorem ckm_222_0 : ckP 222 0 64 = true := by decide +kernel
set_option maxRecDepth 100000 in
theorem ckm_222_1 : ckP 222 64 64 = true := by decide +kernel
set_option maxRecDepth 100000 in
theorem ckm_222_2 : ckP 222 128 45 = true := by decide +kernel
theorem cka_222 (pc : Nat) (e : aE) (h : code_ 222 pc = some e) : ckE 222 pc e = true := by
  have h0 : pc < 173 := by
    refine Nat.not_le.mp (fun hq => ?_)
    have : code_ 222 pc = none := by
      show cd_222 pc = none
      unfold cd_222
      rw [Nat.ble_eq_true_of_le hq]; rfl
    rw [this] at h; cases h
  by_cases h1 : pc < 64
  · exact ckP_ok ckm_222_0 (by omega) (by omega) h
  by_cases h2 : pc < 128
  · exact ckP_ok ckm_222_1 (by omega) (by omega) h
  by_cases h3 : pc < 173
  · exact ckP_ok ckm_222_2 (by omega) (by omega) h
  omega
theorem cky_223 : ckY 223 = true := by decide +kernel
set_option maxRecDepth 100000 in
theorem ckm_223_0 : ckP 223 0 64 = true := by decide +kernel
set_option maxRecDepth 100000 in
theorem ckm_223_1 : ckP 223 64 27 = true := by decide +kernel
theorem cka_223 (pc : Nat) (e : aE) (h : code_ 223 pc = some e) : ckE 223 pc e = true := by
  have h0 : pc < 91 := by
    refine Nat.not_le.mp (fun hq => ?_)
    have : code_ 223 pc = none := by
      show cd_223 pc = none
      unfold cd_223
      rw [Nat.ble_eq_true_of_le hq]; rfl
    rw [this] at h; cases h
  by_cases h1 : pc < 64
  · exact ckP_ok ckm_223_0 (by omega) (by omega) h
  by_cases h2 : pc < 91
  · exact ckP_ok ckm_223_1 (by omega) (by omega) h
  omega
theorem cky_224 : ckY 224 = true := by decide +kernel
set_option maxRecDepth 100000 in
theorem ckm_224_0 : ckP 224 0 64 = true := by decide +kernel
set_option maxRecDepth 100000 in
theorem ckm_224_1 : ckP 224 64 64 = true := by decide +kernel
set_option maxRecDepth 100000 in
theorem ckm_224_2 : ckP 224 128 64 = true := by decide +kernel
set_option maxRecDepth 100000 in
theorem ckm_224_3 : ckP 224 192 15 = true := by decide +kernel
theorem cka_224 (pc : Nat) (e : aE) (h : code_ 224 pc = some e) : ckE 224 pc e = true := by
  have h0 : pc < 207 := by
    refine Nat.not_le.mp (fun hq => ?_)
    have : code_ 224 pc = none := by
      show cd_224 pc = none
      unfold cd_224
      rw [Nat.ble_eq_true_of_le hq]; rfl
    rw [this] at h; cases h
  by_cases h1 : pc < 64
  · exact ckP_ok ckm_224_0 (by omega) (by omega) h
  by_cases h2 : pc < 128
  · exact ckP_ok ckm_224_1 (by omega) (by omega) h
  by_cases h3 : pc < 192
  · exact ckP_ok ckm_224_2 (by omega) (by omega) h
  by_cases h4 : pc < 207
  · exact ckP_ok ckm_224_3 (by omega) (by omega) h
  omega
theorem cky_225 : ckY 225 = true := by decide +kernel
set_option maxRecDepth 100000 in
theorem ckm_225_0 : ckP 225 0 39 = true := by decide +kernel
theorem cka_225 (pc : Nat) (e : aE) (h : code_ 225 pc = some e) : ckE 225 pc e = true := by
  have h0 : pc < 39 := by
    refine Nat.not_le.mp (fun hq => ?_)
    have : code_ 225 pc = none := by
      show cd_225 pc = none
      unfold cd_225
      rw [Nat.ble_eq_true_of_le hq]; rfl
    rw [this] at h; cases h
  by_cases h1 : pc < 39
  · exact ckP_ok ckm_225_0 (by omega) (by omega) h
  omega
theorem cky_226 : ckY 226 = true := by decide +kernel
set_option maxRecDepth 100000 in
theorem ckm_226_0 : ckP 226 0 64 = true := by decide +kernel
set_option maxRecDepth 100000 in
theorem ckm_226_1 : ckP 226 64 56 = true := by decide +kernel
theorem cka_226 (pc : Nat) (e : aE) (h : code_ 226 pc = some e) : ckE 226 pc e = true := by
  have h0 : pc < 120 := by
    refine Nat.not_le.mp (fun hq => ?_)
    have : code_ 226 pc = none := by
      show cd_226 pc = none
      unfold cd_226
      rw [Nat.ble_eq_true_of_le hq]; rfl
    rw [this] at h; cases h
  by_cases h1 : pc < 64
  · exact ckP_ok ckm_226_0 (by omega) (by omega) h
  by_cases h2 : pc < 120
  · exact ckP_ok ckm_226_1 (by omega) (by omega) h
  omega
theorem cky_227 : ckY 227 = true := by decide +kernel
set_option maxRecDepth 100000 in
theorem ckm_227_0 : ckP 227 0 64 = true := by decide +kernel
set_option maxRecDepth 100000 in
theorem ckm_227_1 : ckP 227 64 17 = true := by decide +kernel
theorem cka_227 (pc : Nat) (e : aE) (h : code_ 227 pc = some e) : ckE 227 pc e = true := by
  have h0 : pc < 81 := by
    refine Nat.not_le.mp (fun hq => ?_)
    have : code_ 227 pc = none := by
      show cd_227 pc = none
      unfold cd_227
      rw [Nat.ble_eq_true_of_le hq]; rfl
    rw [this] at h; cases h
  by_cases h1 : pc < 64
  · exact ckP_ok ckm_227_0 (by omega) (by omega) h
  by_cases h2 : pc < 81
  · exact ckP_ok ckm_227_1 (by omega) (by omega) h
  omega
theorem cky_228 : ckY 228 = true := by decide +kernel
set_option maxRecDepth 100000 in
theorem ckm_228_0 : ckP 228 0 64 = true := by decide +kernel
set_option maxRecDepth 100000 in
theorem ckm_228_1 : ckP 228 64 7 = true := by decide +kernel
theorem cka_228 (pc : Nat) (e : aE) (h : code_ 228 pc = some e) : ckE 228 pc e = true := by
  have h0 : pc < 71 := by
    refine Nat.not_le.mp (fun hq => ?_)
    have : code_ 228 pc = none := by
      show cd_228 pc = none
      unfold cd_228
      rw [Nat.ble_eq_true_of_le hq]; rfl
    rw [this] at h; cases h
  by_cases h1 : pc < 64
  · exact ckP_ok ckm_228_0 (by omega) (by omega) h
  by_cases h2 : pc < 71
  · exact ckP_ok ckm_228_1 (by omega) (by omega) h
  omega
theorem cky_229 : ckY 229 = true := by decide +kernel
set_option maxRecDepth 100000 in
theorem ckm_229_0 : ckP 229 0 64 = true := by decide +kernel
set_option maxRecDepth 100000 in
theorem ckm_229_1 : ckP 229 64 64 = true := by decide +kernel
set_option maxRecDepth 100000 in
theorem ckm_229_2 : ckP 229 128 17 = true := by decide +kernel
theorem cka_229 (pc : Nat) (e : aE) (h : code_ 229 pc = some e) : ckE 229 pc e = true := by
  have h0 : pc < 145 := by
    refine Nat.not_le.mp (fun hq => ?_)
    have : code_ 229 pc = none := by
      show cd_229 pc = none
      unfold cd_229
      rw [Nat.ble_eq_true_of_le hq]; rfl
    rw [this] at h; cases h
  by_cases h1 : pc < 64
  · exact ckP_ok ckm_229_0 (by omega) (by omega) h
  by_cases h2 : pc < 128
  · exact ckP_ok ckm_229_1 (by omega) (by omega) h
  by_cases h3 : pc < 145
  · exact ckP_ok ckm_229_2 (by omega) (by omega) h
  omega
theorem cky_230 : ckY 230 = true := by decide +kernel
set_option maxRecDepth 100000 in
theorem ckm_230_0 : ckP 230 0 31 = true := by decide +kernel
theorem cka_230 (pc : Nat) (e : aE) (h : code_ 230 pc = some e) : ckE 230 pc e = true := by
  have h0 : pc < 31 := by
    refine Nat.not_le.mp (fun hq => ?_)
    have : code_ 230 pc = none := by
      show cd_230 pc = none
      unfold cd_230
      rw [Nat.ble_eq_true_of_le hq]; rfl
    rw [this] at h; cases h
  by_cases h1 : pc < 31
  · exact ckP_ok ckm_230_0 (by omega) (by omega) h
  omega
theorem cky_231 : ckY 231 = true := by decide +kernel
set_option maxRecDepth 100000 in
theorem ckm_231_0 : ckP 231 0 64 = true := by decide +kernel
set_option maxRecDepth 100000 in
theorem ckm_231_1 : ckP 231 64 11 = true := by decide +kernel
theorem cka_231 (pc : Nat) (e : aE) (h : code_ 231 pc = some e) : ckE 231 pc e = true := by
  have h0 : pc < 75 := by
    refine Nat.not_le.mp (fun hq => ?_)
    have : code_ 231 pc = none := by
      show cd_231 pc = none
      unfold cd_231
      rw [Nat.ble_eq_true_of_le hq]; rfl
    rw [this] at h; cases h
  by_cases h1 : pc < 64
  · exact ckP_ok ckm_231_0 (by omega) (by omega) h
  by_cases h2 : pc < 75
  · exact ckP_ok ckm_231_1 (by omega) (by omega) h
  omega
theorem cky_232 : ckY 232 = true := by decide +kernel
set_option maxRecDepth 100000 in
theorem ckm_232_0 : ckP 232 0 16 = true := by decide +kernel
theorem cka_232 (pc : Nat) (e : aE) (h : code_ 232 pc = some e) : ckE 232 pc e = true := by
  have h0 : pc < 16 := by
    refine Nat.not_le.mp (fun hq => ?_)
    have : code_ 232 pc = none := by
      show cd_232 pc = none
      unfold cd_232
      rw [Nat.ble_eq_true_of_le hq]; rfl
    rw [this] at h; cases h
  by_cases h1 : pc < 16
  · exact ckP_ok ckm_232_0 (by omega) (by omega) h
  omega
theorem cky_233 : ckY 233 = true := by decide +kernel
set_option maxRecDepth 100000 in
theorem ckm_233_0 : ckP 233 0 64 = true := by decide +kernel
set_option maxRecDepth 100000 in
theorem ckm_233_1 : ckP 233 64 6 = true := by decide +kernel
theorem cka_233 (pc : Nat) (e : aE) (h : code_ 233 pc = some e) : ckE 233 pc e = true := by
  have h0 : pc < 70 := by
    refine Nat.not_le.mp (fun hq => ?_)
    have : code_ 233 pc = none := by
      show cd_233 pc = none
      unfold cd_233
      rw [Nat.ble_eq_true_of_le hq]; rfl
    rw [this] at h; cases h
  by_cases h1 : pc < 64
  · exact ckP_ok ckm_233_0 (by omega) (by omega) h
  by_cases h2 : pc < 70
  · exact ckP_ok ckm_233_1 (by omega) (by omega) h
  omega
theorem cky_234 : ckY 234 = true := by decide +kernel
set_option maxRecDepth 100000 in
theorem ckm_234_0 : ckP 234 0 34 = true := by decide +kernel
theorem cka_234 (pc : Nat) (e : aE) (h : code_ 234 pc = some e) : ckE 234 pc e = true := by
  have h0 : pc < 34 := by
    refine Nat.not_le.mp (fun hq => ?_)
    have : code_ 234 pc = none := by
      show cd_234 pc = none
      unfold cd_234
      rw [Nat.ble_eq_true_of_le hq]; rfl
    rw [this] at h; cases h
  by_cases h1 : pc < 34
  · exact ckP_ok ckm_234_0 (by omega) (by omega) h
  omega
theorem cky_235 : ckY 235 = true := by decide +kernel
set_option maxRecDepth 100000 in
theorem ckm_235_0 : ckP 235 0 64 = true := by decide +kernel
set_option maxRecDepth 100000 in
theorem ckm_235_1 : ckP 235 64 33 = true := by decide +kernel
theorem cka_235 (pc : Nat) (e : aE) (h : code_ 235 pc = some e) : ckE 235 pc e = true := by
  have h0 : pc < 97 := by
    refine Nat.not_le.mp (fun hq => ?_)
    have : code_ 235 pc = none := by
      show cd_235 pc = none
      unfold cd_235
      rw [Nat.ble_eq_true_of_le hq]; rfl
    rw [this] at h; cases h
  by_cases h1 : pc < 64
  · exact ckP_ok ckm_235_0 (by omega) (by omega) h
  by_cases h2 : pc < 97
  · exact ckP_ok ckm_235_1 (by omega) (by omega) h
  omega
theorem cky_236 : ckY 236 = true := by decide +kernel
set_option maxRecDepth 100000 in
theorem ckm_236_0 : ckP 236 0 53 = true := by decide +kernel
theorem cka_236 (pc : Nat) (e : aE) (h : code_ 236 pc = some e) : ckE 236 pc e = true := by
  have h0 : pc < 53 := by
    refine Nat.not_le.mp (fun hq => ?_)
    have : code_ 236 pc = none := by
      show cd_236 pc = none
      unfold cd_236
      rw [Nat.ble_eq_true_of_le hq]; rfl
    rw [this] at h; cases h
  by_cases h1 : pc < 53
  · exact ckP_ok ckm_236_0 (by omega) (by omega) h
  omega
theorem cky_237 : ckY 237 = true := by decide +kernel
set_option maxRecDepth 100000 in
theorem ckm_237_0 : ckP 237 0 63 = true := by decide +kernel
theorem cka_237 (pc : Nat) (e : aE) (h : code_ 237 pc = some e) : ckE 237 pc e = true := by
  have h0 : pc < 63 := by
    refine Nat.not_le.mp (fun hq => ?_)
    have : code_ 237 pc = none := by
      show cd_237 pc = none
      unfold cd_237
      rw [Nat.ble_eq_true_of_le hq]; rfl
    rw [this] at h; cases h
  by_cases h1 : pc < 63
  · exact ckP_ok ckm_237_0 (by omega) (by omega) h
  omega
theorem cky_238 : ckY 238 = true := by decide +kernel
set_option maxRecDepth 100000 in
theorem ckm_238_0 : ckP 238 0 64 = true := by decide +kernel
set_option maxRecDepth 100000 in
theorem ckm_238_1 : ckP 238 64 22 = true := by decide +kernel
theorem cka_238 (pc : Nat) (e : aE) (h : code_ 238 pc = some e) : ckE 238 pc e = true := by
  have h0 : pc < 86 := by
    refine Nat.not_le.mp (fun hq => ?_)
    have : code_ 238 pc = none := by
      show cd_238 pc = none
      unfold cd_238
      rw [Nat.ble_eq_true_of_le hq]; rfl
    rw [this] at h; cases h
  by_cases h1 : pc < 64
  · exact ckP_ok ckm_238_0 (by omega) (by omega) h
  by_cases h2 : pc < 86
  · exact ckP_ok ckm_238_1 (by omega) (by omega) h
  omega
theorem cky_239 : ckY 239 = true := by decide +kernel
set_option maxRecDepth 100000 in
theorem ckm_239_0 : ckP 239 0 16 = true := by decide +kernel
theorem cka_239 (pc : Nat) (e : aE) (h : code_ 239 pc = some e) : ckE 239 pc e = true := by
  have h0 : pc < 16 := by
    refine Nat.not_le.mp (fun hq => ?_)
    have : code_ 239 pc = none := by
      show cd_239 pc = none
      unfold cd_239
      rw [Nat.ble_eq_true_of_le hq]; rfl
    rw [this] at h; cases h
  by_cases h1 : pc < 16
  · exact ckP_ok ckm_239_0 (by omega) (by omega) h
  omega
