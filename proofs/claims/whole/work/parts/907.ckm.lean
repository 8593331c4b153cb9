theorem cky_186 : ckY 186 = true := by decide +kernel
set_option maxRecDepth 100000 in
theorem ckm_186_0 : ckP 186 0 45 = true := by decide +kernel
theorem cka_186 (pc : Nat) (e : aE) (h : code_ 186 pc = some e) : ckE 186 pc e = true := by
  have h0 : pc < 45 := by
    refine Nat.not_le.mp (fun hq => ?_)
    have : code_ 186 pc = none := by
      show cd_186 pc = none
      unfold cd_186
      rw [Nat.ble_eq_true_of_le hq]; rfl
    rw [this] at h; cases h
  by_cases h1 : pc < 45
  · exact ckP_ok ckm_186_0 (by omega) (by omega) h
  omega
theorem cky_187 : ckY 187 = true := by decide +kernel
set_option maxRecDepth 100000 in
theorem ckm_187_0 : ckP 187 0 33 = true := by decide +kernel
theorem cka_187 (pc : Nat) (e : aE) (h : code_ 187 pc = some e) : ckE 187 pc e = true := by
  have h0 : pc < 33 := by
    refine Nat.not_le.mp (fun hq => ?_)
    have : code_ 187 pc = none := by
      show cd_187 pc = none
      unfold cd_187
      rw [Nat.ble_eq_true_of_le hq]; rfl
    rw [this] at h; cases h
  by_cases h1 : pc < 33
  · exact ckP_ok ckm_187_0 (by omega) (by omega) h
  omega
theorem cky_188 : ckY 188 = true := by decide +kernel
set_option maxRecDepth 100000 in
theorem ckm_188_0 : ckP 188 0 19 = true := by decide +kernel
theorem cka_188 (pc : Nat) (e : aE) (h : code_ 188 pc = some e) : ckE 188 pc e = true := by
  have h0 : pc < 19 := by
    refine Nat.not_le.mp (fun hq => ?_)
    have : code_ 188 pc = none := by
      show cd_188 pc = none
      unfold cd_188
      rw [Nat.ble_eq_true_of_le hq]; rfl
    rw [this] at h; cases h
  by_cases h1 : pc < 19
  · exact ckP_ok ckm_188_0 (by omega) (by omega) h
  omega
theorem cky_189 : ckY 189 = true := by decide +kernel
set_option maxRecDepth 100000 in
theorem ckm_189_0 : ckP 189 0 40 = true := by decide +kernel
theorem cka_189 (pc : Nat) (e : aE) (h : code_ 189 pc = some e) : ckE 189 pc e = true := by
  have h0 : pc < 40 := by
    refine Nat.not_le.mp (fun hq => ?_)
    have : code_ 189 pc = none := by
      show cd_189 pc = none
      unfold cd_189
      rw [Nat.ble_eq_true_of_le hq]; rfl
    rw [this] at h; cases h
  by_cases h1 : pc < 40
  · exact ckP_ok ckm_189_0 (by omega) (by omega) h
  omega
theorem cky_190 : ckY 190 = true := by decide +kernel
set_option maxRecDepth 100000 in
theorem ckm_190_0 : ckP 190 0 64 = true := by decide +kernel
set_option maxRecDepth 100000 in
theorem ckm_190_1 : ckP 190 64 28 = true := by decide +kernel
theorem cka_190 (pc : Nat) (e : aE) (h : code_ 190 pc = some e) : ckE 190 pc e = true := by
  have h0 : pc < 92 := by
    refine Nat.not_le.mp (fun hq => ?_)
    have : code_ 190 pc = none := by
      show cd_190 pc = none
      unfold cd_190
      rw [Nat.ble_eq_true_of_le hq]; rfl
    rw [this] at h; cases h
  by_cases h1 : pc < 64
  · exact ckP_ok ckm_190_0 (by omega) (by omega) h
  by_cases h2 : pc < 92
  · exact ckP_ok ckm_190_1 (by omega) (by omega) h
  omega
theorem cky_191 : ckY 191 = true := by decide +kernel
set_option maxRecDepth 100000 in
theorem ckm_191_0 : ckP 191 0 18 = true := by decide +kernel
theorem cka_191 (pc : Nat) (e : aE) (h : code_ 191 pc = some e) : ckE 191 pc e = true := by
  have h0 : pc < 18 := by
    refine Nat.not_le.mp (fun hq => ?_)
    have : code_ 191 pc = none := by
      show cd_191 pc = none
      unfold cd_191
      rw [Nat.ble_eq_true_of_le hq]; rfl
    rw [this] at h; cases h
  by_cases h1 : pc < 18
  · exact ckP_ok ckm_191_0 (by omega) (by omega) h
  omega
theorem cky_192 : ckY 192 = true := by decide +kernel
set_option maxRecDepth 100000 in
theorem ckm_192_0 : ckP 192 0 18 = true := by decide +kernel
theorem cka_192 (pc : Nat) (e : aE) (h : code_ 192 pc = some e) : ckE 192 pc e = true := by
  have h0 : pc < 18 := by
    refine Nat.not_le.mp (fun hq => ?_)
    have : code_ 192 pc = none := by
      show cd_192 pc = none
      unfold cd_192
      rw [Nat.ble_eq_true_of_le hq]; rfl
    rw [this] at h; cases h
  by_cases h1 : pc < 18
  · exact ckP_ok ckm_192_0 (by omega) (by omega) h
  omega
theorem cky_193 : ckY 193 = true := by decide +kernel
set_option maxRecDepth 100000 in
theorem ckm_193_0 : ckP 193 0 18 = true := by decide +kernel
theorem cka_193 (pc : Nat) (e : aE) (h : code_ 193 pc = some e) : ckE 193 pc e = true := by
  have h0 : pc < 18 := by
    refine Nat.not_le.mp (fun hq => ?_)
    have : code_ 193 pc = none := by
      show cd_193 pc = none
      unfold cd_193
      rw [Nat.ble_eq_true_of_le hq]; rfl
    rw [this] at h; cases h
  by_cases h1 : pc < 18
  · exact ckP_ok ckm_193_0 (by omega) (by omega) h
  omega
theorem cky_194 : ckY 194 = true := by decide +kernel
set_option maxRecDepth 100000 in
theorem ckm_194_0 : ckP 194 0 18 = true := by decide +kernel
theorem cka_194 (pc : Nat) (e : aE) (h : code_ 194 pc = some e) : ckE 194 pc e = true := by
  have h0 : pc < 18 := by
    refine Nat.not_le.mp (fun hq => ?_)
    have : code_ 194 pc = none := by
      show cd_194 pc = none
      unfold cd_194
      rw [Nat.ble_eq_true_of_le hq]; rfl
    rw [this] at h; cases h
  by_cases h1 : pc < 18
  · exact ckP_ok ckm_194_0 (by omega) (by omega) h
  omega
theorem cky_195 : ckY 195 = true := by decide +kernel
set_option maxRecDepth 100000 in
theorem ckm_195_0 : ckP 195 0 26 = true := by decide +kernel
theorem cka_195 (pc : Nat) (e : aE) (h : code_ 195 pc = some e) : ckE 195 pc e = true := by
  have h0 : pc < 26 := by
    refine Nat.not_le.mp (fun hq => ?_)
    have : code_ 195 pc = none := by
      show cd_195 pc = none
      unfold cd_195
      rw [Nat.ble_eq_true_of_le hq]; rfl
    rw [this] at h; cases h
  by_cases h1 : pc < 26
  · exact ckP_ok ckm_195_0 (by omega) (by omega) h
  omega
theorem cky_196 : ckY 196 = true := by decide +kernel
set_option maxRecDepth 100000 in
theorem ckm_196_0 : ckP 196 0 26 = true := by decide +kernel
theorem cka_196 (pc : Nat) (e : aE) (h : code_ 196 pc = some e) : ckE 196 pc e = true := by
  have h0 : pc < 26 := by
    refine Nat.not_le.mp (fun hq => ?_)
    have : code_ 196 pc = none := by
      show cd_196 pc = none
      unfold cd_196
      rw [Nat.ble_eq_true_of_le hq]; rfl
    rw [this] at h; cases h
  by_cases h1 : pc < 26
  · exact ckP_ok ckm_196_0 (by omega) (by omega) h
  omega
theorem cky_197 : ckY 197 = true := by decide +kernel
set_option maxRecDepth 100000 in
theorem ckm_197_0 : ckP 197 0 64 = true := by decide +kernel
set_option maxRecDepth 100000 in
theorem ckm_197_1 : ckP 197 64 7 = true := by decide +kernel
theorem cka_197 (pc : Nat) (e : aE) (h : code_ 197 pc = some e) : ckE 197 pc e = true := by
  have h0 : pc < 71 := by
    refine Nat.not_le.mp (fun hq => ?_)
    have : code_ 197 pc = none := by
      show cd_197 pc = none
      unfold cd_197
      rw [Nat.ble_eq_true_of_le hq]; rfl
    rw [this] at h; cases h
  by_cases h1 : pc < 64
  · exact ckP_ok ckm_197_0 (by omega) (by omega) h
  by_cases h2 : pc < 71
  · exact ckP_ok ckm_197_1 (by omega) (by omega) h
  omega
theorem cky_198 : ckY 198 = true := by decide +kernel
set_option maxRecDepth 100000 in
theorem ckm_198_0 : ckP 198 0 7 = true := by decide +kernel
theorem cka_198 (pc : Nat) (e : aE) (h : code_ 198 pc = some e) : ckE 198 pc e = true := by
  have h0 : pc < 7 := by
    refine Nat.not_le.mp (fun hq => ?_)
    have : code_ 198 pc = none := by
      show cd_198 pc = none
      unfold cd_198
      rw [Nat.ble_eq_true_of_le hq]; rfl
    rw [this] at h; cases h
  by_cases h1 : pc < 7
  · exact ckP_ok ckm_198_0 (by omega) (by omega) h
  omega
theorem cky_199 : ckY 199 = true := by decide +kernel
set_option maxRecDepth 100000 in
theorem ckm_199_0 : ckP 199 0 55 = true := by decide +kernel
theorem cka_199 (pc : Nat) (e : aE) (h : code_ 199 pc = some e) : ckE 199 pc e = true := by
  have h0 : pc < 55 := by
    refine Nat.not_le.mp (fun hq => ?_)
    have : code_ 199 pc = none := by
      show cd_199 pc = none
      unfold cd_199
      rw [Nat.ble_eq_true_of_le hq]; rfl
    rw [this] at h; cases h
  by_cases h1 : pc < 55
  · exact ckP_ok ckm_199_0 (by omega) (by omega) h
  omega
theorem cky_200 : ckY 200 = true := by decide +kernel
set_option maxRecDepth 100000 in
theorem ckm_200_0 : ckP 200 0 28 = true := by decide +kernel
theorem cka_200 (pc : Nat) (e : aE) (h : code_ 200 pc = some e) : ckE 200 pc e = true := by
  have h0 : pc < 28 := by
    refine Nat.not_le.mp (fun hq => ?_)
    have : code_ 200 pc = none := by
      show cd_200 pc = none
      unfold cd_200
      rw [Nat.ble_eq_true_of_le hq]; rfl
    rw [this] at h; cases h
  by_cases h1 : pc < 28
  · exact ckP_ok ckm_200_0 (by omega) (by omega) h
  omega
theorem cky_201 : ckY 201 = true := by decide +kernel
set_option maxRecDepth 100000 in
theorem ckm_201_0 : ckP 201 0 64 = true := by decide +kernel
set_option maxRecDepth 100000 in
theorem ckm_201_1 : ckP 201 64 27 = true := by decide +kernel
theorem cka_201 (pc : Nat) (e : aE) (h : code_ 201 pc = some e) : ckE 201 pc e = true := by
  have h0 : pc < 91 := by
    refine Nat.not_le.mp (fun hq => ?_)
    have : code_ 201 pc = none := by
      show cd_201 pc = none
      unfold cd_201
      rw [Nat.ble_eq_true_of_le hq]; rfl
    rw [this] at h; cases h
  by_cases h1 : pc < 64
  · exact ckP_ok ckm_201_0 (by omega) (by omega) h
  by_cases h2 : pc < 91
  · exact ckP_ok ckm_201_1 (by omega) (by omega) h
  omega
theorem cky_202 : ckY 202 = true := by decide +kernel
set_option maxRecDepth 100000 in
theorem ckm_202_0 : ckP 202 0 64 = true := by decide +kernel
set_option maxRecDepth 100000 in
theorem ckm_202_1 : ckP 202 64 38 = true := by decide +kernel
theorem cka_202 (pc : Nat) (e : aE) (h : code_ 202 pc = some e) : ckE 202 pc e = true := by
  have h0 : pc < 102 := by
    refine Nat.not_le.mp (fun hq => ?_)
    have : code_ 202 pc = none := by
      show cd_202 pc = none
      unfold cd_202
      rw [Nat.ble_eq_true_of_le hq]; rfl
    rw [this] at h; cases h
  by_cases h1 : pc < 64
  · exact ckP_ok ckm_202_0 (by omega) (by omega) h
  by_cases h2 : pc < 102
  · exact ckP_ok ckm_202_1 (by omega) (by omega) h
  omega
theorem cky_203 : ckY 203 = true := by decide +kernel
set_option maxRecDepth 100000 in
theorem ckm_203_0 : ckP 203 0 64 = true := by decide +kernel
set_option maxRecDepth 100000 in
theorem ckm_203_1 : ckP 203 64 64 = true := by decide +kernel
set_option maxRecDepth 100000 in
theorem ckm_203_2 : ckP 203 128 64 = true := by decide +kernel
set_option maxRecDepth 100000 in
theorem ckm_203_3 : ckP 203 192 3 = true := by decide +kernel
theorem cka_203 (pc : Nat) (e : aE) (h : code_ 203 pc = some e) : ckE 203 pc e = true := by
  have h0 : pc < 195 := by
    refine Nat.not_le.mp (fun hq => ?_)
    have : code_ 203 pc = none := by
      show cd_203 pc = none
      unfold cd_203
      rw [Nat.ble_eq_true_of_le hq]; rfl
    rw [this] at h; cases h
  by_cases h1 : pc < 64
  · exact ckP_ok ckm_203_0 (by omega) (by omega) h
  by_cases h2 : pc < 128
  · exact ckP_ok ckm_203_1 (by omega) (by omega) h
  by_cases h3 : pc < 192
  · exact ckP_ok ckm_203_2 (by omega) (by omega) h
  by_cases h4 : pc < 195
  · exact ckP_ok ckm_203_3 (by omega) (by omega) h
  omega
theorem cky_204 : ckY 204 = true := by decide +kernel
set_option maxRecDepth 100000 in
theorem ckm_204_0 : ckP 204 0 37 = true := by decide +kernel
theorem cka_204 (pc : Nat) (e : aE) (h : code_ 204 pc = some e) : ckE 204 pc e = true := by
  have h0 : pc < 37 := by
    refine Nat.not_le.mp (fun hq => ?_)
    have : code_ 204 pc = none := by
      show cd_204 pc = none
      unfold cd_204
      rw [Nat.ble_eq_true_of_le hq]; rfl
    rw [this] at h; cases h
  by_cases h1 : pc < 37
  · exact ckP_ok ckm_204_0 (by omega) (by omega) h
  omega
theorem cky_205 : ckY 205 = true := by decide +kernel
set_option maxRecDepth 100000 in
theorem ckm_205_0 : ckP 205 0 46 = true := by decide +kernel
theorem cka_205 (pc : Nat) (e : aE) (h : code_ 205 pc = some e) : ckE 205 pc e = true := by
  have h0 : pc < 46 := by
    refine Nat.not_le.mp (fun hq => ?_)
    have : code_ 205 pc = none := by
      show cd_205 pc = none
      unfold cd_205
      rw [Nat.ble_eq_true_of_le hq]; rfl
    rw [this] at h; cases h
  by_cases h1 : pc < 46
  · exact ckP_ok ckm_205_0 (by omega) (by omega) h
  omega
theorem cky_206 : ckY 206 = true := by decide +kernel
set_option maxRecDepth 100000 in
theorem ckm_206_0 : ckP 206 0 30 = true := by decide +kernel
theorem cka_206 (pc : Nat) (e : aE) (h : code_ 206 pc = some e) : ckE 206 pc e = true := by
  have h0 : pc < 30 := by
    refine Nat.not_le.mp (fun hq => ?_)
    have : code_ 206 pc = none := by
      show cd_206 pc = none
      unfold cd_206
      rw [Nat.ble_eq_true_of_le hq]; rfl
    rw [this] at h; cases h
  by_cases h1 : pc < 30
  · exact ckP_ok ckm_206_0 (by omega) (by omega) h
  omega
theorem cky_207 : ckY 207 = true := by decide +kernel
set_option maxRecDepth 100000 in
theorem ckm_207_0 : ckP 207 0 43 = true := by decide +kernel
theorem cka_207 (pc : Nat) (e : aE) (h : code_ 207 pc = some e) : ckE 207 pc e = true := by
  have h0 : pc < 43 := by
    refine Nat.not_le.mp (fun hq => ?_)
    have : code_ 207 pc = none := by
      show cd_207 pc = none
      unfold cd_207
      rw [Nat.ble_eq_true_of_le hq]; rfl
    rw [this] at h; cases h
  by_cases h1 : pc < 43
  · exact ckP_ok ckm_207_0 (by omega) (by omega) h
  omega
theorem cky_208 : ckY 208 = true := by decide +kernel
set_option maxRecDepth 100000 in
theorem ckm_208_0 : ckP 208 0 64 = true := by decide +kernel
set_option maxRecDepth 100000 in
theorem ckm_208_1 : ckP 208 64 64 = true := by decide +kernel
set_option maxRecDepth 100000 in
theorem ckm_208_2 : ckP 208 128 64 = true := by decide +kernel
set_option maxRecDepth 100000 in
theorem ckm_208_3 : ckP 208 192 54 = true := by decide +kernel
theorem cka_208 (pc : Nat) (e : aE) (h : code_ 208 pc = some e) : ckE 208 pc e = true := by
  have h0 : pc < 246 := by
    refine Nat.not_le.mp (fun hq => ?_)
    have : code_ 208 pc = none := by
      show cd_208 pc = none
      unfold cd_208
      rw [Nat.ble_eq_true_of_le hq]; rfl
    rw [this] at h; cases h
  by_cases h1 : pc < 64
  · exact ckP_ok ckm_208_0 (by omega) (by omega) h
  by_cases h2 : pc < 128
  · exact ckP_ok ckm_208_1 (by omega) (by omega) h
  by_cases h3 : pc < 192
  · exact ckP_ok ckm_208_2 (by omega) (by omega) h
  by_cases h4 : pc < 246
  · exact ckP_ok ckm_208_3 (by omega) (by omega) h
  omega
theorem cky_209 : ckY 209 = true := by decide +kernel
set_option maxRecDepth 100000 in
theorem ckm_209_0 : ckP 209 0 64 = true := by decide +kernel
set_option maxRecDepth 100000 in
theorem ckm_209_1 : ckP 209 64 64 = true := by decide +kernel
set_option maxRecDepth 100000 in
theorem ckm_209_2 : ckP 209 128 14 = true := by decide +kernel
theorem cka_209 (pc : Nat) (e : aE) (h : code_ 209 pc = some e) : ckE 209 pc e = true := by
  have h0 : pc < 142 := by
    refine Nat.not_le.mp (fun hq => ?_)
    have : code_ 209 pc = none := by
      show cd_209 pc = none
      unfold cd_209
      rw [Nat.ble_eq_true_of_le hq]; rfl
    rw [this] at h; cases h
  by_cases h1 : pc < 64
  · exact ckP_ok ckm_209_0 (by omega) (by omega) h
  by_cases h2 : pc < 128
  · exact ckP_ok ckm_209_1 (by omega) (by omega) h
  by_cases h3 : pc < 142
  · exact ckP_ok ckm_209_2 (by omega) (by omega) h
  omega
theorem cky_210 : ckY 210 = true := by decide +kernel
set_option maxRecDepth 100000 in
theorem ckm_210_0 : ckP 210 0 64 = true := by decide +kernel
set_option maxRecDepth 100000 in
theorem ckm_210_1 : ckP 210 64 64 = true := by decide +kernel
set_option maxRecDepth 100000 in
theorem ckm_210_2 : ckP 210 128 32 = true := by decide +kernel
theorem cka_210 (pc : Nat) (e : aE) (h : code_ 210 pc = some e) : ckE 210 pc e = true := by
  have h0 : pc < 160 := by
    refine Nat.not_le.mp (fun hq => ?_)
    have : code_ 210 pc = none := by
      show cd_210 pc = none
      unfold cd_210
      rw [Nat.ble_eq_true_of_le hq]; rfl
    rw [this] at h; cases h
  by_cases h1 : pc < 64
  · exact ckP_ok ckm_210_0 (by omega) (by omega) h
  by_cases h2 : pc < 128
  · exact ckP_ok ckm_210_1 (by omega) (by omega) h
  by_cases h3 : pc < 160
  · exact ckP_ok ckm_210_2 (by omega) (by omega) h
  omega
theorem cky_211 : ckY 211 = true := by decide +kernel
set_option maxRecDepth 100000 in
theorem ckm_211_0 : ckP 211 0 36 = true := by decide +kernel
theorem cka_211 (pc : Nat) (e : aE) (h : code_ 211 pc = some e) : ckE 211 pc e = true := by
  have h0 : pc < 36 := by
    refine Nat.not_le.mp (fun hq => ?_)
    have : code_ 211 pc = none := by
      show cd_211 pc = none
      unfold cd_211
      rw [Nat.ble_eq_true_of_le hq]; rfl
    rw [this] at h; cases h
  by_cases h1 : pc < 36
  · exact ckP_ok ckm_211_0 (by omega) (by omega) h
  omega
theorem cky_212 : ckY 212 = true := by decide +kernel
set_option maxRecDepth 100000 in
theorem ckm_212_0 : ckP 212 0 23 = true := by decide +kernel
theorem cka_212 (pc : Nat) (e : aE) (h : code_ 212 pc = some e) : ckE 212 pc e = true := by
  have h0 : pc < 23 := by
    refine Nat.not_le.mp (fun hq => ?_)
    have : code_ 212 pc = none := by
      show cd_212 pc = none
      unfold cd_212
      rw [Nat.ble_eq_true_of_le hq]; rfl
    rw [this] at h; cases h
  by_cases h1 : pc < 23
  · exact ckP_ok ckm_212_0 (by omega) (by omega) h
  omega
theorem cky_213 : ckY 213 = true := by decide +kernel
set_option maxRecDepth 100000 in
theorem ckm_213_0 : ckP 213 0 64 = true := by decide +kernel
set_option maxRecDepth 100000 in
theorem ckm_213_1 : ckP 213 64 37 = true := by decide +kernel
theorem cka_213 (pc : Nat) (e : aE) (h : code_ 213 pc = some e) : ckE 213 pc e = true := by
  have h0 : pc < 101 := by
    refine Nat.not_le.mp (fun hq => ?_)
    have : code_ 213 pc = none := by
      show cd_213 pc = none
      unfold cd_213
      rw [Nat.ble_eq_true_of_le hq]; rfl
    rw [this] at h; cases h
  by_cases h1 : pc < 64
  · exact ckP_ok ckm_213_0 (by omega) (by omega) h
  by_cases h2 : pc < 101
  · exact ckP_ok ckm_213_1 (by omega) (by omega) h
  omega
theorem cky_214 : ckY 214 = true := by decide +kernel
set_option maxRecDepth 100000 in
theorem ckm_214_0 : ckP 214 0 64 = true := by decide +kernel
set_option maxRecDepth 100000 in
theorem ckm_214_1 : ckP 214 64 64 = true := by decide +kernel
set_option maxRecDepth 100000 in
theorem ckm_214_2 : ckP 214 128 64 = true := by decide +kernel
set_option maxRecDepth 100000 in
theorem ckm_214_3 : ckP 214 192 64 = true := by decide +kernel
set_option maxRecDepth 100000 in
theorem ckm_214_4 : ckP 214 256 64 = true := by decide +kernel
set_option maxRecDepth 100000 in
theorem ckm_214_5 : ckP 214 320 64 = true := by decide +kernel
set_option maxRecDepth 100000 in
theorem ckm_214_6 : ckP 214 384 12 = true := by decide +kernel
theorem cka_214 (pc : Nat) (e : aE) (h : code_ 214 pc = some e) : ckE 214 pc e = true := by
  have h0 : pc < 396 := by
    refine Nat.not_le.mp (fun hq => ?_)
    have : code_ 214 pc = none := by
      show cd_214 pc = none
      unfold cd_214
      rw [Nat.ble_eq_true_of_le hq]; rfl
    rw [this] at h; cases h
  by_cases h1 : pc < 64
  · exact ckP_ok ckm_214_0 (by omega) (by omega) h
  by_cases h2 : pc < 128
  · exact ckP_ok ckm_214_1 (by omega) (by omega) h
  by_cases h3 : pc < 192
  · exact ckP_ok ckm_214_2 (by omega) (by omega) h
  by_cases h4 : pc < 256
  · exact ckP_ok ckm_214_3 (by omega) (by omega) h
  by_cases h5 : pc < 320
  · exact ckP_ok ckm_214_4 (by omega) (by omega) h
  by_cases h6 : pc < 384
  · exact ckP_ok ckm_214_5 (by omega) (by omega) h
  by_cases h7 : pc < 396
  · exact ckP_ok ckm_214_6 (by omega) (by omega) h
  omega
