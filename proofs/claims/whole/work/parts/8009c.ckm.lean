theorem ckc_253 : hw_ (cw_ 253) (.code (yn_ 253) (bts_ 253) (mxl_ 253) (rt_ 253)) = true := by
  have h : (ch_ (cw_ 253 / 240))[cw_ 253 % 240]? = some (Cond.code (yn_ 253) (bts_ 253) (mxl_ 253) (rt_ 253)) := by
    exact (Eq.refl _ : (ch_ (cw_ 253 / 240))[cw_ 253 % 240]? = _)
  unfold hw_
  rw [decide_eq_true h]
  rfl
theorem cky_253 : ckY 253 = true := by
  unfold ckY
  simp only [ckc_253, Bool.true_and]
  decide +kernel
set_option maxRecDepth 100000 in
theorem ckm_253_0 : ckP 253 0 64 = true := by decide +kernel
set_option maxRecDepth 100000 in
theorem ckm_253_1 : ckP 253 64 64 = true := by decide +kernel
set_option maxRecDepth 100000 in
theorem ckm_253_2 : ckP 253 128 13 = true := by decide +kernel
theorem cka_253 (pc : Nat) (e : aE) (h : code_ 253 pc = some e) : ckE 253 pc e = true := by
  have h0 : pc < 141 := by
    refine Nat.not_le.mp (fun hq => ?_)
    have : code_ 253 pc = none := by
      show cd_253 pc = none
      unfold cd_253
      rw [Nat.ble_eq_true_of_le hq]; rfl
    rw [this] at h; cases h
  by_cases h1 : pc < 64
  · exact ckP_ok ckm_253_0 (by omega) (by omega) h
  by_cases h2 : pc < 128
  · exact ckP_ok ckm_253_1 (by omega) (by omega) h
  by_cases h3 : pc < 141
  · exact ckP_ok ckm_253_2 (by omega) (by omega) h
  omega
theorem ckc_254 : hw_ (cw_ 254) (.code (yn_ 254) (bts_ 254) (mxl_ 254) (rt_ 254)) = true := by
  have h : (ch_ (cw_ 254 / 240))[cw_ 254 % 240]? = some (Cond.code (yn_ 254) (bts_ 254) (mxl_ 254) (rt_ 254)) := by
    exact (Eq.refl _ : (ch_ (cw_ 254 / 240))[cw_ 254 % 240]? = _)
  unfold hw_
  rw [decide_eq_true h]
  rfl
theorem cky_254 : ckY 254 = true := by
  unfold ckY
  simp only [ckc_254, Bool.true_and]
  decide +kernel
set_option maxRecDepth 100000 in
theorem ckm_254_0 : ckP 254 0 64 = true := by decide +kernel
set_option maxRecDepth 100000 in
theorem ckm_254_1 : ckP 254 64 3 = true := by decide +kernel
theorem cka_254 (pc : Nat) (e : aE) (h : code_ 254 pc = some e) : ckE 254 pc e = true := by
  have h0 : pc < 67 := by
    refine Nat.not_le.mp (fun hq => ?_)
    have : code_ 254 pc = none := by
      show cd_254 pc = none
      unfold cd_254
      rw [Nat.ble_eq_true_of_le hq]; rfl
    rw [this] at h; cases h
  by_cases h1 : pc < 64
  · exact ckP_ok ckm_254_0 (by omega) (by omega) h
  by_cases h2 : pc < 67
  · exact ckP_ok ckm_254_1 (by omega) (by omega) h
  omega
theorem ckc_255 : hw_ (cw_ 255) (.code (yn_ 255) (bts_ 255) (mxl_ 255) (rt_ 255)) = true := by
  have h : (ch_ (cw_ 255 / 240))[cw_ 255 % 240]? = some (Cond.code (yn_ 255) (bts_ 255) (mxl_ 255) (rt_ 255)) := by
    exact (Eq.refl _ : (ch_ (cw_ 255 / 240))[cw_ 255 % 240]? = _)
  unfold hw_
  rw [decide_eq_true h]
  rfl
theorem cky_255 : ckY 255 = true := by
  unfold ckY
  simp only [ckc_255, Bool.true_and]
  decide +kernel
set_option maxRecDepth 100000 in
theorem ckm_255_0 : ckP 255 0 64 = true := by decide +kernel
set_option maxRecDepth 100000 in
theorem ckm_255_1 : ckP 255 64 64 = true := by decide +kernel
set_option maxRecDepth 100000 in
theorem ckm_255_2 : ckP 255 128 64 = true := by decide +kernel
set_option maxRecDepth 100000 in
theorem ckm_255_3 : ckP 255 192 5 = true := by decide +kernel
theorem cka_255 (pc : Nat) (e : aE) (h : code_ 255 pc = some e) : ckE 255 pc e = true := by
  have h0 : pc < 197 := by
    refine Nat.not_le.mp (fun hq => ?_)
    have : code_ 255 pc = none := by
      show cd_255 pc = none
      unfold cd_255
      rw [Nat.ble_eq_true_of_le hq]; rfl
    rw [this] at h; cases h
  by_cases h1 : pc < 64
  · exact ckP_ok ckm_255_0 (by omega) (by omega) h
  by_cases h2 : pc < 128
  · exact ckP_ok ckm_255_1 (by omega) (by omega) h
  by_cases h3 : pc < 192
  · exact ckP_ok ckm_255_2 (by omega) (by omega) h
  by_cases h4 : pc < 197
  · exact ckP_ok ckm_255_3 (by omega) (by omega) h
  omega
theorem ckc_256 : hw_ (cw_ 256) (.code (yn_ 256) (bts_ 256) (mxl_ 256) (rt_ 256)) = true := by
  have h : (ch_ (cw_ 256 / 240))[cw_ 256 % 240]? = some (Cond.code (yn_ 256) (bts_ 256) (mxl_ 256) (rt_ 256)) := by
    exact (Eq.refl _ : (ch_ (cw_ 256 / 240))[cw_ 256 % 240]? = _)
  unfold hw_
  rw [decide_eq_true h]
  rfl
theorem cky_256 : ckY 256 = true := by
  unfold ckY
  simp only [ckc_256, Bool.true_and]
  decide +kernel
set_option maxRecDepth 100000 in
theorem ckm_256_0 : ckP 256 0 64 = true := by decide +kernel
set_option maxRecDepth 100000 in
theorem ckm_256_1 : ckP 256 64 47 = true := by decide +kernel
theorem cka_256 (pc : Nat) (e : aE) (h : code_ 256 pc = some e) : ckE 256 pc e = true := by
  have h0 : pc < 111 := by
    refine Nat.not_le.mp (fun hq => ?_)
    have : code_ 256 pc = none := by
      show cd_256 pc = none
      unfold cd_256
      rw [Nat.ble_eq_true_of_le hq]; rfl
    rw [this] at h; cases h
  by_cases h1 : pc < 64
  · exact ckP_ok ckm_256_0 (by omega) (by omega) h
  by_cases h2 : pc < 111
  · exact ckP_ok ckm_256_1 (by omega) (by omega) h
  omega
theorem ckc_257 : hw_ (cw_ 257) (.code (yn_ 257) (bts_ 257) (mxl_ 257) (rt_ 257)) = true := by
  have h : (ch_ (cw_ 257 / 240))[cw_ 257 % 240]? = some (Cond.code (yn_ 257) (bts_ 257) (mxl_ 257) (rt_ 257)) := by
    exact (Eq.refl _ : (ch_ (cw_ 257 / 240))[cw_ 257 % 240]? = _)
  unfold hw_
  rw [decide_eq_true h]
  rfl
theorem cky_257 : ckY 257 = true := by
  unfold ckY
  simp only [ckc_257, Bool.true_and]
  decide +kernel
set_option maxRecDepth 100000 in
theorem ckm_257_0 : ckP 257 0 64 = true := by decide +kernel
set_option maxRecDepth 100000 in
theorem ckm_257_1 : ckP 257 64 64 = true := by decide +kernel
set_option maxRecDepth 100000 in
theorem ckm_257_2 : ckP 257 128 64 = true := by decide +kernel
set_option maxRecDepth 100000 in
theorem ckm_257_3 : ckP 257 192 64 = true := by decide +kernel
set_option maxRecDepth 100000 in
theorem ckm_257_4 : ckP 257 256 24 = true := by decide +kernel
theorem cka_257 (pc : Nat) (e : aE) (h : code_ 257 pc = some e) : ckE 257 pc e = true := by
  have h0 : pc < 280 := by
    refine Nat.not_le.mp (fun hq => ?_)
    have : code_ 257 pc = none := by
      show cd_257 pc = none
      unfold cd_257
      rw [Nat.ble_eq_true_of_le hq]; rfl
    rw [this] at h; cases h
  by_cases h1 : pc < 64
  · exact ckP_ok ckm_257_0 (by omega) (by omega) h
  by_cases h2 : pc < 128
  · exact ckP_ok ckm_257_1 (by omega) (by omega) h
  by_cases h3 : pc < 192
  · exact ckP_ok ckm_257_2 (by omega) (by omega) h
  by_cases h4 : pc < 256
  · exact ckP_ok ckm_257_3 (by omega) (by omega) h
  by_cases h5 : pc < 280
  · exact ckP_ok ckm_257_4 (by omega) (by omega) h
  omega
theorem ckc_258 : hw_ (cw_ 258) (.code (yn_ 258) (bts_ 258) (mxl_ 258) (rt_ 258)) = true := by
  have h : (ch_ (cw_ 258 / 240))[cw_ 258 % 240]? = some (Cond.code (yn_ 258) (bts_ 258) (mxl_ 258) (rt_ 258)) := by
    exact (Eq.refl _ : (ch_ (cw_ 258 / 240))[cw_ 258 % 240]? = _)
  unfold hw_
  rw [decide_eq_true h]
  rfl
theorem cky_258 : ckY 258 = true := by
  unfold ckY
  simp only [ckc_258, Bool.true_and]
  decide +kernel
set_option maxRecDepth 100000 in
theorem ckm_258_0 : ckP 258 0 64 = true := by decide +kernel
set_option maxRecDepth 100000 in
theorem ckm_258_1 : ckP 258 64 64 = true := by decide +kernel
set_option maxRecDepth 100000 in
theorem ckm_258_2 : ckP 258 128 64 = true := by decide +kernel
set_option maxRecDepth 100000 in
theorem ckm_258_3 : ckP 258 192 64 = true := by decide +kernel
set_option maxRecDepth 100000 in
theorem ckm_258_4 : ckP 258 256 34 = true := by decide +kernel
theorem cka_258 (pc : Nat) (e : aE) (h : code_ 258 pc = some e) : ckE 258 pc e = true := by
  have h0 : pc < 290 := by
    refine Nat.not_le.mp (fun hq => ?_)
    have : code_ 258 pc = none := by
      show cd_258 pc = none
      unfold cd_258
      rw [Nat.ble_eq_true_of_le hq]; rfl
    rw [this] at h; cases h
  by_cases h1 : pc < 64
  · exact ckP_ok ckm_258_0 (by omega) (by omega) h
  by_cases h2 : pc < 128
  · exact ckP_ok ckm_258_1 (by omega) (by omega) h
  by_cases h3 : pc < 192
  · exact ckP_ok ckm_258_2 (by omega) (by omega) h
  by_cases h4 : pc < 256
  · exact ckP_ok ckm_258_3 (by omega) (by omega) h
  by_cases h5 : pc < 290
  · exact ckP_ok ckm_258_4 (by omega) (by omega) h
  omega
